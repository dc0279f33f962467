/-! the class reads a text -/
theorem P2.go {G0 G : XT} {len k : Nat} {f : Int} (h : P2 G0 G len k f) : P2 G0 (qup G 2 2 ((k + 1 : Nat) : Int)) len (k + 1) f := by
  obtain ⟨h1, h2, h3, h4, h5⟩ := h
  exact ⟨fun c hc => by rw [qup_c hc]; exact h1 c hc, by rw [qup_ap, if_pos rfl, if_neg (by decide)]; exact h2, by rw [qup_ap, if_pos rfl, if_neg (by decide)]; exact h3, by rw [qup_ap, if_pos rfl, if_pos rfl], by rw [qup_ap, if_pos rfl, if_neg (by decide)]; exact h5⟩
theorem P2.bad {G0 G : XT} {len k : Nat} {f : Int} (h : P2 G0 G len k f) : PFl G0 (qup G 2 3 (k : Int)) len (k : Int) := by
  obtain ⟨h1, h2, h3, h4, h5⟩ := h
  exact ⟨fun c hc => by rw [qup_c hc]; exact h1 c hc, by rw [qup_ap, if_pos rfl, if_neg (by decide)]; exact h2, by rw [qup_ap, if_pos rfl, if_neg (by decide)]; exact h3, by rw [qup_ap, if_pos rfl, if_pos rfl]⟩
theorem k48_3 {tb : qTb} {F G0 G : XT} {T : Nat → Int} {len k h s a : Nat} {W : XT} {R : Option qV → qM → Prop} (hlen : len ≤ 120) (hkl : k < len) (hT : ∀ j : Nat, j < len → F 1 j = T j ∧ 0 ≤ T j ∧ T j ≤ 255) (hP : P2 G0 G len k (-9)) (hQ : PQ 3 F G0 h s a W) (hk : ∀ r G0 G, stp T len k h s a W r → post 3 F len r G0 G → R none (LAY, G)) : qW tb 48 (119, 1262) 0 [(3, 2), (3, 3), (9, 0)] [] (LAY, G) R := by
  have hQ0 := hQ
  obtain ⟨q1, ⟨q2, q3, q4⟩, ⟨q5, q6, q7⟩, -⟩ := hQ
  have hP0 := hP
  obtain ⟨p1, p2, p3, p4, p5⟩ := hP
  have r0 := Rf_k (P2_rf q1.1 p1 p2)
  have g0 : G 3 0 = (h : Int) := by rw [p1 3 (by decide)]; exact q2
  have g1 : G 3 1 = (s : Int) := by rw [p1 3 (by decide)]; exact q3
  have g2 : G 3 2 = (a : Int) := by rw [p1 3 (by decide)]; exact q4
  have e0 : G 1 k = T k := by rw [p1 1 (by decide), q1.2 1 (by decide) (by decide)]; exact (hT k hkl).1
  have w1 : w32 ((k : Int) + 1) = ((k + 1 : Nat) : Int) := by rw [w32_id ⟨by omega, by omega⟩]; omega
  have bk : (0 ≤ (k : Int) ∧ (k : Int) < 120) = True := eq_true (by omega)
  have hfa : ∀ r, stp T len k h s a W r → r = .inl (k : Int) → R none (LAY, qup G 2 3 (k : Int)) := fun r hs hr => hk r G0 _ hs (by rw [hr]; exact ⟨hP0.bad, q1⟩)
  by_cases c1 : T k = 72
  · have e1 : G 1 k = 72 := e0.trans c1
    by_cases c2 : h < 4
    · have f2 : ((h : Int) < 4) = True := eq_true (by omega)
      simp only [YK, c48, t48, cl49, cl50, cl51, tgK, lyK, rkK, wK, rfK, qRes_eq, qNon_eq, qup_ap, vup_ap, vcpy_ap, kc8_0, kc8_1, kc8_2, lc_lt, lc_gt, lc_eq, Option.toList_some, Option.toList_none, List.cons_append, List.nil_append, lay_len, lay_sz, Nat.reduceAdd, Nat.reduceSub, Nat.reduceMul, Int.reduceToNat, Int.reduceLE, Int.reduceLT, Int.reduceEq, Int.reduceAdd, Int.reduceSub, Int.reduceMul, Int.reduceNeg, Nat.reduceLeDiff, Nat.reduceLT, true_and, and_true, false_and, and_false, qcat_0, qcat_1, qcat_3, qcat_9, Nat.reduceEqDiff, if_true, if_false, ite_self, or_true, true_or, or_false, false_or, forall_const, not_true_eq_false, not_false_eq_true, false_implies, implies_true, qtK0, qtK1, qtK2, qtK3, qtK4, List.getD_cons_zero, List.getD_cons_succ, Int.toNat_natCast, ne_eq, qcK, hbF, bsetF, bclrF, r0, g0, g1, g2, p2, p3, p4, p5, w1, bk, e1, f2]
      refine k49_3 hlen (by omega) hT c1 c2 hP0.go hQ0 ?_
      intro r G1 G2 h1 h2
      have hq := hk r G1 G2 h1 h2
      simp only [YK, c48, t48, tgK, lyK, rkK, wK, rfK, qRes_eq, qNon_eq, qup_ap, vup_ap, vcpy_ap, kc8_0, kc8_1, kc8_2, lc_lt, lc_gt, lc_eq, Option.toList_some, Option.toList_none, List.cons_append, List.nil_append, lay_len, lay_sz, Nat.reduceAdd, Nat.reduceSub, Nat.reduceMul, Int.reduceToNat, Int.reduceLE, Int.reduceLT, Int.reduceEq, Int.reduceAdd, Int.reduceSub, Int.reduceMul, Int.reduceNeg, Nat.reduceLeDiff, Nat.reduceLT, true_and, and_true, false_and, and_false, qcat_0, qcat_1, qcat_3, qcat_9, Nat.reduceEqDiff, if_true, if_false, ite_self, or_true, true_or, or_false, false_or, forall_const, not_true_eq_false, not_false_eq_true, false_implies, implies_true, qtK0, qtK1, qtK2, qtK3, qtK4, List.getD_cons_zero, List.getD_cons_succ, Int.toNat_natCast, ne_eq, qcK, hbF, bsetF, bclrF]
      exact hq
    · have f2 : ((h : Int) < 4) = False := eq_false (by omega)
      have hq := hfa (.inl (k : Int)) (Or.inr (Or.inr (Or.inr ⟨by omega, by omega, by omega, rfl⟩))) rfl
      simp only [YK, c48, t48, cl49, cl50, cl51, tgK, lyK, rkK, wK, rfK, qRes_eq, qNon_eq, qup_ap, vup_ap, vcpy_ap, kc8_0, kc8_1, kc8_2, lc_lt, lc_gt, lc_eq, Option.toList_some, Option.toList_none, List.cons_append, List.nil_append, lay_len, lay_sz, Nat.reduceAdd, Nat.reduceSub, Nat.reduceMul, Int.reduceToNat, Int.reduceLE, Int.reduceLT, Int.reduceEq, Int.reduceAdd, Int.reduceSub, Int.reduceMul, Int.reduceNeg, Nat.reduceLeDiff, Nat.reduceLT, true_and, and_true, false_and, and_false, qcat_0, qcat_1, qcat_3, qcat_9, Nat.reduceEqDiff, if_true, if_false, ite_self, or_true, true_or, or_false, false_or, forall_const, not_true_eq_false, not_false_eq_true, false_implies, implies_true, qtK0, qtK1, qtK2, qtK3, qtK4, List.getD_cons_zero, List.getD_cons_succ, Int.toNat_natCast, ne_eq, qcK, hbF, bsetF, bclrF, r0, g0, g1, g2, p2, p3, p4, p5, w1, bk, e1, f2]
      exact hq
  · by_cases c3 : T k = 88
    · have e1 : G 1 k = 88 := e0.trans c3
      by_cases c4 : 0 < h
      · have f4 : (0 < (h : Int)) = True := eq_true (by omega)
        have f4b : ((h : Int) ≤ 0) = False := eq_false (by omega)
        by_cases c5 : s < 4
        · have f5 : ((s : Int) < 4) = True := eq_true (by omega)
          simp only [YK, c48, t48, cl49, cl50, cl51, tgK, lyK, rkK, wK, rfK, qRes_eq, qNon_eq, qup_ap, vup_ap, vcpy_ap, kc8_0, kc8_1, kc8_2, lc_lt, lc_gt, lc_eq, Option.toList_some, Option.toList_none, List.cons_append, List.nil_append, lay_len, lay_sz, Nat.reduceAdd, Nat.reduceSub, Nat.reduceMul, Int.reduceToNat, Int.reduceLE, Int.reduceLT, Int.reduceEq, Int.reduceAdd, Int.reduceSub, Int.reduceMul, Int.reduceNeg, Nat.reduceLeDiff, Nat.reduceLT, true_and, and_true, false_and, and_false, qcat_0, qcat_1, qcat_3, qcat_9, Nat.reduceEqDiff, if_true, if_false, ite_self, or_true, true_or, or_false, false_or, forall_const, not_true_eq_false, not_false_eq_true, false_implies, implies_true, qtK0, qtK1, qtK2, qtK3, qtK4, List.getD_cons_zero, List.getD_cons_succ, Int.toNat_natCast, ne_eq, qcK, hbF, bsetF, bclrF, r0, g0, g1, g2, p2, p3, p4, p5, w1, bk, e1, f4, f4b, f5]
          refine k50_3 hlen (by omega) hT c3 c4 c5 hP0.go hQ0 ?_
          intro r G1 G2 h1 h2
          have hq := hk r G1 G2 h1 h2
          simp only [YK, c48, t48, tgK, lyK, rkK, wK, rfK, qRes_eq, qNon_eq, qup_ap, vup_ap, vcpy_ap, kc8_0, kc8_1, kc8_2, lc_lt, lc_gt, lc_eq, Option.toList_some, Option.toList_none, List.cons_append, List.nil_append, lay_len, lay_sz, Nat.reduceAdd, Nat.reduceSub, Nat.reduceMul, Int.reduceToNat, Int.reduceLE, Int.reduceLT, Int.reduceEq, Int.reduceAdd, Int.reduceSub, Int.reduceMul, Int.reduceNeg, Nat.reduceLeDiff, Nat.reduceLT, true_and, and_true, false_and, and_false, qcat_0, qcat_1, qcat_3, qcat_9, Nat.reduceEqDiff, if_true, if_false, ite_self, or_true, true_or, or_false, false_or, forall_const, not_true_eq_false, not_false_eq_true, false_implies, implies_true, qtK0, qtK1, qtK2, qtK3, qtK4, List.getD_cons_zero, List.getD_cons_succ, Int.toNat_natCast, ne_eq, qcK, hbF, bsetF, bclrF]
          exact hq
        · have f5 : ((s : Int) < 4) = False := eq_false (by omega)
          have hq := hfa (.inl (k : Int)) (Or.inr (Or.inr (Or.inr ⟨by omega, by omega, by omega, rfl⟩))) rfl
          simp only [YK, c48, t48, cl49, cl50, cl51, tgK, lyK, rkK, wK, rfK, qRes_eq, qNon_eq, qup_ap, vup_ap, vcpy_ap, kc8_0, kc8_1, kc8_2, lc_lt, lc_gt, lc_eq, Option.toList_some, Option.toList_none, List.cons_append, List.nil_append, lay_len, lay_sz, Nat.reduceAdd, Nat.reduceSub, Nat.reduceMul, Int.reduceToNat, Int.reduceLE, Int.reduceLT, Int.reduceEq, Int.reduceAdd, Int.reduceSub, Int.reduceMul, Int.reduceNeg, Nat.reduceLeDiff, Nat.reduceLT, true_and, and_true, false_and, and_false, qcat_0, qcat_1, qcat_3, qcat_9, Nat.reduceEqDiff, if_true, if_false, ite_self, or_true, true_or, or_false, false_or, forall_const, not_true_eq_false, not_false_eq_true, false_implies, implies_true, qtK0, qtK1, qtK2, qtK3, qtK4, List.getD_cons_zero, List.getD_cons_succ, Int.toNat_natCast, ne_eq, qcK, hbF, bsetF, bclrF, r0, g0, g1, g2, p2, p3, p4, p5, w1, bk, e1, f4, f4b, f5]
          exact hq
      · have f4 : (0 < (h : Int)) = False := eq_false (by omega)
        have f4b : ((h : Int) ≤ 0) = True := eq_true (by omega)
        have hq := hfa (.inl (k : Int)) (Or.inr (Or.inr (Or.inr ⟨by omega, by omega, by omega, rfl⟩))) rfl
        simp only [YK, c48, t48, cl49, cl50, cl51, tgK, lyK, rkK, wK, rfK, qRes_eq, qNon_eq, qup_ap, vup_ap, vcpy_ap, kc8_0, kc8_1, kc8_2, lc_lt, lc_gt, lc_eq, Option.toList_some, Option.toList_none, List.cons_append, List.nil_append, lay_len, lay_sz, Nat.reduceAdd, Nat.reduceSub, Nat.reduceMul, Int.reduceToNat, Int.reduceLE, Int.reduceLT, Int.reduceEq, Int.reduceAdd, Int.reduceSub, Int.reduceMul, Int.reduceNeg, Nat.reduceLeDiff, Nat.reduceLT, true_and, and_true, false_and, and_false, qcat_0, qcat_1, qcat_3, qcat_9, Nat.reduceEqDiff, if_true, if_false, ite_self, or_true, true_or, or_false, false_or, forall_const, not_true_eq_false, not_false_eq_true, false_implies, implies_true, qtK0, qtK1, qtK2, qtK3, qtK4, List.getD_cons_zero, List.getD_cons_succ, Int.toNat_natCast, ne_eq, qcK, hbF, bsetF, bclrF, r0, g0, g1, g2, p2, p3, p4, p5, w1, bk, e1, f4, f4b]
        exact hq
    · by_cases c6 : T k = 65
      · have e1 : G 1 k = 65 := e0.trans c6
        by_cases c7 : a < 12
        · have f7 : ((a : Int) < 12) = True := eq_true (by omega)
          simp only [YK, c48, t48, cl49, cl50, cl51, tgK, lyK, rkK, wK, rfK, qRes_eq, qNon_eq, qup_ap, vup_ap, vcpy_ap, kc8_0, kc8_1, kc8_2, lc_lt, lc_gt, lc_eq, Option.toList_some, Option.toList_none, List.cons_append, List.nil_append, lay_len, lay_sz, Nat.reduceAdd, Nat.reduceSub, Nat.reduceMul, Int.reduceToNat, Int.reduceLE, Int.reduceLT, Int.reduceEq, Int.reduceAdd, Int.reduceSub, Int.reduceMul, Int.reduceNeg, Nat.reduceLeDiff, Nat.reduceLT, true_and, and_true, false_and, and_false, qcat_0, qcat_1, qcat_3, qcat_9, Nat.reduceEqDiff, if_true, if_false, ite_self, or_true, true_or, or_false, false_or, forall_const, not_true_eq_false, not_false_eq_true, false_implies, implies_true, qtK0, qtK1, qtK2, qtK3, qtK4, List.getD_cons_zero, List.getD_cons_succ, Int.toNat_natCast, ne_eq, qcK, hbF, bsetF, bclrF, r0, g0, g1, g2, p2, p3, p4, p5, w1, bk, e1, f7]
          refine k51_3 hlen (by omega) hT c6 c7 hP0.go hQ0 ?_
          intro r G1 G2 h1 h2
          have hq := hk r G1 G2 h1 h2
          simp only [YK, c48, t48, tgK, lyK, rkK, wK, rfK, qRes_eq, qNon_eq, qup_ap, vup_ap, vcpy_ap, kc8_0, kc8_1, kc8_2, lc_lt, lc_gt, lc_eq, Option.toList_some, Option.toList_none, List.cons_append, List.nil_append, lay_len, lay_sz, Nat.reduceAdd, Nat.reduceSub, Nat.reduceMul, Int.reduceToNat, Int.reduceLE, Int.reduceLT, Int.reduceEq, Int.reduceAdd, Int.reduceSub, Int.reduceMul, Int.reduceNeg, Nat.reduceLeDiff, Nat.reduceLT, true_and, and_true, false_and, and_false, qcat_0, qcat_1, qcat_3, qcat_9, Nat.reduceEqDiff, if_true, if_false, ite_self, or_true, true_or, or_false, false_or, forall_const, not_true_eq_false, not_false_eq_true, false_implies, implies_true, qtK0, qtK1, qtK2, qtK3, qtK4, List.getD_cons_zero, List.getD_cons_succ, Int.toNat_natCast, ne_eq, qcK, hbF, bsetF, bclrF]
          exact hq
        · have f7 : ((a : Int) < 12) = False := eq_false (by omega)
          have hq := hfa (.inl (k : Int)) (Or.inr (Or.inr (Or.inr ⟨by omega, by omega, by omega, rfl⟩))) rfl
          simp only [YK, c48, t48, cl49, cl50, cl51, tgK, lyK, rkK, wK, rfK, qRes_eq, qNon_eq, qup_ap, vup_ap, vcpy_ap, kc8_0, kc8_1, kc8_2, lc_lt, lc_gt, lc_eq, Option.toList_some, Option.toList_none, List.cons_append, List.nil_append, lay_len, lay_sz, Nat.reduceAdd, Nat.reduceSub, Nat.reduceMul, Int.reduceToNat, Int.reduceLE, Int.reduceLT, Int.reduceEq, Int.reduceAdd, Int.reduceSub, Int.reduceMul, Int.reduceNeg, Nat.reduceLeDiff, Nat.reduceLT, true_and, and_true, false_and, and_false, qcat_0, qcat_1, qcat_3, qcat_9, Nat.reduceEqDiff, if_true, if_false, ite_self, or_true, true_or, or_false, false_or, forall_const, not_true_eq_false, not_false_eq_true, false_implies, implies_true, qtK0, qtK1, qtK2, qtK3, qtK4, List.getD_cons_zero, List.getD_cons_succ, Int.toNat_natCast, ne_eq, qcK, hbF, bsetF, bclrF, r0, g0, g1, g2, p2, p3, p4, p5, w1, bk, e1, f7]
          exact hq
      · have f1 : (T k = 72) = False := eq_false c1
        have f3 : (T k = 88) = False := eq_false c3
        have f6 : (T k = 65) = False := eq_false c6
        have hq := hfa (.inl (k : Int)) (Or.inr (Or.inr (Or.inr ⟨by omega, by omega, by omega, rfl⟩))) rfl
        simp only [YK, c48, t48, cl49, cl50, cl51, tgK, lyK, rkK, wK, rfK, qRes_eq, qNon_eq, qup_ap, vup_ap, vcpy_ap, kc8_0, kc8_1, kc8_2, lc_lt, lc_gt, lc_eq, Option.toList_some, Option.toList_none, List.cons_append, List.nil_append, lay_len, lay_sz, Nat.reduceAdd, Nat.reduceSub, Nat.reduceMul, Int.reduceToNat, Int.reduceLE, Int.reduceLT, Int.reduceEq, Int.reduceAdd, Int.reduceSub, Int.reduceMul, Int.reduceNeg, Nat.reduceLeDiff, Nat.reduceLT, true_and, and_true, false_and, and_false, qcat_0, qcat_1, qcat_3, qcat_9, Nat.reduceEqDiff, if_true, if_false, ite_self, or_true, true_or, or_false, false_or, forall_const, not_true_eq_false, not_false_eq_true, false_implies, implies_true, qtK0, qtK1, qtK2, qtK3, qtK4, List.getD_cons_zero, List.getD_cons_succ, Int.toNat_natCast, ne_eq, qcK, hbF, bsetF, bclrF, r0, g0, g1, g2, p2, p3, p4, p5, w1, bk, e0, f1, f3, f6]
        exact hq
theorem k48_13 {tb : qTb} {F G0 G : XT} {T : Nat → Int} {len k h s a : Nat} {W : XT} {R : Option qV → qM → Prop} (hlen : len ≤ 120) (hkl : k < len) (hT : ∀ j : Nat, j < len → F 1 j = T j ∧ 0 ≤ T j ∧ T j ≤ 255) (hP : P2 G0 G len k (-9)) (hQ : PQ 13 F G0 h s a W) (hk : ∀ r G0 G, stp T len k h s a W r → post 13 F len r G0 G → R none (LAY, G)) : qW tb 48 (119, 1262) 0 [(3, 2), (3, 13), (9, 0)] [] (LAY, G) R := by
  have hQ0 := hQ
  obtain ⟨q1, ⟨q2, q3, q4⟩, ⟨q5, q6, q7⟩, -⟩ := hQ
  have hP0 := hP
  obtain ⟨p1, p2, p3, p4, p5⟩ := hP
  have r0 := Rf_k (P2_rf q1.1 p1 p2)
  have g0 : G 13 0 = (h : Int) := by rw [p1 13 (by decide)]; exact q2
  have g1 : G 13 1 = (s : Int) := by rw [p1 13 (by decide)]; exact q3
  have g2 : G 13 2 = (a : Int) := by rw [p1 13 (by decide)]; exact q4
  have e0 : G 1 k = T k := by rw [p1 1 (by decide), q1.2 1 (by decide) (by decide)]; exact (hT k hkl).1
  have w1 : w32 ((k : Int) + 1) = ((k + 1 : Nat) : Int) := by rw [w32_id ⟨by omega, by omega⟩]; omega
  have bk : (0 ≤ (k : Int) ∧ (k : Int) < 120) = True := eq_true (by omega)
  have hfa : ∀ r, stp T len k h s a W r → r = .inl (k : Int) → R none (LAY, qup G 2 3 (k : Int)) := fun r hs hr => hk r G0 _ hs (by rw [hr]; exact ⟨hP0.bad, q1⟩)
  by_cases c1 : T k = 72
  · have e1 : G 1 k = 72 := e0.trans c1
    by_cases c2 : h < 4
    · have f2 : ((h : Int) < 4) = True := eq_true (by omega)
      simp only [YK, c48, t48, cl49, cl50, cl51, tgK, lyK, rkK, wK, rfK, qRes_eq, qNon_eq, qup_ap, vup_ap, vcpy_ap, kc8_0, kc8_1, kc8_2, lc_lt, lc_gt, lc_eq, Option.toList_some, Option.toList_none, List.cons_append, List.nil_append, lay_len, lay_sz, Nat.reduceAdd, Nat.reduceSub, Nat.reduceMul, Int.reduceToNat, Int.reduceLE, Int.reduceLT, Int.reduceEq, Int.reduceAdd, Int.reduceSub, Int.reduceMul, Int.reduceNeg, Nat.reduceLeDiff, Nat.reduceLT, true_and, and_true, false_and, and_false, qcat_0, qcat_1, qcat_3, qcat_9, Nat.reduceEqDiff, if_true, if_false, ite_self, or_true, true_or, or_false, false_or, forall_const, not_true_eq_false, not_false_eq_true, false_implies, implies_true, qtK0, qtK1, qtK2, qtK3, qtK4, List.getD_cons_zero, List.getD_cons_succ, Int.toNat_natCast, ne_eq, qcK, hbF, bsetF, bclrF, r0, g0, g1, g2, p2, p3, p4, p5, w1, bk, e1, f2]
      refine k49_13 hlen (by omega) hT c1 c2 hP0.go hQ0 ?_
      intro r G1 G2 h1 h2
      have hq := hk r G1 G2 h1 h2
      simp only [YK, c48, t48, tgK, lyK, rkK, wK, rfK, qRes_eq, qNon_eq, qup_ap, vup_ap, vcpy_ap, kc8_0, kc8_1, kc8_2, lc_lt, lc_gt, lc_eq, Option.toList_some, Option.toList_none, List.cons_append, List.nil_append, lay_len, lay_sz, Nat.reduceAdd, Nat.reduceSub, Nat.reduceMul, Int.reduceToNat, Int.reduceLE, Int.reduceLT, Int.reduceEq, Int.reduceAdd, Int.reduceSub, Int.reduceMul, Int.reduceNeg, Nat.reduceLeDiff, Nat.reduceLT, true_and, and_true, false_and, and_false, qcat_0, qcat_1, qcat_3, qcat_9, Nat.reduceEqDiff, if_true, if_false, ite_self, or_true, true_or, or_false, false_or, forall_const, not_true_eq_false, not_false_eq_true, false_implies, implies_true, qtK0, qtK1, qtK2, qtK3, qtK4, List.getD_cons_zero, List.getD_cons_succ, Int.toNat_natCast, ne_eq, qcK, hbF, bsetF, bclrF]
      exact hq
    · have f2 : ((h : Int) < 4) = False := eq_false (by omega)
      have hq := hfa (.inl (k : Int)) (Or.inr (Or.inr (Or.inr ⟨by omega, by omega, by omega, rfl⟩))) rfl
      simp only [YK, c48, t48, cl49, cl50, cl51, tgK, lyK, rkK, wK, rfK, qRes_eq, qNon_eq, qup_ap, vup_ap, vcpy_ap, kc8_0, kc8_1, kc8_2, lc_lt, lc_gt, lc_eq, Option.toList_some, Option.toList_none, List.cons_append, List.nil_append, lay_len, lay_sz, Nat.reduceAdd, Nat.reduceSub, Nat.reduceMul, Int.reduceToNat, Int.reduceLE, Int.reduceLT, Int.reduceEq, Int.reduceAdd, Int.reduceSub, Int.reduceMul, Int.reduceNeg, Nat.reduceLeDiff, Nat.reduceLT, true_and, and_true, false_and, and_false, qcat_0, qcat_1, qcat_3, qcat_9, Nat.reduceEqDiff, if_true, if_false, ite_self, or_true, true_or, or_false, false_or, forall_const, not_true_eq_false, not_false_eq_true, false_implies, implies_true, qtK0, qtK1, qtK2, qtK3, qtK4, List.getD_cons_zero, List.getD_cons_succ, Int.toNat_natCast, ne_eq, qcK, hbF, bsetF, bclrF, r0, g0, g1, g2, p2, p3, p4, p5, w1, bk, e1, f2]
      exact hq
  · by_cases c3 : T k = 88
    · have e1 : G 1 k = 88 := e0.trans c3
      by_cases c4 : 0 < h
      · have f4 : (0 < (h : Int)) = True := eq_true (by omega)
        have f4b : ((h : Int) ≤ 0) = False := eq_false (by omega)
        by_cases c5 : s < 4
        · have f5 : ((s : Int) < 4) = True := eq_true (by omega)
          simp only [YK, c48, t48, cl49, cl50, cl51, tgK, lyK, rkK, wK, rfK, qRes_eq, qNon_eq, qup_ap, vup_ap, vcpy_ap, kc8_0, kc8_1, kc8_2, lc_lt, lc_gt, lc_eq, Option.toList_some, Option.toList_none, List.cons_append, List.nil_append, lay_len, lay_sz, Nat.reduceAdd, Nat.reduceSub, Nat.reduceMul, Int.reduceToNat, Int.reduceLE, Int.reduceLT, Int.reduceEq, Int.reduceAdd, Int.reduceSub, Int.reduceMul, Int.reduceNeg, Nat.reduceLeDiff, Nat.reduceLT, true_and, and_true, false_and, and_false, qcat_0, qcat_1, qcat_3, qcat_9, Nat.reduceEqDiff, if_true, if_false, ite_self, or_true, true_or, or_false, false_or, forall_const, not_true_eq_false, not_false_eq_true, false_implies, implies_true, qtK0, qtK1, qtK2, qtK3, qtK4, List.getD_cons_zero, List.getD_cons_succ, Int.toNat_natCast, ne_eq, qcK, hbF, bsetF, bclrF, r0, g0, g1, g2, p2, p3, p4, p5, w1, bk, e1, f4, f4b, f5]
          refine k50_13 hlen (by omega) hT c3 c4 c5 hP0.go hQ0 ?_
          intro r G1 G2 h1 h2
          have hq := hk r G1 G2 h1 h2
          simp only [YK, c48, t48, tgK, lyK, rkK, wK, rfK, qRes_eq, qNon_eq, qup_ap, vup_ap, vcpy_ap, kc8_0, kc8_1, kc8_2, lc_lt, lc_gt, lc_eq, Option.toList_some, Option.toList_none, List.cons_append, List.nil_append, lay_len, lay_sz, Nat.reduceAdd, Nat.reduceSub, Nat.reduceMul, Int.reduceToNat, Int.reduceLE, Int.reduceLT, Int.reduceEq, Int.reduceAdd, Int.reduceSub, Int.reduceMul, Int.reduceNeg, Nat.reduceLeDiff, Nat.reduceLT, true_and, and_true, false_and, and_false, qcat_0, qcat_1, qcat_3, qcat_9, Nat.reduceEqDiff, if_true, if_false, ite_self, or_true, true_or, or_false, false_or, forall_const, not_true_eq_false, not_false_eq_true, false_implies, implies_true, qtK0, qtK1, qtK2, qtK3, qtK4, List.getD_cons_zero, List.getD_cons_succ, Int.toNat_natCast, ne_eq, qcK, hbF, bsetF, bclrF]
          exact hq
        · have f5 : ((s : Int) < 4) = False := eq_false (by omega)
          have hq := hfa (.inl (k : Int)) (Or.inr (Or.inr (Or.inr ⟨by omega, by omega, by omega, rfl⟩))) rfl
          simp only [YK, c48, t48, cl49, cl50, cl51, tgK, lyK, rkK, wK, rfK, qRes_eq, qNon_eq, qup_ap, vup_ap, vcpy_ap, kc8_0, kc8_1, kc8_2, lc_lt, lc_gt, lc_eq, Option.toList_some, Option.toList_none, List.cons_append, List.nil_append, lay_len, lay_sz, Nat.reduceAdd, Nat.reduceSub, Nat.reduceMul, Int.reduceToNat, Int.reduceLE, Int.reduceLT, Int.reduceEq, Int.reduceAdd, Int.reduceSub, Int.reduceMul, Int.reduceNeg, Nat.reduceLeDiff, Nat.reduceLT, true_and, and_true, false_and, and_false, qcat_0, qcat_1, qcat_3, qcat_9, Nat.reduceEqDiff, if_true, if_false, ite_self, or_true, true_or, or_false, false_or, forall_const, not_true_eq_false, not_false_eq_true, false_implies, implies_true, qtK0, qtK1, qtK2, qtK3, qtK4, List.getD_cons_zero, List.getD_cons_succ, Int.toNat_natCast, ne_eq, qcK, hbF, bsetF, bclrF, r0, g0, g1, g2, p2, p3, p4, p5, w1, bk, e1, f4, f4b, f5]
          exact hq
      · have f4 : (0 < (h : Int)) = False := eq_false (by omega)
        have f4b : ((h : Int) ≤ 0) = True := eq_true (by omega)
        have hq := hfa (.inl (k : Int)) (Or.inr (Or.inr (Or.inr ⟨by omega, by omega, by omega, rfl⟩))) rfl
        simp only [YK, c48, t48, cl49, cl50, cl51, tgK, lyK, rkK, wK, rfK, qRes_eq, qNon_eq, qup_ap, vup_ap, vcpy_ap, kc8_0, kc8_1, kc8_2, lc_lt, lc_gt, lc_eq, Option.toList_some, Option.toList_none, List.cons_append, List.nil_append, lay_len, lay_sz, Nat.reduceAdd, Nat.reduceSub, Nat.reduceMul, Int.reduceToNat, Int.reduceLE, Int.reduceLT, Int.reduceEq, Int.reduceAdd, Int.reduceSub, Int.reduceMul, Int.reduceNeg, Nat.reduceLeDiff, Nat.reduceLT, true_and, and_true, false_and, and_false, qcat_0, qcat_1, qcat_3, qcat_9, Nat.reduceEqDiff, if_true, if_false, ite_self, or_true, true_or, or_false, false_or, forall_const, not_true_eq_false, not_false_eq_true, false_implies, implies_true, qtK0, qtK1, qtK2, qtK3, qtK4, List.getD_cons_zero, List.getD_cons_succ, Int.toNat_natCast, ne_eq, qcK, hbF, bsetF, bclrF, r0, g0, g1, g2, p2, p3, p4, p5, w1, bk, e1, f4, f4b]
        exact hq
    · by_cases c6 : T k = 65
      · have e1 : G 1 k = 65 := e0.trans c6
        by_cases c7 : a < 12
        · have f7 : ((a : Int) < 12) = True := eq_true (by omega)
          simp only [YK, c48, t48, cl49, cl50, cl51, tgK, lyK, rkK, wK, rfK, qRes_eq, qNon_eq, qup_ap, vup_ap, vcpy_ap, kc8_0, kc8_1, kc8_2, lc_lt, lc_gt, lc_eq, Option.toList_some, Option.toList_none, List.cons_append, List.nil_append, lay_len, lay_sz, Nat.reduceAdd, Nat.reduceSub, Nat.reduceMul, Int.reduceToNat, Int.reduceLE, Int.reduceLT, Int.reduceEq, Int.reduceAdd, Int.reduceSub, Int.reduceMul, Int.reduceNeg, Nat.reduceLeDiff, Nat.reduceLT, true_and, and_true, false_and, and_false, qcat_0, qcat_1, qcat_3, qcat_9, Nat.reduceEqDiff, if_true, if_false, ite_self, or_true, true_or, or_false, false_or, forall_const, not_true_eq_false, not_false_eq_true, false_implies, implies_true, qtK0, qtK1, qtK2, qtK3, qtK4, List.getD_cons_zero, List.getD_cons_succ, Int.toNat_natCast, ne_eq, qcK, hbF, bsetF, bclrF, r0, g0, g1, g2, p2, p3, p4, p5, w1, bk, e1, f7]
          refine k51_13 hlen (by omega) hT c6 c7 hP0.go hQ0 ?_
          intro r G1 G2 h1 h2
          have hq := hk r G1 G2 h1 h2
          simp only [YK, c48, t48, tgK, lyK, rkK, wK, rfK, qRes_eq, qNon_eq, qup_ap, vup_ap, vcpy_ap, kc8_0, kc8_1, kc8_2, lc_lt, lc_gt, lc_eq, Option.toList_some, Option.toList_none, List.cons_append, List.nil_append, lay_len, lay_sz, Nat.reduceAdd, Nat.reduceSub, Nat.reduceMul, Int.reduceToNat, Int.reduceLE, Int.reduceLT, Int.reduceEq, Int.reduceAdd, Int.reduceSub, Int.reduceMul, Int.reduceNeg, Nat.reduceLeDiff, Nat.reduceLT, true_and, and_true, false_and, and_false, qcat_0, qcat_1, qcat_3, qcat_9, Nat.reduceEqDiff, if_true, if_false, ite_self, or_true, true_or, or_false, false_or, forall_const, not_true_eq_false, not_false_eq_true, false_implies, implies_true, qtK0, qtK1, qtK2, qtK3, qtK4, List.getD_cons_zero, List.getD_cons_succ, Int.toNat_natCast, ne_eq, qcK, hbF, bsetF, bclrF]
          exact hq
        · have f7 : ((a : Int) < 12) = False := eq_false (by omega)
          have hq := hfa (.inl (k : Int)) (Or.inr (Or.inr (Or.inr ⟨by omega, by omega, by omega, rfl⟩))) rfl
          simp only [YK, c48, t48, cl49, cl50, cl51, tgK, lyK, rkK, wK, rfK, qRes_eq, qNon_eq, qup_ap, vup_ap, vcpy_ap, kc8_0, kc8_1, kc8_2, lc_lt, lc_gt, lc_eq, Option.toList_some, Option.toList_none, List.cons_append, List.nil_append, lay_len, lay_sz, Nat.reduceAdd, Nat.reduceSub, Nat.reduceMul, Int.reduceToNat, Int.reduceLE, Int.reduceLT, Int.reduceEq, Int.reduceAdd, Int.reduceSub, Int.reduceMul, Int.reduceNeg, Nat.reduceLeDiff, Nat.reduceLT, true_and, and_true, false_and, and_false, qcat_0, qcat_1, qcat_3, qcat_9, Nat.reduceEqDiff, if_true, if_false, ite_self, or_true, true_or, or_false, false_or, forall_const, not_true_eq_false, not_false_eq_true, false_implies, implies_true, qtK0, qtK1, qtK2, qtK3, qtK4, List.getD_cons_zero, List.getD_cons_succ, Int.toNat_natCast, ne_eq, qcK, hbF, bsetF, bclrF, r0, g0, g1, g2, p2, p3, p4, p5, w1, bk, e1, f7]
          exact hq
      · have f1 : (T k = 72) = False := eq_false c1
        have f3 : (T k = 88) = False := eq_false c3
        have f6 : (T k = 65) = False := eq_false c6
        have hq := hfa (.inl (k : Int)) (Or.inr (Or.inr (Or.inr ⟨by omega, by omega, by omega, rfl⟩))) rfl
        simp only [YK, c48, t48, cl49, cl50, cl51, tgK, lyK, rkK, wK, rfK, qRes_eq, qNon_eq, qup_ap, vup_ap, vcpy_ap, kc8_0, kc8_1, kc8_2, lc_lt, lc_gt, lc_eq, Option.toList_some, Option.toList_none, List.cons_append, List.nil_append, lay_len, lay_sz, Nat.reduceAdd, Nat.reduceSub, Nat.reduceMul, Int.reduceToNat, Int.reduceLE, Int.reduceLT, Int.reduceEq, Int.reduceAdd, Int.reduceSub, Int.reduceMul, Int.reduceNeg, Nat.reduceLeDiff, Nat.reduceLT, true_and, and_true, false_and, and_false, qcat_0, qcat_1, qcat_3, qcat_9, Nat.reduceEqDiff, if_true, if_false, ite_self, or_true, true_or, or_false, false_or, forall_const, not_true_eq_false, not_false_eq_true, false_implies, implies_true, qtK0, qtK1, qtK2, qtK3, qtK4, List.getD_cons_zero, List.getD_cons_succ, Int.toNat_natCast, ne_eq, qcK, hbF, bsetF, bclrF, r0, g0, g1, g2, p2, p3, p4, p5, w1, bk, e0, f1, f3, f6]
        exact hq
/-- what a text tells, part by part -/
def PR (T : Nat → Int) (len : Nat) : Nat → Nat → Nat → Nat → Nat → XT → Int ⊕ QT → Prop
  | 0, k, h, s, a, W, r => r = .inr (k, h, s, a, W)
  | m + 1, k, h, s, a, W, r => (k < len ∧ ((∃ f, stp T len k h s a W (.inl f) ∧ r = .inl f) ∨ ∃ k2 h2 s2 a2 W2, stp T len k h s a W (.inr (k2, h2, s2, a2, W2)) ∧ PR T len m k2 h2 s2 a2 W2 r)) ∨ (len ≤ k ∧ r = .inr (k, h, s, a, W))
def ans : Int ⊕ QT → Int
  | .inl f => f
  | .inr _ => -9
theorem stp_k {T : Nat → Int} {len k h s a : Nat} {W : XT} {k2 h2 s2 a2 : Nat} {W2 : XT} (hs : stp T len k h s a W (.inr (k2, h2, s2, a2, W2))) : k + 4 ≤ k2 := by
  have aux : ∀ (x : Nat × Nat × Nat × Nat × XT) , (Sum.inr (k2, h2, s2, a2, W2) : Int ⊕ QT) = .inr x → k2 = x.1 := fun x e => by injection e with e; rw [← e]
  rcases hs with ⟨-, -, h | h | h | h⟩ | ⟨-, -, -, h | h | h | h | h | h⟩ | ⟨-, -, h | h | h | h | h | h⟩ | h
  · exact absurd h.2 (by intro e; cases e)
  · exact absurd h.2.2 (by intro e; cases e)
  · exact absurd h.2.2.2 (by intro e; cases e)
  · have := aux _ h.2.2.2; simp only at this; omega
  · exact absurd h.2 (by intro e; cases e)
  · exact absurd h.2.2 (by intro e; cases e)
  · exact absurd h.2.2.2 (by intro e; cases e)
  · exact absurd h.2.2.2.2 (by intro e; cases e)
  · exact absurd h.2.2.2.2.2 (by intro e; cases e)
  · have := aux _ h.2.2.2.2.2; simp only at this; omega
  · exact absurd h.2 (by intro e; cases e)
  · exact absurd h.2.2 (by intro e; cases e)
  · exact absurd h.2.2.2 (by intro e; cases e)
  · exact absurd h.2.2.2.2 (by intro e; cases e)
  · exact absurd h.2.2.2.2.2 (by intro e; cases e)
  · have := aux _ h.2.2.2.2.2; simp only at this; omega
  · exact absurd h.2.2.2 (by intro e; cases e)
theorem stp_f {T : Nat → Int} {len k h s a : Nat} {W : XT} {f : Int} (hs : stp T len k h s a W (.inl f)) : 0 ≤ f := by
  have aux : ∀ (x : Int) , (Sum.inl f : Int ⊕ QT) = .inl x → f = x := fun x e => by injection e
  rcases hs with ⟨-, -, h | h | h | h⟩ | ⟨-, -, -, h | h | h | h | h | h⟩ | ⟨-, -, h | h | h | h | h | h⟩ | h
  · rw [aux _ h.2]; omega
  · rw [aux _ h.2.2]; omega
  · rw [aux _ h.2.2.2]; omega
  · exact absurd h.2.2.2 (by intro e; cases e)
  · rw [aux _ h.2]; omega
  · rw [aux _ h.2.2]; omega
  · rw [aux _ h.2.2.2]; omega
  · rw [aux _ h.2.2.2.2]; omega
  · rw [aux _ h.2.2.2.2.2]; omega
  · exact absurd h.2.2.2.2.2 (by intro e; cases e)
  · rw [aux _ h.2]; omega
  · rw [aux _ h.2.2]; omega
  · rw [aux _ h.2.2.2]; omega
  · rw [aux _ h.2.2.2.2]; omega
  · rw [aux _ h.2.2.2.2.2]; omega
  · exact absurd h.2.2.2.2.2 (by intro e; cases e)
  · rw [aux _ h.2.2.2]; omega
theorem okd_l {T : Nat → Int} {len k : Nat} {lo hi : Int} (h : okd T len k lo hi) (hlo : 0 ≤ lo) : k < len := by
  obtain ⟨h1, -⟩ := h
  unfold dgT at h1
  split at h1 <;> omega
theorem stp_l {T : Nat → Int} {len k h s a : Nat} {W : XT} {k2 h2 s2 a2 : Nat} {W2 : XT} (hs : stp T len k h s a W (.inr (k2, h2, s2, a2, W2))) (hkl : k < len) : k2 ≤ len + 5 := by
  have aux : ∀ (x : Nat × Nat × Nat × Nat × XT) , (Sum.inr (k2, h2, s2, a2, W2) : Int ⊕ QT) = .inr x → k2 = x.1 := fun x e => by injection e with e; rw [← e]
  rcases hs with ⟨-, -, h | h | h | h⟩ | ⟨-, -, -, h | h | h | h | h | h⟩ | ⟨-, -, h | h | h | h | h | h⟩ | h
  · exact absurd h.2 (by intro e; cases e)
  · exact absurd h.2.2 (by intro e; cases e)
  · exact absurd h.2.2.2 (by intro e; cases e)
  · have := aux _ h.2.2.2; simp only at this; omega
  · exact absurd h.2 (by intro e; cases e)
  · exact absurd h.2.2 (by intro e; cases e)
  · exact absurd h.2.2.2 (by intro e; cases e)
  · exact absurd h.2.2.2.2 (by intro e; cases e)
  · exact absurd h.2.2.2.2.2 (by intro e; cases e)
  · have := aux _ h.2.2.2.2.2; simp only at this; omega
  · exact absurd h.2 (by intro e; cases e)
  · exact absurd h.2.2 (by intro e; cases e)
  · exact absurd h.2.2.2 (by intro e; cases e)
  · exact absurd h.2.2.2.2 (by intro e; cases e)
  · exact absurd h.2.2.2.2.2 (by intro e; cases e)
  · have := aux _ h.2.2.2.2.2; simp only at this; omega
  · exact absurd h.2.2.2 (by intro e; cases e)
theorem k47L_3 {tb : qTb} {F : XT} {T : Nat → Int} {len : Nat} {R : Option qV → qM → Prop} (hlen : len ≤ 120) (hT : ∀ j : Nat, j < len → F 1 j = T j ∧ 0 ≤ T j ∧ T j ≤ 255) (n : Int) : ∀ (m p k h s a : Nat) (G0 G W : XT), p + m = 120 → p ≤ k → k ≤ 120 + 6 → P2 G0 G len k (-9) → PQ 3 F G0 h s a W → (∀ r G0 G, PR T len m k h s a W r → post 3 F len r G0 G → R (some (0, ans r)) (LAY, G)) → qW tb 47 (119, 1262) 30 [(3, 2), (0, n), (3, 3), (0, (p : Int))] [] (LAY, G) R := by
  intro m
  induction m with
  | zero =>
    intro p k h s a G0 G W hpm hpk hk6 hP hQ hk
    obtain rfl : p = 120 := by omega
    have hq := hk (.inr (k, h, s, a, W)) G0 G rfl ⟨hP, hQ⟩
    obtain ⟨p1, p2, p3, p4, p5⟩ := hP
    rw [h47_30]
    have f0 : ((120 : Nat) : Int) = 120 := rfl
    simp only [YK, c47, t47, cl48, tgK, lyK, rkK, wK, rfK, qRes_eq, qNon_eq, qup_ap, vup_ap, vcpy_ap, kc8_0, kc8_1, kc8_2, lc_lt, lc_gt, lc_eq, Option.toList_some, Option.toList_none, List.cons_append, List.nil_append, lay_len, lay_sz, Nat.reduceAdd, Nat.reduceSub, Nat.reduceMul, Int.reduceToNat, Int.reduceLE, Int.reduceLT, Int.reduceEq, Int.reduceAdd, Int.reduceSub, Int.reduceMul, Int.reduceNeg, Nat.reduceLeDiff, Nat.reduceLT, true_and, and_true, false_and, and_false, qcat_0, qcat_1, qcat_3, qcat_9, Nat.reduceEqDiff, if_true, if_false, ite_self, or_true, true_or, or_false, false_or, forall_const, not_true_eq_false, not_false_eq_true, false_implies, implies_true, qtK0, qtK1, qtK2, qtK3, qtK4, List.getD_cons_zero, List.getD_cons_succ, Int.toNat_natCast, ne_eq, qcK, hbF, bsetF, bclrF, p2, p3, p4, p5, f0]
    exact hq
  | succ m ih =>
    intro p k h s a G0 G W hpm hpk hk6 hP hQ hk
    have hP0 := hP
    obtain ⟨p1, p2, p3, p4, p5⟩ := hP
    rw [h47_30]
    have f0 : ((p : Int) < 120) = True := eq_true (by omega)
    by_cases c : k < len
    · have f1 : ((k : Int) < (len : Int)) = True := eq_true (by omega)
      simp only [YK, c47, t47, cl48, tgK, lyK, rkK, wK, rfK, qRes_eq, qNon_eq, qup_ap, vup_ap, vcpy_ap, kc8_0, kc8_1, kc8_2, lc_lt, lc_gt, lc_eq, Option.toList_some, Option.toList_none, List.cons_append, List.nil_append, lay_len, lay_sz, Nat.reduceAdd, Nat.reduceSub, Nat.reduceMul, Int.reduceToNat, Int.reduceLE, Int.reduceLT, Int.reduceEq, Int.reduceAdd, Int.reduceSub, Int.reduceMul, Int.reduceNeg, Nat.reduceLeDiff, Nat.reduceLT, true_and, and_true, false_and, and_false, qcat_0, qcat_1, qcat_3, qcat_9, Nat.reduceEqDiff, if_true, if_false, ite_self, or_true, true_or, or_false, false_or, forall_const, not_true_eq_false, not_false_eq_true, false_implies, implies_true, qtK0, qtK1, qtK2, qtK3, qtK4, List.getD_cons_zero, List.getD_cons_succ, Int.toNat_natCast, ne_eq, qcK, hbF, bsetF, bclrF, p2, p3, p4, p5, f0, f1]
      refine k48_3 hlen c hT hP0 hQ ?_
      intro r G1 G2 hs hp
      have w1 : w32 ((p : Int) + 1) = ((p + 1 : Nat) : Int) := by rw [w32_id ⟨by omega, by omega⟩]; omega
      cases r with
      | inl f =>
        have hq := hk (.inl f) G1 G2 (Or.inl ⟨c, Or.inl ⟨f, hs, rfl⟩⟩) hp
        obtain ⟨⟨o1, o2, o3, o5⟩, -⟩ := hp
        have hf := stp_f hs
        have f9 : (f = -9) = False := eq_false (by omega)
        simp only [YK, c47, t47, cl48, tgK, lyK, rkK, wK, rfK, qRes_eq, qNon_eq, qup_ap, vup_ap, vcpy_ap, kc8_0, kc8_1, kc8_2, lc_lt, lc_gt, lc_eq, Option.toList_some, Option.toList_none, List.cons_append, List.nil_append, lay_len, lay_sz, Nat.reduceAdd, Nat.reduceSub, Nat.reduceMul, Int.reduceToNat, Int.reduceLE, Int.reduceLT, Int.reduceEq, Int.reduceAdd, Int.reduceSub, Int.reduceMul, Int.reduceNeg, Nat.reduceLeDiff, Nat.reduceLT, true_and, and_true, false_and, and_false, qcat_0, qcat_1, qcat_3, qcat_9, Nat.reduceEqDiff, if_true, if_false, ite_self, or_true, true_or, or_false, false_or, forall_const, not_true_eq_false, not_false_eq_true, false_implies, implies_true, qtK0, qtK1, qtK2, qtK3, qtK4, List.getD_cons_zero, List.getD_cons_succ, Int.toNat_natCast, ne_eq, qcK, hbF, bsetF, bclrF, w1]
        rw [h47_30]
        by_cases c2 : p + 1 < 120
        · have f2 : (((p + 1 : Nat) : Int) < 120) = True := eq_true (by omega)
          simp only [YK, c47, t47, cl48, tgK, lyK, rkK, wK, rfK, qRes_eq, qNon_eq, qup_ap, vup_ap, vcpy_ap, kc8_0, kc8_1, kc8_2, lc_lt, lc_gt, lc_eq, Option.toList_some, Option.toList_none, List.cons_append, List.nil_append, lay_len, lay_sz, Nat.reduceAdd, Nat.reduceSub, Nat.reduceMul, Int.reduceToNat, Int.reduceLE, Int.reduceLT, Int.reduceEq, Int.reduceAdd, Int.reduceSub, Int.reduceMul, Int.reduceNeg, Nat.reduceLeDiff, Nat.reduceLT, true_and, and_true, false_and, and_false, qcat_0, qcat_1, qcat_3, qcat_9, Nat.reduceEqDiff, if_true, if_false, ite_self, or_true, true_or, or_false, false_or, forall_const, not_true_eq_false, not_false_eq_true, false_implies, implies_true, qtK0, qtK1, qtK2, qtK3, qtK4, List.getD_cons_zero, List.getD_cons_succ, Int.toNat_natCast, ne_eq, qcK, hbF, bsetF, bclrF, o2, o3, o5, f2, f9]
          exact hq
        · have f2 : (((p + 1 : Nat) : Int) < 120) = False := eq_false (by omega)
          simp only [YK, c47, t47, cl48, tgK, lyK, rkK, wK, rfK, qRes_eq, qNon_eq, qup_ap, vup_ap, vcpy_ap, kc8_0, kc8_1, kc8_2, lc_lt, lc_gt, lc_eq, Option.toList_some, Option.toList_none, List.cons_append, List.nil_append, lay_len, lay_sz, Nat.reduceAdd, Nat.reduceSub, Nat.reduceMul, Int.reduceToNat, Int.reduceLE, Int.reduceLT, Int.reduceEq, Int.reduceAdd, Int.reduceSub, Int.reduceMul, Int.reduceNeg, Nat.reduceLeDiff, Nat.reduceLT, true_and, and_true, false_and, and_false, qcat_0, qcat_1, qcat_3, qcat_9, Nat.reduceEqDiff, if_true, if_false, ite_self, or_true, true_or, or_false, false_or, forall_const, not_true_eq_false, not_false_eq_true, false_implies, implies_true, qtK0, qtK1, qtK2, qtK3, qtK4, List.getD_cons_zero, List.getD_cons_succ, Int.toNat_natCast, ne_eq, qcK, hbF, bsetF, bclrF, o2, o3, o5, f2, f9]
          exact hq
      | inr q =>
        obtain ⟨k2, h2, s2, a2, W2⟩ := q
        have hk4 := stp_k hs
        have hk5 := stp_l hs c
        simp only [YK, c47, t47, cl48, tgK, lyK, rkK, wK, rfK, qRes_eq, qNon_eq, qup_ap, vup_ap, vcpy_ap, kc8_0, kc8_1, kc8_2, lc_lt, lc_gt, lc_eq, Option.toList_some, Option.toList_none, List.cons_append, List.nil_append, lay_len, lay_sz, Nat.reduceAdd, Nat.reduceSub, Nat.reduceMul, Int.reduceToNat, Int.reduceLE, Int.reduceLT, Int.reduceEq, Int.reduceAdd, Int.reduceSub, Int.reduceMul, Int.reduceNeg, Nat.reduceLeDiff, Nat.reduceLT, true_and, and_true, false_and, and_false, qcat_0, qcat_1, qcat_3, qcat_9, Nat.reduceEqDiff, if_true, if_false, ite_self, or_true, true_or, or_false, false_or, forall_const, not_true_eq_false, not_false_eq_true, false_implies, implies_true, qtK0, qtK1, qtK2, qtK3, qtK4, List.getD_cons_zero, List.getD_cons_succ, Int.toNat_natCast, ne_eq, qcK, hbF, bsetF, bclrF, w1]
        exact ih (p + 1) k2 h2 s2 a2 G1 G2 W2 (by omega) (by omega) (by omega) hp.1 hp.2 (fun r G3 G4 h3 h4 => hk r G3 G4 (Or.inl ⟨c, Or.inr ⟨k2, h2, s2, a2, W2, hs, h3⟩⟩) h4)
    · have f1 : ((k : Int) < (len : Int)) = False := eq_false (by omega)
      have hq := hk (.inr (k, h, s, a, W)) G0 G (Or.inr ⟨by omega, rfl⟩) ⟨hP0, hQ⟩
      simp only [YK, c47, t47, cl48, tgK, lyK, rkK, wK, rfK, qRes_eq, qNon_eq, qup_ap, vup_ap, vcpy_ap, kc8_0, kc8_1, kc8_2, lc_lt, lc_gt, lc_eq, Option.toList_some, Option.toList_none, List.cons_append, List.nil_append, lay_len, lay_sz, Nat.reduceAdd, Nat.reduceSub, Nat.reduceMul, Int.reduceToNat, Int.reduceLE, Int.reduceLT, Int.reduceEq, Int.reduceAdd, Int.reduceSub, Int.reduceMul, Int.reduceNeg, Nat.reduceLeDiff, Nat.reduceLT, true_and, and_true, false_and, and_false, qcat_0, qcat_1, qcat_3, qcat_9, Nat.reduceEqDiff, if_true, if_false, ite_self, or_true, true_or, or_false, false_or, forall_const, not_true_eq_false, not_false_eq_true, false_implies, implies_true, qtK0, qtK1, qtK2, qtK3, qtK4, List.getD_cons_zero, List.getD_cons_succ, Int.toNat_natCast, ne_eq, qcK, hbF, bsetF, bclrF, p2, p3, p4, p5, f0, f1]
      exact hq
theorem k47_3 {tb : qTb} {F : XT} {T : Nat → Int} {len : Nat} {R : Option qV → qM → Prop} (hRf : Rf F) (hlen : len ≤ 120) (hT : ∀ j : Nat, j < len → F 1 j = T j ∧ 0 ≤ T j ∧ T j ≤ 255) (W : XT) (hk : ∀ r G0 G, PR T len 120 0 0 0 0 W r → post 3 F len r G0 G → R (some (0, ans r)) (LAY, G)) : qW tb 47 (119, 1262) 0 [(3, 2), (0, (len : Int)), (3, 3), (9, 0)] [] (LAY, F) R := by
  have hr := Rf_k hRf
  have mn : min (len : Int) 120 = (len : Int) := by omega
  have mn2 : min (120 : Int) (len : Int) = (len : Int) := by omega
  have ml : (120 < (len : Int)) = False := eq_false (by omega)
  have hz := k47L_3 (tb := tb) (R := R) hlen hT (len : Int) 120 0 0 0 0 0 (qup (qup (qup F 3 0 0) 3 1 0) 3 2 0) (qup (qup (qup (qup (qup (qup F 2 1 (len : Int)) 2 2 0) 2 3 (-9)) 3 0 0) 3 1 0) 3 2 0) W rfl (by omega) (by omega) ⟨fun c hc => by funext j; simp only [qup_ap, if_neg hc], by simp only [qup_ap, Nat.reduceEqDiff, if_true, if_false, hr], by simp only [qup_ap, Nat.reduceEqDiff, if_true, if_false], by simp only [qup_ap, Nat.reduceEqDiff, if_true, if_false]; rfl, by simp only [qup_ap, Nat.reduceEqDiff, if_true, if_false]⟩ ⟨PFr_b3 (PFr_b3 (PFr_b3 ⟨hRf, fun _ _ _ => rfl⟩ _ (by decide)) _ (by decide)) _ (by decide), ⟨by simp only [qup_ap, Nat.reduceEqDiff, if_true, if_false]; rfl, by simp only [qup_ap, Nat.reduceEqDiff, if_true, if_false]; rfl, by simp only [qup_ap, Nat.reduceEqDiff, if_true, if_false]; rfl⟩, ⟨by omega, by omega, by omega⟩, fun i j _ hj => absurd hj (by omega), fun i j _ _ hj => absurd hj (by omega), fun i j _ _ hj => absurd hj (by omega)⟩ hk
  simp only [YK, c47, t47, c63, t63, tgK, lyK, rkK, wK, rfK, qRes_eq, qNon_eq, qup_ap, vup_ap, vcpy_ap, kc8_0, kc8_1, kc8_2, lc_lt, lc_gt, lc_eq, Option.toList_some, Option.toList_none, List.cons_append, List.nil_append, lay_len, lay_sz, Nat.reduceAdd, Nat.reduceSub, Nat.reduceMul, Int.reduceToNat, Int.reduceLE, Int.reduceLT, Int.reduceEq, Int.reduceAdd, Int.reduceSub, Int.reduceMul, Int.reduceNeg, Nat.reduceLeDiff, Nat.reduceLT, true_and, and_true, false_and, and_false, qcat_0, qcat_1, qcat_3, qcat_9, Nat.reduceEqDiff, if_true, if_false, ite_self, or_true, true_or, or_false, false_or, forall_const, not_true_eq_false, not_false_eq_true, false_implies, implies_true, qtK0, qtK1, qtK2, qtK3, qtK4, List.getD_cons_zero, List.getD_cons_succ, Int.toNat_natCast, ne_eq, qcK, hbF, bsetF, bclrF, hr, cl63, mn, mn2, ml]
  exact hz
theorem k47L_13 {tb : qTb} {F : XT} {T : Nat → Int} {len : Nat} {R : Option qV → qM → Prop} (hlen : len ≤ 120) (hT : ∀ j : Nat, j < len → F 1 j = T j ∧ 0 ≤ T j ∧ T j ≤ 255) (n : Int) : ∀ (m p k h s a : Nat) (G0 G W : XT), p + m = 120 → p ≤ k → k ≤ 120 + 6 → P2 G0 G len k (-9) → PQ 13 F G0 h s a W → (∀ r G0 G, PR T len m k h s a W r → post 13 F len r G0 G → R (some (0, ans r)) (LAY, G)) → qW tb 47 (119, 1262) 30 [(3, 2), (0, n), (3, 13), (0, (p : Int))] [] (LAY, G) R := by
  intro m
  induction m with
  | zero =>
    intro p k h s a G0 G W hpm hpk hk6 hP hQ hk
    obtain rfl : p = 120 := by omega
    have hq := hk (.inr (k, h, s, a, W)) G0 G rfl ⟨hP, hQ⟩
    obtain ⟨p1, p2, p3, p4, p5⟩ := hP
    rw [h47_30]
    have f0 : ((120 : Nat) : Int) = 120 := rfl
    simp only [YK, c47, t47, cl48, tgK, lyK, rkK, wK, rfK, qRes_eq, qNon_eq, qup_ap, vup_ap, vcpy_ap, kc8_0, kc8_1, kc8_2, lc_lt, lc_gt, lc_eq, Option.toList_some, Option.toList_none, List.cons_append, List.nil_append, lay_len, lay_sz, Nat.reduceAdd, Nat.reduceSub, Nat.reduceMul, Int.reduceToNat, Int.reduceLE, Int.reduceLT, Int.reduceEq, Int.reduceAdd, Int.reduceSub, Int.reduceMul, Int.reduceNeg, Nat.reduceLeDiff, Nat.reduceLT, true_and, and_true, false_and, and_false, qcat_0, qcat_1, qcat_3, qcat_9, Nat.reduceEqDiff, if_true, if_false, ite_self, or_true, true_or, or_false, false_or, forall_const, not_true_eq_false, not_false_eq_true, false_implies, implies_true, qtK0, qtK1, qtK2, qtK3, qtK4, List.getD_cons_zero, List.getD_cons_succ, Int.toNat_natCast, ne_eq, qcK, hbF, bsetF, bclrF, p2, p3, p4, p5, f0]
    exact hq
  | succ m ih =>
    intro p k h s a G0 G W hpm hpk hk6 hP hQ hk
    have hP0 := hP
    obtain ⟨p1, p2, p3, p4, p5⟩ := hP
    rw [h47_30]
    have f0 : ((p : Int) < 120) = True := eq_true (by omega)
    by_cases c : k < len
    · have f1 : ((k : Int) < (len : Int)) = True := eq_true (by omega)
      simp only [YK, c47, t47, cl48, tgK, lyK, rkK, wK, rfK, qRes_eq, qNon_eq, qup_ap, vup_ap, vcpy_ap, kc8_0, kc8_1, kc8_2, lc_lt, lc_gt, lc_eq, Option.toList_some, Option.toList_none, List.cons_append, List.nil_append, lay_len, lay_sz, Nat.reduceAdd, Nat.reduceSub, Nat.reduceMul, Int.reduceToNat, Int.reduceLE, Int.reduceLT, Int.reduceEq, Int.reduceAdd, Int.reduceSub, Int.reduceMul, Int.reduceNeg, Nat.reduceLeDiff, Nat.reduceLT, true_and, and_true, false_and, and_false, qcat_0, qcat_1, qcat_3, qcat_9, Nat.reduceEqDiff, if_true, if_false, ite_self, or_true, true_or, or_false, false_or, forall_const, not_true_eq_false, not_false_eq_true, false_implies, implies_true, qtK0, qtK1, qtK2, qtK3, qtK4, List.getD_cons_zero, List.getD_cons_succ, Int.toNat_natCast, ne_eq, qcK, hbF, bsetF, bclrF, p2, p3, p4, p5, f0, f1]
      refine k48_13 hlen c hT hP0 hQ ?_
      intro r G1 G2 hs hp
      have w1 : w32 ((p : Int) + 1) = ((p + 1 : Nat) : Int) := by rw [w32_id ⟨by omega, by omega⟩]; omega
      cases r with
      | inl f =>
        have hq := hk (.inl f) G1 G2 (Or.inl ⟨c, Or.inl ⟨f, hs, rfl⟩⟩) hp
        obtain ⟨⟨o1, o2, o3, o5⟩, -⟩ := hp
        have hf := stp_f hs
        have f9 : (f = -9) = False := eq_false (by omega)
        simp only [YK, c47, t47, cl48, tgK, lyK, rkK, wK, rfK, qRes_eq, qNon_eq, qup_ap, vup_ap, vcpy_ap, kc8_0, kc8_1, kc8_2, lc_lt, lc_gt, lc_eq, Option.toList_some, Option.toList_none, List.cons_append, List.nil_append, lay_len, lay_sz, Nat.reduceAdd, Nat.reduceSub, Nat.reduceMul, Int.reduceToNat, Int.reduceLE, Int.reduceLT, Int.reduceEq, Int.reduceAdd, Int.reduceSub, Int.reduceMul, Int.reduceNeg, Nat.reduceLeDiff, Nat.reduceLT, true_and, and_true, false_and, and_false, qcat_0, qcat_1, qcat_3, qcat_9, Nat.reduceEqDiff, if_true, if_false, ite_self, or_true, true_or, or_false, false_or, forall_const, not_true_eq_false, not_false_eq_true, false_implies, implies_true, qtK0, qtK1, qtK2, qtK3, qtK4, List.getD_cons_zero, List.getD_cons_succ, Int.toNat_natCast, ne_eq, qcK, hbF, bsetF, bclrF, w1]
        rw [h47_30]
        by_cases c2 : p + 1 < 120
        · have f2 : (((p + 1 : Nat) : Int) < 120) = True := eq_true (by omega)
          simp only [YK, c47, t47, cl48, tgK, lyK, rkK, wK, rfK, qRes_eq, qNon_eq, qup_ap, vup_ap, vcpy_ap, kc8_0, kc8_1, kc8_2, lc_lt, lc_gt, lc_eq, Option.toList_some, Option.toList_none, List.cons_append, List.nil_append, lay_len, lay_sz, Nat.reduceAdd, Nat.reduceSub, Nat.reduceMul, Int.reduceToNat, Int.reduceLE, Int.reduceLT, Int.reduceEq, Int.reduceAdd, Int.reduceSub, Int.reduceMul, Int.reduceNeg, Nat.reduceLeDiff, Nat.reduceLT, true_and, and_true, false_and, and_false, qcat_0, qcat_1, qcat_3, qcat_9, Nat.reduceEqDiff, if_true, if_false, ite_self, or_true, true_or, or_false, false_or, forall_const, not_true_eq_false, not_false_eq_true, false_implies, implies_true, qtK0, qtK1, qtK2, qtK3, qtK4, List.getD_cons_zero, List.getD_cons_succ, Int.toNat_natCast, ne_eq, qcK, hbF, bsetF, bclrF, o2, o3, o5, f2, f9]
          exact hq
        · have f2 : (((p + 1 : Nat) : Int) < 120) = False := eq_false (by omega)
          simp only [YK, c47, t47, cl48, tgK, lyK, rkK, wK, rfK, qRes_eq, qNon_eq, qup_ap, vup_ap, vcpy_ap, kc8_0, kc8_1, kc8_2, lc_lt, lc_gt, lc_eq, Option.toList_some, Option.toList_none, List.cons_append, List.nil_append, lay_len, lay_sz, Nat.reduceAdd, Nat.reduceSub, Nat.reduceMul, Int.reduceToNat, Int.reduceLE, Int.reduceLT, Int.reduceEq, Int.reduceAdd, Int.reduceSub, Int.reduceMul, Int.reduceNeg, Nat.reduceLeDiff, Nat.reduceLT, true_and, and_true, false_and, and_false, qcat_0, qcat_1, qcat_3, qcat_9, Nat.reduceEqDiff, if_true, if_false, ite_self, or_true, true_or, or_false, false_or, forall_const, not_true_eq_false, not_false_eq_true, false_implies, implies_true, qtK0, qtK1, qtK2, qtK3, qtK4, List.getD_cons_zero, List.getD_cons_succ, Int.toNat_natCast, ne_eq, qcK, hbF, bsetF, bclrF, o2, o3, o5, f2, f9]
          exact hq
      | inr q =>
        obtain ⟨k2, h2, s2, a2, W2⟩ := q
        have hk4 := stp_k hs
        have hk5 := stp_l hs c
        simp only [YK, c47, t47, cl48, tgK, lyK, rkK, wK, rfK, qRes_eq, qNon_eq, qup_ap, vup_ap, vcpy_ap, kc8_0, kc8_1, kc8_2, lc_lt, lc_gt, lc_eq, Option.toList_some, Option.toList_none, List.cons_append, List.nil_append, lay_len, lay_sz, Nat.reduceAdd, Nat.reduceSub, Nat.reduceMul, Int.reduceToNat, Int.reduceLE, Int.reduceLT, Int.reduceEq, Int.reduceAdd, Int.reduceSub, Int.reduceMul, Int.reduceNeg, Nat.reduceLeDiff, Nat.reduceLT, true_and, and_true, false_and, and_false, qcat_0, qcat_1, qcat_3, qcat_9, Nat.reduceEqDiff, if_true, if_false, ite_self, or_true, true_or, or_false, false_or, forall_const, not_true_eq_false, not_false_eq_true, false_implies, implies_true, qtK0, qtK1, qtK2, qtK3, qtK4, List.getD_cons_zero, List.getD_cons_succ, Int.toNat_natCast, ne_eq, qcK, hbF, bsetF, bclrF, w1]
        exact ih (p + 1) k2 h2 s2 a2 G1 G2 W2 (by omega) (by omega) (by omega) hp.1 hp.2 (fun r G3 G4 h3 h4 => hk r G3 G4 (Or.inl ⟨c, Or.inr ⟨k2, h2, s2, a2, W2, hs, h3⟩⟩) h4)
    · have f1 : ((k : Int) < (len : Int)) = False := eq_false (by omega)
      have hq := hk (.inr (k, h, s, a, W)) G0 G (Or.inr ⟨by omega, rfl⟩) ⟨hP0, hQ⟩
      simp only [YK, c47, t47, cl48, tgK, lyK, rkK, wK, rfK, qRes_eq, qNon_eq, qup_ap, vup_ap, vcpy_ap, kc8_0, kc8_1, kc8_2, lc_lt, lc_gt, lc_eq, Option.toList_some, Option.toList_none, List.cons_append, List.nil_append, lay_len, lay_sz, Nat.reduceAdd, Nat.reduceSub, Nat.reduceMul, Int.reduceToNat, Int.reduceLE, Int.reduceLT, Int.reduceEq, Int.reduceAdd, Int.reduceSub, Int.reduceMul, Int.reduceNeg, Nat.reduceLeDiff, Nat.reduceLT, true_and, and_true, false_and, and_false, qcat_0, qcat_1, qcat_3, qcat_9, Nat.reduceEqDiff, if_true, if_false, ite_self, or_true, true_or, or_false, false_or, forall_const, not_true_eq_false, not_false_eq_true, false_implies, implies_true, qtK0, qtK1, qtK2, qtK3, qtK4, List.getD_cons_zero, List.getD_cons_succ, Int.toNat_natCast, ne_eq, qcK, hbF, bsetF, bclrF, p2, p3, p4, p5, f0, f1]
      exact hq
theorem k47_13 {tb : qTb} {F : XT} {T : Nat → Int} {len : Nat} {R : Option qV → qM → Prop} (hRf : Rf F) (hlen : len ≤ 120) (hT : ∀ j : Nat, j < len → F 1 j = T j ∧ 0 ≤ T j ∧ T j ≤ 255) (W : XT) (hk : ∀ r G0 G, PR T len 120 0 0 0 0 W r → post 13 F len r G0 G → R (some (0, ans r)) (LAY, G)) : qW tb 47 (119, 1262) 0 [(3, 2), (0, (len : Int)), (3, 13), (9, 0)] [] (LAY, F) R := by
  have hr := Rf_k hRf
  have mn : min (len : Int) 120 = (len : Int) := by omega
  have mn2 : min (120 : Int) (len : Int) = (len : Int) := by omega
  have ml : (120 < (len : Int)) = False := eq_false (by omega)
  have hz := k47L_13 (tb := tb) (R := R) hlen hT (len : Int) 120 0 0 0 0 0 (qup (qup (qup F 13 0 0) 13 1 0) 13 2 0) (qup (qup (qup (qup (qup (qup F 2 1 (len : Int)) 2 2 0) 2 3 (-9)) 13 0 0) 13 1 0) 13 2 0) W rfl (by omega) (by omega) ⟨fun c hc => by funext j; simp only [qup_ap, if_neg hc], by simp only [qup_ap, Nat.reduceEqDiff, if_true, if_false, hr], by simp only [qup_ap, Nat.reduceEqDiff, if_true, if_false], by simp only [qup_ap, Nat.reduceEqDiff, if_true, if_false]; rfl, by simp only [qup_ap, Nat.reduceEqDiff, if_true, if_false]⟩ ⟨PFr_b13 (PFr_b13 (PFr_b13 ⟨hRf, fun _ _ _ => rfl⟩ _ (by decide)) _ (by decide)) _ (by decide), ⟨by simp only [qup_ap, Nat.reduceEqDiff, if_true, if_false]; rfl, by simp only [qup_ap, Nat.reduceEqDiff, if_true, if_false]; rfl, by simp only [qup_ap, Nat.reduceEqDiff, if_true, if_false]; rfl⟩, ⟨by omega, by omega, by omega⟩, fun i j _ hj => absurd hj (by omega), fun i j _ _ hj => absurd hj (by omega), fun i j _ _ hj => absurd hj (by omega)⟩ hk
  simp only [YK, c47, t47, c63, t63, tgK, lyK, rkK, wK, rfK, qRes_eq, qNon_eq, qup_ap, vup_ap, vcpy_ap, kc8_0, kc8_1, kc8_2, lc_lt, lc_gt, lc_eq, Option.toList_some, Option.toList_none, List.cons_append, List.nil_append, lay_len, lay_sz, Nat.reduceAdd, Nat.reduceSub, Nat.reduceMul, Int.reduceToNat, Int.reduceLE, Int.reduceLT, Int.reduceEq, Int.reduceAdd, Int.reduceSub, Int.reduceMul, Int.reduceNeg, Nat.reduceLeDiff, Nat.reduceLT, true_and, and_true, false_and, and_false, qcat_0, qcat_1, qcat_3, qcat_9, Nat.reduceEqDiff, if_true, if_false, ite_self, or_true, true_or, or_false, false_or, forall_const, not_true_eq_false, not_false_eq_true, false_implies, implies_true, qtK0, qtK1, qtK2, qtK3, qtK4, List.getD_cons_zero, List.getD_cons_succ, Int.toNat_natCast, ne_eq, qcK, hbF, bsetF, bclrF, hr, cl63, mn, mn2, ml]
  exact hz
