/-! more pairs without a run and without the parser -/
theorem xor16 : ∀ u : Fin 16, ∀ a : Fin 4, 0 ≤ (i1 ((u : Nat) : Int) ^^^ i1 (i1 1 <<< (i1 ((a : Nat) : Int) &&& 31)).toInt).toInt ∧ (i1 ((u : Nat) : Int) ^^^ i1 (i1 1 <<< (i1 ((a : Nat) : Int) &&& 31)).toInt).toInt < 16 := by decide +kernel
theorem xor16' {u a : Int} (h1 : 0 ≤ u ∧ u < 16) (h2 : 0 ≤ a ∧ a < 4) : 0 ≤ (i1 u ^^^ i1 (i1 1 <<< (i1 a &&& 31)).toInt).toInt ∧ (i1 u ^^^ i1 (i1 1 <<< (i1 a &&& 31)).toInt).toInt < 16 := by
  have h := xor16 ⟨u.toNat, by omega⟩ ⟨a.toNat, by omega⟩
  have e1 : ((u.toNat : Nat) : Int) = u := by omega
  have e2 : ((a.toNat : Nat) : Int) = a := by omega
  dsimp only at h
  rw [e1, e2] at h
  exact h
theorem H_turn {L : Nat} {xs : Nat → Int} (F : Nat → Nat → Int) (a : Int) (hR : Rel F) (ha : I32 a) : qPair (qtab L xs) Rel 0 76 159 [(3, 0), (0, a), (9, 0)] [(3, 69), (0, a)] F := by
  apply qPair_of
  have hR0 := hR
  obtain ⟨hf, hT, hD, hP, hO, hK, hS, hG⟩ := hR
  have hr := Rf_k hf
  have o1 := hO.1
  have o2 := hO.2.1
  have hPB := hP.1
  unfold PB at hPB
  have d0 := hD.1
  have w3 : w32 (F 69 2 - 1) = F 3 0 - 1 := by rw [d0.1]; exact w32_id ⟨by omega, by omega⟩
  by_cases hs : a < 0
  · simp only [hs, YK, c76, t76, c159, t159, c104, t104, c64, t64, c157, t157, cl104, cl64, cl157, cl32, cl155, tgK, lyK, rkK, wK, rfK, hr, qRes_eq, qNon_eq, qup_ap, vup_ap, vcpy_ap, kc8_0, kc8_1, kc8_2, lc_lt, lc_gt, lc_eq, Option.toList_some, Option.toList_none, List.cons_append, List.nil_append, lay_len, lay_sz, Nat.reduceAdd, Nat.reduceSub, Nat.reduceMul, Int.reduceToNat, Int.reduceLE, Int.reduceLT, Int.reduceEq, Int.reduceAdd, Int.reduceSub, Int.reduceMul, Int.reduceNeg, Nat.reduceLeDiff, Nat.reduceLT, true_and, and_true, false_and, and_false, qcat_0, qcat_1, qcat_3, qcat_9, Nat.reduceEqDiff, if_true, if_false, ite_self, or_true, true_or, or_false, false_or, forall_const, not_true_eq_false, not_false_eq_true, false_implies, implies_true, qtK0, qtK1, qtK2, qtK3, qtK4, List.getD_cons_zero, List.getD_cons_succ]
    exact hR0
  · by_cases hs2 : a < F 3 0
    · have hs3 : ¬ F 3 0 - 1 < a := by omega
      simp only [hs, hs2, w3, hs3, YK, c76, t76, c159, t159, c104, t104, c64, t64, c157, t157, cl104, cl64, cl157, cl32, cl155, tgK, lyK, rkK, wK, rfK, hr, qRes_eq, qNon_eq, qup_ap, vup_ap, vcpy_ap, kc8_0, kc8_1, kc8_2, lc_lt, lc_gt, lc_eq, Option.toList_some, Option.toList_none, List.cons_append, List.nil_append, lay_len, lay_sz, Nat.reduceAdd, Nat.reduceSub, Nat.reduceMul, Int.reduceToNat, Int.reduceLE, Int.reduceLT, Int.reduceEq, Int.reduceAdd, Int.reduceSub, Int.reduceMul, Int.reduceNeg, Nat.reduceLeDiff, Nat.reduceLT, true_and, and_true, false_and, and_false, qcat_0, qcat_1, qcat_3, qcat_9, Nat.reduceEqDiff, if_true, if_false, ite_self, or_true, true_or, or_false, false_or, forall_const, not_true_eq_false, not_false_eq_true, false_implies, implies_true, qtK0, qtK1, qtK2, qtK3, qtK4, List.getD_cons_zero, List.getD_cons_succ]
      refine k32 _ _ (hf.up (by decide)) o1.2 ?_
      simp only [hs, hs2, w3, hs3, cAdd_c, ne_eq, YK, c76, t76, c159, t159, c104, t104, c64, t64, c157, t157, cl104, cl64, cl157, cl32, cl155, tgK, lyK, rkK, wK, rfK, hr, qRes_eq, qNon_eq, qup_ap, vup_ap, vcpy_ap, kc8_0, kc8_1, kc8_2, lc_lt, lc_gt, lc_eq, Option.toList_some, Option.toList_none, List.cons_append, List.nil_append, lay_len, lay_sz, Nat.reduceAdd, Nat.reduceSub, Nat.reduceMul, Int.reduceToNat, Int.reduceLE, Int.reduceLT, Int.reduceEq, Int.reduceAdd, Int.reduceSub, Int.reduceMul, Int.reduceNeg, Nat.reduceLeDiff, Nat.reduceLT, true_and, and_true, false_and, and_false, qcat_0, qcat_1, qcat_3, qcat_9, Nat.reduceEqDiff, if_true, if_false, ite_self, or_true, true_or, or_false, false_or, forall_const, not_true_eq_false, not_false_eq_true, false_implies, implies_true, qtK0, qtK1, qtK2, qtK3, qtK4, List.getD_cons_zero, List.getD_cons_succ]
      refine k155 (Rf_cAdd (hf.up (by decide))) ?_ ?_ ?_
      · simp only [cAdd_c, ne_eq, qup_ap, vup_ap, vcpy_ap, Nat.reduceEqDiff, if_true, if_false, Nat.reduceEqDiff, not_false_eq_true]; omega
      · simp only [cAdd_c, ne_eq, qup_ap, vup_ap, vcpy_ap, Nat.reduceEqDiff, if_true, if_false, Nat.reduceEqDiff, not_false_eq_true]; omega
      simp only [pKeep_c, pKeep_69, cAdd_c, ne_eq, YK, c76, t76, c159, t159, c104, t104, c64, t64, c157, t157, cl104, cl64, cl157, cl32, cl155, tgK, lyK, rkK, wK, rfK, hr, qRes_eq, qNon_eq, qup_ap, vup_ap, vcpy_ap, kc8_0, kc8_1, kc8_2, lc_lt, lc_gt, lc_eq, Option.toList_some, Option.toList_none, List.cons_append, List.nil_append, lay_len, lay_sz, Nat.reduceAdd, Nat.reduceSub, Nat.reduceMul, Int.reduceToNat, Int.reduceLE, Int.reduceLT, Int.reduceEq, Int.reduceAdd, Int.reduceSub, Int.reduceMul, Int.reduceNeg, Nat.reduceLeDiff, Nat.reduceLT, true_and, and_true, false_and, and_false, qcat_0, qcat_1, qcat_3, qcat_9, Nat.reduceEqDiff, if_true, if_false, ite_self, or_true, true_or, or_false, false_or, forall_const, not_true_eq_false, not_false_eq_true, false_implies, implies_true, qtK0, qtK1, qtK2, qtK3, qtK4, List.getD_cons_zero, List.getD_cons_succ]
      rw [hP.2.2]
      exact ⟨rfl, Rel_turn hR0 _ (xor16' (by omega) (by omega))⟩
    · have hs3 : F 3 0 - 1 < a := by omega
      simp only [hs, hs2, w3, hs3, YK, c76, t76, c159, t159, c104, t104, c64, t64, c157, t157, cl104, cl64, cl157, cl32, cl155, tgK, lyK, rkK, wK, rfK, hr, qRes_eq, qNon_eq, qup_ap, vup_ap, vcpy_ap, kc8_0, kc8_1, kc8_2, lc_lt, lc_gt, lc_eq, Option.toList_some, Option.toList_none, List.cons_append, List.nil_append, lay_len, lay_sz, Nat.reduceAdd, Nat.reduceSub, Nat.reduceMul, Int.reduceToNat, Int.reduceLE, Int.reduceLT, Int.reduceEq, Int.reduceAdd, Int.reduceSub, Int.reduceMul, Int.reduceNeg, Nat.reduceLeDiff, Nat.reduceLT, true_and, and_true, false_and, and_false, qcat_0, qcat_1, qcat_3, qcat_9, Nat.reduceEqDiff, if_true, if_false, ite_self, or_true, true_or, or_false, false_or, forall_const, not_true_eq_false, not_false_eq_true, false_implies, implies_true, qtK0, qtK1, qtK2, qtK3, qtK4, List.getD_cons_zero, List.getD_cons_succ]
      exact hR0
theorem H_keep {L : Nat} {xs : Nat → Int} (F : Nat → Nat → Int) (a : Int) (hR : Rel F) (ha : I32 a) : qPair (qtab L xs) Rel 0 91 177 [(3, 0), (0, a)] [(3, 69), (0, a), (9, 0)] F := by
  apply qPair_of
  have hR0 := hR
  obtain ⟨hf, hT, hD, hP, hO, hK, hS, hG⟩ := hR
  have hr := Rf_k hf
  have hs : a < 0 ∨ a = 0 ∨ a = 1 ∨ 1 < a := by omega
  rcases hs with hs | rfl | rfl | hs
  · simp only [hs, YK, c91, t91, c177, t177, c104, t104, c56, t56, cl104, cl56, tgK, lyK, rkK, wK, rfK, hr, qRes_eq, qNon_eq, qup_ap, vup_ap, vcpy_ap, kc8_0, kc8_1, kc8_2, lc_lt, lc_gt, lc_eq, Option.toList_some, Option.toList_none, List.cons_append, List.nil_append, lay_len, lay_sz, Nat.reduceAdd, Nat.reduceSub, Nat.reduceMul, Int.reduceToNat, Int.reduceLE, Int.reduceLT, Int.reduceEq, Int.reduceAdd, Int.reduceSub, Int.reduceMul, Int.reduceNeg, Nat.reduceLeDiff, Nat.reduceLT, true_and, and_true, false_and, and_false, qcat_0, qcat_1, qcat_3, qcat_9, Nat.reduceEqDiff, if_true, if_false, ite_self, or_true, true_or, or_false, false_or, forall_const, not_true_eq_false, not_false_eq_true, false_implies, implies_true, qtK0, qtK1, qtK2, qtK3, qtK4, List.getD_cons_zero, List.getD_cons_succ, y_cpyC]
    exact hR0
  · simp only [YK, c91, t91, c177, t177, c104, t104, c56, t56, cl104, cl56, tgK, lyK, rkK, wK, rfK, hr, qRes_eq, qNon_eq, qup_ap, vup_ap, vcpy_ap, kc8_0, kc8_1, kc8_2, lc_lt, lc_gt, lc_eq, Option.toList_some, Option.toList_none, List.cons_append, List.nil_append, lay_len, lay_sz, Nat.reduceAdd, Nat.reduceSub, Nat.reduceMul, Int.reduceToNat, Int.reduceLE, Int.reduceLT, Int.reduceEq, Int.reduceAdd, Int.reduceSub, Int.reduceMul, Int.reduceNeg, Nat.reduceLeDiff, Nat.reduceLT, true_and, and_true, false_and, and_false, qcat_0, qcat_1, qcat_3, qcat_9, Nat.reduceEqDiff, if_true, if_false, ite_self, or_true, true_or, or_false, false_or, forall_const, not_true_eq_false, not_false_eq_true, false_implies, implies_true, qtK0, qtK1, qtK2, qtK3, qtK4, List.getD_cons_zero, List.getD_cons_succ, y_cpyC]
    rw [h177_21]
    simp only [YK, c91, t91, c177, t177, c104, t104, c56, t56, cl104, cl56, tgK, lyK, rkK, wK, rfK, hr, qRes_eq, qNon_eq, qup_ap, vup_ap, vcpy_ap, kc8_0, kc8_1, kc8_2, lc_lt, lc_gt, lc_eq, Option.toList_some, Option.toList_none, List.cons_append, List.nil_append, lay_len, lay_sz, Nat.reduceAdd, Nat.reduceSub, Nat.reduceMul, Int.reduceToNat, Int.reduceLE, Int.reduceLT, Int.reduceEq, Int.reduceAdd, Int.reduceSub, Int.reduceMul, Int.reduceNeg, Nat.reduceLeDiff, Nat.reduceLT, true_and, and_true, false_and, and_false, qcat_0, qcat_1, qcat_3, qcat_9, Nat.reduceEqDiff, if_true, if_false, ite_self, or_true, true_or, or_false, false_or, forall_const, not_true_eq_false, not_false_eq_true, false_implies, implies_true, qtK0, qtK1, qtK2, qtK3, qtK4, List.getD_cons_zero, List.getD_cons_succ, y_cpyC]
    rw [h177_21]
    simp only [YK, c91, t91, c177, t177, c104, t104, c56, t56, cl104, cl56, tgK, lyK, rkK, wK, rfK, hr, qRes_eq, qNon_eq, qup_ap, vup_ap, vcpy_ap, kc8_0, kc8_1, kc8_2, lc_lt, lc_gt, lc_eq, Option.toList_some, Option.toList_none, List.cons_append, List.nil_append, lay_len, lay_sz, Nat.reduceAdd, Nat.reduceSub, Nat.reduceMul, Int.reduceToNat, Int.reduceLE, Int.reduceLT, Int.reduceEq, Int.reduceAdd, Int.reduceSub, Int.reduceMul, Int.reduceNeg, Nat.reduceLeDiff, Nat.reduceLT, true_and, and_true, false_and, and_false, qcat_0, qcat_1, qcat_3, qcat_9, Nat.reduceEqDiff, if_true, if_false, ite_self, or_true, true_or, or_false, false_or, forall_const, not_true_eq_false, not_false_eq_true, false_implies, implies_true, qtK0, qtK1, qtK2, qtK3, qtK4, List.getD_cons_zero, List.getD_cons_succ, y_cpyC]
    rw [h177_21]
    simp only [YK, c91, t91, c177, t177, c104, t104, c56, t56, cl104, cl56, tgK, lyK, rkK, wK, rfK, hr, qRes_eq, qNon_eq, qup_ap, vup_ap, vcpy_ap, kc8_0, kc8_1, kc8_2, lc_lt, lc_gt, lc_eq, Option.toList_some, Option.toList_none, List.cons_append, List.nil_append, lay_len, lay_sz, Nat.reduceAdd, Nat.reduceSub, Nat.reduceMul, Int.reduceToNat, Int.reduceLE, Int.reduceLT, Int.reduceEq, Int.reduceAdd, Int.reduceSub, Int.reduceMul, Int.reduceNeg, Nat.reduceLeDiff, Nat.reduceLT, true_and, and_true, false_and, and_false, qcat_0, qcat_1, qcat_3, qcat_9, Nat.reduceEqDiff, if_true, if_false, ite_self, or_true, true_or, or_false, false_or, forall_const, not_true_eq_false, not_false_eq_true, false_implies, implies_true, qtK0, qtK1, qtK2, qtK3, qtK4, List.getD_cons_zero, List.getD_cons_succ, y_cpyC]
    rw [h177_21]
    simp only [YK, c91, t91, c177, t177, c104, t104, c56, t56, cl104, cl56, tgK, lyK, rkK, wK, rfK, hr, qRes_eq, qNon_eq, qup_ap, vup_ap, vcpy_ap, kc8_0, kc8_1, kc8_2, lc_lt, lc_gt, lc_eq, Option.toList_some, Option.toList_none, List.cons_append, List.nil_append, lay_len, lay_sz, Nat.reduceAdd, Nat.reduceSub, Nat.reduceMul, Int.reduceToNat, Int.reduceLE, Int.reduceLT, Int.reduceEq, Int.reduceAdd, Int.reduceSub, Int.reduceMul, Int.reduceNeg, Nat.reduceLeDiff, Nat.reduceLT, true_and, and_true, false_and, and_false, qcat_0, qcat_1, qcat_3, qcat_9, Nat.reduceEqDiff, if_true, if_false, ite_self, or_true, true_or, or_false, false_or, forall_const, not_true_eq_false, not_false_eq_true, false_implies, implies_true, qtK0, qtK1, qtK2, qtK3, qtK4, List.getD_cons_zero, List.getD_cons_succ, y_cpyC]
    rw [h177_21]
    simp only [YK, c91, t91, c177, t177, c104, t104, c56, t56, cl104, cl56, tgK, lyK, rkK, wK, rfK, hr, qRes_eq, qNon_eq, qup_ap, vup_ap, vcpy_ap, kc8_0, kc8_1, kc8_2, lc_lt, lc_gt, lc_eq, Option.toList_some, Option.toList_none, List.cons_append, List.nil_append, lay_len, lay_sz, Nat.reduceAdd, Nat.reduceSub, Nat.reduceMul, Int.reduceToNat, Int.reduceLE, Int.reduceLT, Int.reduceEq, Int.reduceAdd, Int.reduceSub, Int.reduceMul, Int.reduceNeg, Nat.reduceLeDiff, Nat.reduceLT, true_and, and_true, false_and, and_false, qcat_0, qcat_1, qcat_3, qcat_9, Nat.reduceEqDiff, if_true, if_false, ite_self, or_true, true_or, or_false, false_or, forall_const, not_true_eq_false, not_false_eq_true, false_implies, implies_true, qtK0, qtK1, qtK2, qtK3, qtK4, List.getD_cons_zero, List.getD_cons_succ, y_cpyC]
    rw [h177_21]
    simp only [YK, c91, t91, c177, t177, c104, t104, c56, t56, cl104, cl56, tgK, lyK, rkK, wK, rfK, hr, qRes_eq, qNon_eq, qup_ap, vup_ap, vcpy_ap, kc8_0, kc8_1, kc8_2, lc_lt, lc_gt, lc_eq, Option.toList_some, Option.toList_none, List.cons_append, List.nil_append, lay_len, lay_sz, Nat.reduceAdd, Nat.reduceSub, Nat.reduceMul, Int.reduceToNat, Int.reduceLE, Int.reduceLT, Int.reduceEq, Int.reduceAdd, Int.reduceSub, Int.reduceMul, Int.reduceNeg, Nat.reduceLeDiff, Nat.reduceLT, true_and, and_true, false_and, and_false, qcat_0, qcat_1, qcat_3, qcat_9, Nat.reduceEqDiff, if_true, if_false, ite_self, or_true, true_or, or_false, false_or, forall_const, not_true_eq_false, not_false_eq_true, false_implies, implies_true, qtK0, qtK1, qtK2, qtK3, qtK4, List.getD_cons_zero, List.getD_cons_succ, y_cpyC]
    rw [h177_21]
    simp only [YK, c91, t91, c177, t177, c104, t104, c56, t56, cl104, cl56, tgK, lyK, rkK, wK, rfK, hr, qRes_eq, qNon_eq, qup_ap, vup_ap, vcpy_ap, kc8_0, kc8_1, kc8_2, lc_lt, lc_gt, lc_eq, Option.toList_some, Option.toList_none, List.cons_append, List.nil_append, lay_len, lay_sz, Nat.reduceAdd, Nat.reduceSub, Nat.reduceMul, Int.reduceToNat, Int.reduceLE, Int.reduceLT, Int.reduceEq, Int.reduceAdd, Int.reduceSub, Int.reduceMul, Int.reduceNeg, Nat.reduceLeDiff, Nat.reduceLT, true_and, and_true, false_and, and_false, qcat_0, qcat_1, qcat_3, qcat_9, Nat.reduceEqDiff, if_true, if_false, ite_self, or_true, true_or, or_false, false_or, forall_const, not_true_eq_false, not_false_eq_true, false_implies, implies_true, qtK0, qtK1, qtK2, qtK3, qtK4, List.getD_cons_zero, List.getD_cons_succ, y_cpyC]
    refine ⟨hD.1.1, ?_, RT_eq hT rfl rfl rfl rfl, RD_eq hD rfl rfl rfl rfl rfl rfl rfl rfl rfl rfl rfl rfl rfl rfl rfl rfl rfl rfl rfl rfl rfl rfl , RP_eq hP rfl rfl rfl, RO_eq hO rfl rfl rfl rfl rfl rfl rfl , ?_, RS_eq hS rfl rfl rfl rfl rfl rfl , RG_eq hG rfl rfl⟩
    · exact ((((((((((Rf_vup hf _ (by decide)).up (by decide)).upA _ _ (by decide)).upA _ _ (by decide)).upA _ _ (by decide)).upA _ _ (by decide)).upA _ _ (by decide)).upA _ _ (by decide)).upA _ _ (by decide)).upA _ _ (by decide))
    · refine ⟨?_, ?_⟩
      · refine ⟨rfl, Or.inr rfl, fun _ => ⟨hP.1, ?_, hP.2.2⟩⟩
        intro k hk
        have hk5 : k = 0 ∨ k = 1 ∨ k = 2 ∨ k = 3 ∨ k = 4 := by omega
        rcases hk5 with rfl | rfl | rfl | rfl | rfl
        · exact hP.2.1 0 (by decide)
        · exact hP.2.1 1 (by decide)
        · exact hP.2.1 2 (by decide)
        · exact hP.2.1 3 (by decide)
        · exact hP.2.1 4 (by decide)
      · refine ⟨hK.2.1, hK.2.2.1, fun h1 => ⟨(hK.2.2.2 h1).1, ?_, (hK.2.2.2 h1).2.2⟩⟩
        intro k hk
        have hk5 : k = 0 ∨ k = 1 ∨ k = 2 ∨ k = 3 ∨ k = 4 := by omega
        rcases hk5 with rfl | rfl | rfl | rfl | rfl
        · exact (hK.2.2.2 h1).2.1 0 (by decide)
        · exact (hK.2.2.2 h1).2.1 1 (by decide)
        · exact (hK.2.2.2 h1).2.1 2 (by decide)
        · exact (hK.2.2.2 h1).2.1 3 (by decide)
        · exact (hK.2.2.2 h1).2.1 4 (by decide)
  · simp only [YK, c91, t91, c177, t177, c104, t104, c56, t56, cl104, cl56, tgK, lyK, rkK, wK, rfK, hr, qRes_eq, qNon_eq, qup_ap, vup_ap, vcpy_ap, kc8_0, kc8_1, kc8_2, lc_lt, lc_gt, lc_eq, Option.toList_some, Option.toList_none, List.cons_append, List.nil_append, lay_len, lay_sz, Nat.reduceAdd, Nat.reduceSub, Nat.reduceMul, Int.reduceToNat, Int.reduceLE, Int.reduceLT, Int.reduceEq, Int.reduceAdd, Int.reduceSub, Int.reduceMul, Int.reduceNeg, Nat.reduceLeDiff, Nat.reduceLT, true_and, and_true, false_and, and_false, qcat_0, qcat_1, qcat_3, qcat_9, Nat.reduceEqDiff, if_true, if_false, ite_self, or_true, true_or, or_false, false_or, forall_const, not_true_eq_false, not_false_eq_true, false_implies, implies_true, qtK0, qtK1, qtK2, qtK3, qtK4, List.getD_cons_zero, List.getD_cons_succ, y_cpyC]
    rw [h177_21]
    simp only [YK, c91, t91, c177, t177, c104, t104, c56, t56, cl104, cl56, tgK, lyK, rkK, wK, rfK, hr, qRes_eq, qNon_eq, qup_ap, vup_ap, vcpy_ap, kc8_0, kc8_1, kc8_2, lc_lt, lc_gt, lc_eq, Option.toList_some, Option.toList_none, List.cons_append, List.nil_append, lay_len, lay_sz, Nat.reduceAdd, Nat.reduceSub, Nat.reduceMul, Int.reduceToNat, Int.reduceLE, Int.reduceLT, Int.reduceEq, Int.reduceAdd, Int.reduceSub, Int.reduceMul, Int.reduceNeg, Nat.reduceLeDiff, Nat.reduceLT, true_and, and_true, false_and, and_false, qcat_0, qcat_1, qcat_3, qcat_9, Nat.reduceEqDiff, if_true, if_false, ite_self, or_true, true_or, or_false, false_or, forall_const, not_true_eq_false, not_false_eq_true, false_implies, implies_true, qtK0, qtK1, qtK2, qtK3, qtK4, List.getD_cons_zero, List.getD_cons_succ, y_cpyC]
    rw [h177_21]
    simp only [YK, c91, t91, c177, t177, c104, t104, c56, t56, cl104, cl56, tgK, lyK, rkK, wK, rfK, hr, qRes_eq, qNon_eq, qup_ap, vup_ap, vcpy_ap, kc8_0, kc8_1, kc8_2, lc_lt, lc_gt, lc_eq, Option.toList_some, Option.toList_none, List.cons_append, List.nil_append, lay_len, lay_sz, Nat.reduceAdd, Nat.reduceSub, Nat.reduceMul, Int.reduceToNat, Int.reduceLE, Int.reduceLT, Int.reduceEq, Int.reduceAdd, Int.reduceSub, Int.reduceMul, Int.reduceNeg, Nat.reduceLeDiff, Nat.reduceLT, true_and, and_true, false_and, and_false, qcat_0, qcat_1, qcat_3, qcat_9, Nat.reduceEqDiff, if_true, if_false, ite_self, or_true, true_or, or_false, false_or, forall_const, not_true_eq_false, not_false_eq_true, false_implies, implies_true, qtK0, qtK1, qtK2, qtK3, qtK4, List.getD_cons_zero, List.getD_cons_succ, y_cpyC]
    rw [h177_21]
    simp only [YK, c91, t91, c177, t177, c104, t104, c56, t56, cl104, cl56, tgK, lyK, rkK, wK, rfK, hr, qRes_eq, qNon_eq, qup_ap, vup_ap, vcpy_ap, kc8_0, kc8_1, kc8_2, lc_lt, lc_gt, lc_eq, Option.toList_some, Option.toList_none, List.cons_append, List.nil_append, lay_len, lay_sz, Nat.reduceAdd, Nat.reduceSub, Nat.reduceMul, Int.reduceToNat, Int.reduceLE, Int.reduceLT, Int.reduceEq, Int.reduceAdd, Int.reduceSub, Int.reduceMul, Int.reduceNeg, Nat.reduceLeDiff, Nat.reduceLT, true_and, and_true, false_and, and_false, qcat_0, qcat_1, qcat_3, qcat_9, Nat.reduceEqDiff, if_true, if_false, ite_self, or_true, true_or, or_false, false_or, forall_const, not_true_eq_false, not_false_eq_true, false_implies, implies_true, qtK0, qtK1, qtK2, qtK3, qtK4, List.getD_cons_zero, List.getD_cons_succ, y_cpyC]
    rw [h177_21]
    simp only [YK, c91, t91, c177, t177, c104, t104, c56, t56, cl104, cl56, tgK, lyK, rkK, wK, rfK, hr, qRes_eq, qNon_eq, qup_ap, vup_ap, vcpy_ap, kc8_0, kc8_1, kc8_2, lc_lt, lc_gt, lc_eq, Option.toList_some, Option.toList_none, List.cons_append, List.nil_append, lay_len, lay_sz, Nat.reduceAdd, Nat.reduceSub, Nat.reduceMul, Int.reduceToNat, Int.reduceLE, Int.reduceLT, Int.reduceEq, Int.reduceAdd, Int.reduceSub, Int.reduceMul, Int.reduceNeg, Nat.reduceLeDiff, Nat.reduceLT, true_and, and_true, false_and, and_false, qcat_0, qcat_1, qcat_3, qcat_9, Nat.reduceEqDiff, if_true, if_false, ite_self, or_true, true_or, or_false, false_or, forall_const, not_true_eq_false, not_false_eq_true, false_implies, implies_true, qtK0, qtK1, qtK2, qtK3, qtK4, List.getD_cons_zero, List.getD_cons_succ, y_cpyC]
    rw [h177_21]
    simp only [YK, c91, t91, c177, t177, c104, t104, c56, t56, cl104, cl56, tgK, lyK, rkK, wK, rfK, hr, qRes_eq, qNon_eq, qup_ap, vup_ap, vcpy_ap, kc8_0, kc8_1, kc8_2, lc_lt, lc_gt, lc_eq, Option.toList_some, Option.toList_none, List.cons_append, List.nil_append, lay_len, lay_sz, Nat.reduceAdd, Nat.reduceSub, Nat.reduceMul, Int.reduceToNat, Int.reduceLE, Int.reduceLT, Int.reduceEq, Int.reduceAdd, Int.reduceSub, Int.reduceMul, Int.reduceNeg, Nat.reduceLeDiff, Nat.reduceLT, true_and, and_true, false_and, and_false, qcat_0, qcat_1, qcat_3, qcat_9, Nat.reduceEqDiff, if_true, if_false, ite_self, or_true, true_or, or_false, false_or, forall_const, not_true_eq_false, not_false_eq_true, false_implies, implies_true, qtK0, qtK1, qtK2, qtK3, qtK4, List.getD_cons_zero, List.getD_cons_succ, y_cpyC]
    rw [h177_21]
    simp only [YK, c91, t91, c177, t177, c104, t104, c56, t56, cl104, cl56, tgK, lyK, rkK, wK, rfK, hr, qRes_eq, qNon_eq, qup_ap, vup_ap, vcpy_ap, kc8_0, kc8_1, kc8_2, lc_lt, lc_gt, lc_eq, Option.toList_some, Option.toList_none, List.cons_append, List.nil_append, lay_len, lay_sz, Nat.reduceAdd, Nat.reduceSub, Nat.reduceMul, Int.reduceToNat, Int.reduceLE, Int.reduceLT, Int.reduceEq, Int.reduceAdd, Int.reduceSub, Int.reduceMul, Int.reduceNeg, Nat.reduceLeDiff, Nat.reduceLT, true_and, and_true, false_and, and_false, qcat_0, qcat_1, qcat_3, qcat_9, Nat.reduceEqDiff, if_true, if_false, ite_self, or_true, true_or, or_false, false_or, forall_const, not_true_eq_false, not_false_eq_true, false_implies, implies_true, qtK0, qtK1, qtK2, qtK3, qtK4, List.getD_cons_zero, List.getD_cons_succ, y_cpyC]
    rw [h177_21]
    simp only [YK, c91, t91, c177, t177, c104, t104, c56, t56, cl104, cl56, tgK, lyK, rkK, wK, rfK, hr, qRes_eq, qNon_eq, qup_ap, vup_ap, vcpy_ap, kc8_0, kc8_1, kc8_2, lc_lt, lc_gt, lc_eq, Option.toList_some, Option.toList_none, List.cons_append, List.nil_append, lay_len, lay_sz, Nat.reduceAdd, Nat.reduceSub, Nat.reduceMul, Int.reduceToNat, Int.reduceLE, Int.reduceLT, Int.reduceEq, Int.reduceAdd, Int.reduceSub, Int.reduceMul, Int.reduceNeg, Nat.reduceLeDiff, Nat.reduceLT, true_and, and_true, false_and, and_false, qcat_0, qcat_1, qcat_3, qcat_9, Nat.reduceEqDiff, if_true, if_false, ite_self, or_true, true_or, or_false, false_or, forall_const, not_true_eq_false, not_false_eq_true, false_implies, implies_true, qtK0, qtK1, qtK2, qtK3, qtK4, List.getD_cons_zero, List.getD_cons_succ, y_cpyC]
    refine ⟨hD.1.1, ?_, RT_eq hT rfl rfl rfl rfl, RD_eq hD rfl rfl rfl rfl rfl rfl rfl rfl rfl rfl rfl rfl rfl rfl rfl rfl rfl rfl rfl rfl rfl rfl , RP_eq hP rfl rfl rfl, RO_eq hO rfl rfl rfl rfl rfl rfl rfl , ?_, RS_eq hS rfl rfl rfl rfl rfl rfl , RG_eq hG rfl rfl⟩
    · exact ((((((((((Rf_vup hf _ (by decide)).up (by decide)).upA _ _ (by decide)).upA _ _ (by decide)).upA _ _ (by decide)).upA _ _ (by decide)).upA _ _ (by decide)).upA _ _ (by decide)).upA _ _ (by decide)).upA _ _ (by decide))
    · refine ⟨?_, ?_⟩
      · refine ⟨hK.1.1, hK.1.2.1, fun h1 => ⟨(hK.1.2.2 h1).1, ?_, (hK.1.2.2 h1).2.2⟩⟩
        intro k hk
        have hk5 : k = 0 ∨ k = 1 ∨ k = 2 ∨ k = 3 ∨ k = 4 := by omega
        rcases hk5 with rfl | rfl | rfl | rfl | rfl
        · exact (hK.1.2.2 h1).2.1 0 (by decide)
        · exact (hK.1.2.2 h1).2.1 1 (by decide)
        · exact (hK.1.2.2 h1).2.1 2 (by decide)
        · exact (hK.1.2.2 h1).2.1 3 (by decide)
        · exact (hK.1.2.2 h1).2.1 4 (by decide)
      · refine ⟨rfl, Or.inr rfl, fun _ => ⟨hP.1, ?_, hP.2.2⟩⟩
        intro k hk
        have hk5 : k = 0 ∨ k = 1 ∨ k = 2 ∨ k = 3 ∨ k = 4 := by omega
        rcases hk5 with rfl | rfl | rfl | rfl | rfl
        · exact hP.2.1 0 (by decide)
        · exact hP.2.1 1 (by decide)
        · exact hP.2.1 2 (by decide)
        · exact hP.2.1 3 (by decide)
        · exact hP.2.1 4 (by decide)
  · have hs2 : ¬ a < 0 := by omega
    have hs3 : ¬ a < 2 := by omega
    simp only [hs, hs2, hs3, YK, c91, t91, c177, t177, c104, t104, c56, t56, cl104, cl56, tgK, lyK, rkK, wK, rfK, hr, qRes_eq, qNon_eq, qup_ap, vup_ap, vcpy_ap, kc8_0, kc8_1, kc8_2, lc_lt, lc_gt, lc_eq, Option.toList_some, Option.toList_none, List.cons_append, List.nil_append, lay_len, lay_sz, Nat.reduceAdd, Nat.reduceSub, Nat.reduceMul, Int.reduceToNat, Int.reduceLE, Int.reduceLT, Int.reduceEq, Int.reduceAdd, Int.reduceSub, Int.reduceMul, Int.reduceNeg, Nat.reduceLeDiff, Nat.reduceLT, true_and, and_true, false_and, and_false, qcat_0, qcat_1, qcat_3, qcat_9, Nat.reduceEqDiff, if_true, if_false, ite_self, or_true, true_or, or_false, false_or, forall_const, not_true_eq_false, not_false_eq_true, false_implies, implies_true, qtK0, qtK1, qtK2, qtK3, qtK4, List.getD_cons_zero, List.getD_cons_succ, y_cpyC]
    exact hR0
theorem H_again {L : Nat} {xs : Nat → Int} (F : Nat → Nat → Int) (a : Int) (hR : Rel F) (ha : I32 a) : qPair (qtab L xs) Rel 0 92 178 [(3, 0), (0, a)] [(3, 69), (0, a), (9, 0)] F := by
  apply qPair_of
  have hR0 := hR
  obtain ⟨hf, hT, hD, hP, hO, hK, hS, hG⟩ := hR
  have hr := Rf_k hf
  have hs : a < 0 ∨ a = 0 ∨ a = 1 ∨ 1 < a := by omega
  rcases hs with hs | rfl | rfl | hs
  · simp only [hs, YK, c92, t92, c178, t178, c104, t104, c56, t56, cl104, cl56, tgK, lyK, rkK, wK, rfK, hr, qRes_eq, qNon_eq, qup_ap, vup_ap, vcpy_ap, kc8_0, kc8_1, kc8_2, lc_lt, lc_gt, lc_eq, Option.toList_some, Option.toList_none, List.cons_append, List.nil_append, lay_len, lay_sz, Nat.reduceAdd, Nat.reduceSub, Nat.reduceMul, Int.reduceToNat, Int.reduceLE, Int.reduceLT, Int.reduceEq, Int.reduceAdd, Int.reduceSub, Int.reduceMul, Int.reduceNeg, Nat.reduceLeDiff, Nat.reduceLT, true_and, and_true, false_and, and_false, qcat_0, qcat_1, qcat_3, qcat_9, Nat.reduceEqDiff, if_true, if_false, ite_self, or_true, true_or, or_false, false_or, forall_const, not_true_eq_false, not_false_eq_true, false_implies, implies_true, qtK0, qtK1, qtK2, qtK3, qtK4, List.getD_cons_zero, List.getD_cons_succ, y_cpyC]
    exact hR0
  · have hk0 := hK.1
    by_cases hz : F 34 0 = 0
    · have hz2 : F 93 0 = 0 := by rw [hk0.1, hz]
      simp only [hz, hz2, YK, c92, t92, c178, t178, c104, t104, c56, t56, cl104, cl56, tgK, lyK, rkK, wK, rfK, hr, qRes_eq, qNon_eq, qup_ap, vup_ap, vcpy_ap, kc8_0, kc8_1, kc8_2, lc_lt, lc_gt, lc_eq, Option.toList_some, Option.toList_none, List.cons_append, List.nil_append, lay_len, lay_sz, Nat.reduceAdd, Nat.reduceSub, Nat.reduceMul, Int.reduceToNat, Int.reduceLE, Int.reduceLT, Int.reduceEq, Int.reduceAdd, Int.reduceSub, Int.reduceMul, Int.reduceNeg, Nat.reduceLeDiff, Nat.reduceLT, true_and, and_true, false_and, and_false, qcat_0, qcat_1, qcat_3, qcat_9, Nat.reduceEqDiff, if_true, if_false, ite_self, or_true, true_or, or_false, false_or, forall_const, not_true_eq_false, not_false_eq_true, false_implies, implies_true, qtK0, qtK1, qtK2, qtK3, qtK4, List.getD_cons_zero, List.getD_cons_succ, y_cpyC]
      exact hR0
    · have hz2 : ¬ F 93 0 = 0 := by rw [hk0.1]; exact hz
      have hz3 := hk0.2.2 (by omega)
      simp only [hz, hz2, YK, c92, t92, c178, t178, c104, t104, c56, t56, cl104, cl56, tgK, lyK, rkK, wK, rfK, hr, qRes_eq, qNon_eq, qup_ap, vup_ap, vcpy_ap, kc8_0, kc8_1, kc8_2, lc_lt, lc_gt, lc_eq, Option.toList_some, Option.toList_none, List.cons_append, List.nil_append, lay_len, lay_sz, Nat.reduceAdd, Nat.reduceSub, Nat.reduceMul, Int.reduceToNat, Int.reduceLE, Int.reduceLT, Int.reduceEq, Int.reduceAdd, Int.reduceSub, Int.reduceMul, Int.reduceNeg, Nat.reduceLeDiff, Nat.reduceLT, true_and, and_true, false_and, and_false, qcat_0, qcat_1, qcat_3, qcat_9, Nat.reduceEqDiff, if_true, if_false, ite_self, or_true, true_or, or_false, false_or, forall_const, not_true_eq_false, not_false_eq_true, false_implies, implies_true, qtK0, qtK1, qtK2, qtK3, qtK4, List.getD_cons_zero, List.getD_cons_succ, y_cpyC]
      rw [h178_26]
      simp only [YK, c92, t92, c178, t178, c104, t104, c56, t56, cl104, cl56, tgK, lyK, rkK, wK, rfK, hr, qRes_eq, qNon_eq, qup_ap, vup_ap, vcpy_ap, kc8_0, kc8_1, kc8_2, lc_lt, lc_gt, lc_eq, Option.toList_some, Option.toList_none, List.cons_append, List.nil_append, lay_len, lay_sz, Nat.reduceAdd, Nat.reduceSub, Nat.reduceMul, Int.reduceToNat, Int.reduceLE, Int.reduceLT, Int.reduceEq, Int.reduceAdd, Int.reduceSub, Int.reduceMul, Int.reduceNeg, Nat.reduceLeDiff, Nat.reduceLT, true_and, and_true, false_and, and_false, qcat_0, qcat_1, qcat_3, qcat_9, Nat.reduceEqDiff, if_true, if_false, ite_self, or_true, true_or, or_false, false_or, forall_const, not_true_eq_false, not_false_eq_true, false_implies, implies_true, qtK0, qtK1, qtK2, qtK3, qtK4, List.getD_cons_zero, List.getD_cons_succ, y_cpyC]
      rw [h178_26]
      simp only [YK, c92, t92, c178, t178, c104, t104, c56, t56, cl104, cl56, tgK, lyK, rkK, wK, rfK, hr, qRes_eq, qNon_eq, qup_ap, vup_ap, vcpy_ap, kc8_0, kc8_1, kc8_2, lc_lt, lc_gt, lc_eq, Option.toList_some, Option.toList_none, List.cons_append, List.nil_append, lay_len, lay_sz, Nat.reduceAdd, Nat.reduceSub, Nat.reduceMul, Int.reduceToNat, Int.reduceLE, Int.reduceLT, Int.reduceEq, Int.reduceAdd, Int.reduceSub, Int.reduceMul, Int.reduceNeg, Nat.reduceLeDiff, Nat.reduceLT, true_and, and_true, false_and, and_false, qcat_0, qcat_1, qcat_3, qcat_9, Nat.reduceEqDiff, if_true, if_false, ite_self, or_true, true_or, or_false, false_or, forall_const, not_true_eq_false, not_false_eq_true, false_implies, implies_true, qtK0, qtK1, qtK2, qtK3, qtK4, List.getD_cons_zero, List.getD_cons_succ, y_cpyC]
      rw [h178_26]
      simp only [YK, c92, t92, c178, t178, c104, t104, c56, t56, cl104, cl56, tgK, lyK, rkK, wK, rfK, hr, qRes_eq, qNon_eq, qup_ap, vup_ap, vcpy_ap, kc8_0, kc8_1, kc8_2, lc_lt, lc_gt, lc_eq, Option.toList_some, Option.toList_none, List.cons_append, List.nil_append, lay_len, lay_sz, Nat.reduceAdd, Nat.reduceSub, Nat.reduceMul, Int.reduceToNat, Int.reduceLE, Int.reduceLT, Int.reduceEq, Int.reduceAdd, Int.reduceSub, Int.reduceMul, Int.reduceNeg, Nat.reduceLeDiff, Nat.reduceLT, true_and, and_true, false_and, and_false, qcat_0, qcat_1, qcat_3, qcat_9, Nat.reduceEqDiff, if_true, if_false, ite_self, or_true, true_or, or_false, false_or, forall_const, not_true_eq_false, not_false_eq_true, false_implies, implies_true, qtK0, qtK1, qtK2, qtK3, qtK4, List.getD_cons_zero, List.getD_cons_succ, y_cpyC]
      rw [h178_26]
      simp only [YK, c92, t92, c178, t178, c104, t104, c56, t56, cl104, cl56, tgK, lyK, rkK, wK, rfK, hr, qRes_eq, qNon_eq, qup_ap, vup_ap, vcpy_ap, kc8_0, kc8_1, kc8_2, lc_lt, lc_gt, lc_eq, Option.toList_some, Option.toList_none, List.cons_append, List.nil_append, lay_len, lay_sz, Nat.reduceAdd, Nat.reduceSub, Nat.reduceMul, Int.reduceToNat, Int.reduceLE, Int.reduceLT, Int.reduceEq, Int.reduceAdd, Int.reduceSub, Int.reduceMul, Int.reduceNeg, Nat.reduceLeDiff, Nat.reduceLT, true_and, and_true, false_and, and_false, qcat_0, qcat_1, qcat_3, qcat_9, Nat.reduceEqDiff, if_true, if_false, ite_self, or_true, true_or, or_false, false_or, forall_const, not_true_eq_false, not_false_eq_true, false_implies, implies_true, qtK0, qtK1, qtK2, qtK3, qtK4, List.getD_cons_zero, List.getD_cons_succ, y_cpyC]
      rw [h178_26]
      simp only [YK, c92, t92, c178, t178, c104, t104, c56, t56, cl104, cl56, tgK, lyK, rkK, wK, rfK, hr, qRes_eq, qNon_eq, qup_ap, vup_ap, vcpy_ap, kc8_0, kc8_1, kc8_2, lc_lt, lc_gt, lc_eq, Option.toList_some, Option.toList_none, List.cons_append, List.nil_append, lay_len, lay_sz, Nat.reduceAdd, Nat.reduceSub, Nat.reduceMul, Int.reduceToNat, Int.reduceLE, Int.reduceLT, Int.reduceEq, Int.reduceAdd, Int.reduceSub, Int.reduceMul, Int.reduceNeg, Nat.reduceLeDiff, Nat.reduceLT, true_and, and_true, false_and, and_false, qcat_0, qcat_1, qcat_3, qcat_9, Nat.reduceEqDiff, if_true, if_false, ite_self, or_true, true_or, or_false, false_or, forall_const, not_true_eq_false, not_false_eq_true, false_implies, implies_true, qtK0, qtK1, qtK2, qtK3, qtK4, List.getD_cons_zero, List.getD_cons_succ, y_cpyC]
      rw [h178_26]
      simp only [YK, c92, t92, c178, t178, c104, t104, c56, t56, cl104, cl56, tgK, lyK, rkK, wK, rfK, hr, qRes_eq, qNon_eq, qup_ap, vup_ap, vcpy_ap, kc8_0, kc8_1, kc8_2, lc_lt, lc_gt, lc_eq, Option.toList_some, Option.toList_none, List.cons_append, List.nil_append, lay_len, lay_sz, Nat.reduceAdd, Nat.reduceSub, Nat.reduceMul, Int.reduceToNat, Int.reduceLE, Int.reduceLT, Int.reduceEq, Int.reduceAdd, Int.reduceSub, Int.reduceMul, Int.reduceNeg, Nat.reduceLeDiff, Nat.reduceLT, true_and, and_true, false_and, and_false, qcat_0, qcat_1, qcat_3, qcat_9, Nat.reduceEqDiff, if_true, if_false, ite_self, or_true, true_or, or_false, false_or, forall_const, not_true_eq_false, not_false_eq_true, false_implies, implies_true, qtK0, qtK1, qtK2, qtK3, qtK4, List.getD_cons_zero, List.getD_cons_succ, y_cpyC]
      rw [h178_26]
      simp only [YK, c92, t92, c178, t178, c104, t104, c56, t56, cl104, cl56, tgK, lyK, rkK, wK, rfK, hr, qRes_eq, qNon_eq, qup_ap, vup_ap, vcpy_ap, kc8_0, kc8_1, kc8_2, lc_lt, lc_gt, lc_eq, Option.toList_some, Option.toList_none, List.cons_append, List.nil_append, lay_len, lay_sz, Nat.reduceAdd, Nat.reduceSub, Nat.reduceMul, Int.reduceToNat, Int.reduceLE, Int.reduceLT, Int.reduceEq, Int.reduceAdd, Int.reduceSub, Int.reduceMul, Int.reduceNeg, Nat.reduceLeDiff, Nat.reduceLT, true_and, and_true, false_and, and_false, qcat_0, qcat_1, qcat_3, qcat_9, Nat.reduceEqDiff, if_true, if_false, ite_self, or_true, true_or, or_false, false_or, forall_const, not_true_eq_false, not_false_eq_true, false_implies, implies_true, qtK0, qtK1, qtK2, qtK3, qtK4, List.getD_cons_zero, List.getD_cons_succ, y_cpyC]
      refine ⟨hD.1.1, ?_, RT_eq hT rfl rfl rfl rfl, RD_eq hD rfl rfl rfl rfl rfl rfl rfl rfl rfl rfl rfl rfl rfl rfl rfl rfl rfl rfl rfl rfl rfl rfl , ?_, ?_, RK_eq hK rfl rfl rfl rfl rfl rfl rfl , RS_eq hS rfl rfl rfl rfl rfl rfl , RG_eq hG rfl rfl⟩
      · exact (((((((((Rf_vup hf _ (by decide)).up (by decide)).up (by decide)).upA _ _ (by decide)).upA _ _ (by decide)).upA _ _ (by decide)).upA _ _ (by decide)).upA _ _ (by decide)).upA _ _ (by decide)).up (by decide)
      · refine ⟨hz3.1, ?_, hz3.2.2⟩
        intro k hk
        have hk5 : k = 0 ∨ k = 1 ∨ k = 2 ∨ k = 3 ∨ k = 4 := by omega
        rcases hk5 with rfl | rfl | rfl | rfl | rfl
        · exact hz3.2.1 0 (by decide)
        · exact hz3.2.1 1 (by decide)
        · exact hz3.2.1 2 (by decide)
        · exact hz3.2.1 3 (by decide)
        · exact hz3.2.1 4 (by decide)
      · refine ⟨⟨rfl, by show (0 : Int) ≤ 0; decide, by show (0 : Int) ≤ 14; decide⟩, hO.2.1, ?_⟩
        intro i hi
        exact absurd hi (by show ¬ ((i : Int) < 0); omega)
  · have hk0 := hK.2
    by_cases hz : F 34 1 = 0
    · have hz2 : F 93 1 = 0 := by rw [hk0.1, hz]
      simp only [hz, hz2, YK, c92, t92, c178, t178, c104, t104, c56, t56, cl104, cl56, tgK, lyK, rkK, wK, rfK, hr, qRes_eq, qNon_eq, qup_ap, vup_ap, vcpy_ap, kc8_0, kc8_1, kc8_2, lc_lt, lc_gt, lc_eq, Option.toList_some, Option.toList_none, List.cons_append, List.nil_append, lay_len, lay_sz, Nat.reduceAdd, Nat.reduceSub, Nat.reduceMul, Int.reduceToNat, Int.reduceLE, Int.reduceLT, Int.reduceEq, Int.reduceAdd, Int.reduceSub, Int.reduceMul, Int.reduceNeg, Nat.reduceLeDiff, Nat.reduceLT, true_and, and_true, false_and, and_false, qcat_0, qcat_1, qcat_3, qcat_9, Nat.reduceEqDiff, if_true, if_false, ite_self, or_true, true_or, or_false, false_or, forall_const, not_true_eq_false, not_false_eq_true, false_implies, implies_true, qtK0, qtK1, qtK2, qtK3, qtK4, List.getD_cons_zero, List.getD_cons_succ, y_cpyC]
      exact hR0
    · have hz2 : ¬ F 93 1 = 0 := by rw [hk0.1]; exact hz
      have hz3 := hk0.2.2 (by omega)
      simp only [hz, hz2, YK, c92, t92, c178, t178, c104, t104, c56, t56, cl104, cl56, tgK, lyK, rkK, wK, rfK, hr, qRes_eq, qNon_eq, qup_ap, vup_ap, vcpy_ap, kc8_0, kc8_1, kc8_2, lc_lt, lc_gt, lc_eq, Option.toList_some, Option.toList_none, List.cons_append, List.nil_append, lay_len, lay_sz, Nat.reduceAdd, Nat.reduceSub, Nat.reduceMul, Int.reduceToNat, Int.reduceLE, Int.reduceLT, Int.reduceEq, Int.reduceAdd, Int.reduceSub, Int.reduceMul, Int.reduceNeg, Nat.reduceLeDiff, Nat.reduceLT, true_and, and_true, false_and, and_false, qcat_0, qcat_1, qcat_3, qcat_9, Nat.reduceEqDiff, if_true, if_false, ite_self, or_true, true_or, or_false, false_or, forall_const, not_true_eq_false, not_false_eq_true, false_implies, implies_true, qtK0, qtK1, qtK2, qtK3, qtK4, List.getD_cons_zero, List.getD_cons_succ, y_cpyC]
      rw [h178_26]
      simp only [YK, c92, t92, c178, t178, c104, t104, c56, t56, cl104, cl56, tgK, lyK, rkK, wK, rfK, hr, qRes_eq, qNon_eq, qup_ap, vup_ap, vcpy_ap, kc8_0, kc8_1, kc8_2, lc_lt, lc_gt, lc_eq, Option.toList_some, Option.toList_none, List.cons_append, List.nil_append, lay_len, lay_sz, Nat.reduceAdd, Nat.reduceSub, Nat.reduceMul, Int.reduceToNat, Int.reduceLE, Int.reduceLT, Int.reduceEq, Int.reduceAdd, Int.reduceSub, Int.reduceMul, Int.reduceNeg, Nat.reduceLeDiff, Nat.reduceLT, true_and, and_true, false_and, and_false, qcat_0, qcat_1, qcat_3, qcat_9, Nat.reduceEqDiff, if_true, if_false, ite_self, or_true, true_or, or_false, false_or, forall_const, not_true_eq_false, not_false_eq_true, false_implies, implies_true, qtK0, qtK1, qtK2, qtK3, qtK4, List.getD_cons_zero, List.getD_cons_succ, y_cpyC]
      rw [h178_26]
      simp only [YK, c92, t92, c178, t178, c104, t104, c56, t56, cl104, cl56, tgK, lyK, rkK, wK, rfK, hr, qRes_eq, qNon_eq, qup_ap, vup_ap, vcpy_ap, kc8_0, kc8_1, kc8_2, lc_lt, lc_gt, lc_eq, Option.toList_some, Option.toList_none, List.cons_append, List.nil_append, lay_len, lay_sz, Nat.reduceAdd, Nat.reduceSub, Nat.reduceMul, Int.reduceToNat, Int.reduceLE, Int.reduceLT, Int.reduceEq, Int.reduceAdd, Int.reduceSub, Int.reduceMul, Int.reduceNeg, Nat.reduceLeDiff, Nat.reduceLT, true_and, and_true, false_and, and_false, qcat_0, qcat_1, qcat_3, qcat_9, Nat.reduceEqDiff, if_true, if_false, ite_self, or_true, true_or, or_false, false_or, forall_const, not_true_eq_false, not_false_eq_true, false_implies, implies_true, qtK0, qtK1, qtK2, qtK3, qtK4, List.getD_cons_zero, List.getD_cons_succ, y_cpyC]
      rw [h178_26]
      simp only [YK, c92, t92, c178, t178, c104, t104, c56, t56, cl104, cl56, tgK, lyK, rkK, wK, rfK, hr, qRes_eq, qNon_eq, qup_ap, vup_ap, vcpy_ap, kc8_0, kc8_1, kc8_2, lc_lt, lc_gt, lc_eq, Option.toList_some, Option.toList_none, List.cons_append, List.nil_append, lay_len, lay_sz, Nat.reduceAdd, Nat.reduceSub, Nat.reduceMul, Int.reduceToNat, Int.reduceLE, Int.reduceLT, Int.reduceEq, Int.reduceAdd, Int.reduceSub, Int.reduceMul, Int.reduceNeg, Nat.reduceLeDiff, Nat.reduceLT, true_and, and_true, false_and, and_false, qcat_0, qcat_1, qcat_3, qcat_9, Nat.reduceEqDiff, if_true, if_false, ite_self, or_true, true_or, or_false, false_or, forall_const, not_true_eq_false, not_false_eq_true, false_implies, implies_true, qtK0, qtK1, qtK2, qtK3, qtK4, List.getD_cons_zero, List.getD_cons_succ, y_cpyC]
      rw [h178_26]
      simp only [YK, c92, t92, c178, t178, c104, t104, c56, t56, cl104, cl56, tgK, lyK, rkK, wK, rfK, hr, qRes_eq, qNon_eq, qup_ap, vup_ap, vcpy_ap, kc8_0, kc8_1, kc8_2, lc_lt, lc_gt, lc_eq, Option.toList_some, Option.toList_none, List.cons_append, List.nil_append, lay_len, lay_sz, Nat.reduceAdd, Nat.reduceSub, Nat.reduceMul, Int.reduceToNat, Int.reduceLE, Int.reduceLT, Int.reduceEq, Int.reduceAdd, Int.reduceSub, Int.reduceMul, Int.reduceNeg, Nat.reduceLeDiff, Nat.reduceLT, true_and, and_true, false_and, and_false, qcat_0, qcat_1, qcat_3, qcat_9, Nat.reduceEqDiff, if_true, if_false, ite_self, or_true, true_or, or_false, false_or, forall_const, not_true_eq_false, not_false_eq_true, false_implies, implies_true, qtK0, qtK1, qtK2, qtK3, qtK4, List.getD_cons_zero, List.getD_cons_succ, y_cpyC]
      rw [h178_26]
      simp only [YK, c92, t92, c178, t178, c104, t104, c56, t56, cl104, cl56, tgK, lyK, rkK, wK, rfK, hr, qRes_eq, qNon_eq, qup_ap, vup_ap, vcpy_ap, kc8_0, kc8_1, kc8_2, lc_lt, lc_gt, lc_eq, Option.toList_some, Option.toList_none, List.cons_append, List.nil_append, lay_len, lay_sz, Nat.reduceAdd, Nat.reduceSub, Nat.reduceMul, Int.reduceToNat, Int.reduceLE, Int.reduceLT, Int.reduceEq, Int.reduceAdd, Int.reduceSub, Int.reduceMul, Int.reduceNeg, Nat.reduceLeDiff, Nat.reduceLT, true_and, and_true, false_and, and_false, qcat_0, qcat_1, qcat_3, qcat_9, Nat.reduceEqDiff, if_true, if_false, ite_self, or_true, true_or, or_false, false_or, forall_const, not_true_eq_false, not_false_eq_true, false_implies, implies_true, qtK0, qtK1, qtK2, qtK3, qtK4, List.getD_cons_zero, List.getD_cons_succ, y_cpyC]
      rw [h178_26]
      simp only [YK, c92, t92, c178, t178, c104, t104, c56, t56, cl104, cl56, tgK, lyK, rkK, wK, rfK, hr, qRes_eq, qNon_eq, qup_ap, vup_ap, vcpy_ap, kc8_0, kc8_1, kc8_2, lc_lt, lc_gt, lc_eq, Option.toList_some, Option.toList_none, List.cons_append, List.nil_append, lay_len, lay_sz, Nat.reduceAdd, Nat.reduceSub, Nat.reduceMul, Int.reduceToNat, Int.reduceLE, Int.reduceLT, Int.reduceEq, Int.reduceAdd, Int.reduceSub, Int.reduceMul, Int.reduceNeg, Nat.reduceLeDiff, Nat.reduceLT, true_and, and_true, false_and, and_false, qcat_0, qcat_1, qcat_3, qcat_9, Nat.reduceEqDiff, if_true, if_false, ite_self, or_true, true_or, or_false, false_or, forall_const, not_true_eq_false, not_false_eq_true, false_implies, implies_true, qtK0, qtK1, qtK2, qtK3, qtK4, List.getD_cons_zero, List.getD_cons_succ, y_cpyC]
      rw [h178_26]
      simp only [YK, c92, t92, c178, t178, c104, t104, c56, t56, cl104, cl56, tgK, lyK, rkK, wK, rfK, hr, qRes_eq, qNon_eq, qup_ap, vup_ap, vcpy_ap, kc8_0, kc8_1, kc8_2, lc_lt, lc_gt, lc_eq, Option.toList_some, Option.toList_none, List.cons_append, List.nil_append, lay_len, lay_sz, Nat.reduceAdd, Nat.reduceSub, Nat.reduceMul, Int.reduceToNat, Int.reduceLE, Int.reduceLT, Int.reduceEq, Int.reduceAdd, Int.reduceSub, Int.reduceMul, Int.reduceNeg, Nat.reduceLeDiff, Nat.reduceLT, true_and, and_true, false_and, and_false, qcat_0, qcat_1, qcat_3, qcat_9, Nat.reduceEqDiff, if_true, if_false, ite_self, or_true, true_or, or_false, false_or, forall_const, not_true_eq_false, not_false_eq_true, false_implies, implies_true, qtK0, qtK1, qtK2, qtK3, qtK4, List.getD_cons_zero, List.getD_cons_succ, y_cpyC]
      refine ⟨hD.1.1, ?_, RT_eq hT rfl rfl rfl rfl, RD_eq hD rfl rfl rfl rfl rfl rfl rfl rfl rfl rfl rfl rfl rfl rfl rfl rfl rfl rfl rfl rfl rfl rfl , ?_, ?_, RK_eq hK rfl rfl rfl rfl rfl rfl rfl , RS_eq hS rfl rfl rfl rfl rfl rfl , RG_eq hG rfl rfl⟩
      · exact (((((((((Rf_vup hf _ (by decide)).up (by decide)).up (by decide)).upA _ _ (by decide)).upA _ _ (by decide)).upA _ _ (by decide)).upA _ _ (by decide)).upA _ _ (by decide)).upA _ _ (by decide)).up (by decide)
      · refine ⟨hz3.1, ?_, hz3.2.2⟩
        intro k hk
        have hk5 : k = 0 ∨ k = 1 ∨ k = 2 ∨ k = 3 ∨ k = 4 := by omega
        rcases hk5 with rfl | rfl | rfl | rfl | rfl
        · exact hz3.2.1 0 (by decide)
        · exact hz3.2.1 1 (by decide)
        · exact hz3.2.1 2 (by decide)
        · exact hz3.2.1 3 (by decide)
        · exact hz3.2.1 4 (by decide)
      · refine ⟨⟨rfl, by show (0 : Int) ≤ 0; decide, by show (0 : Int) ≤ 14; decide⟩, hO.2.1, ?_⟩
        intro i hi
        exact absurd hi (by show ¬ ((i : Int) < 0); omega)
  · have hs2 : ¬ a < 0 := by omega
    have hs3 : ¬ a < 2 := by omega
    simp only [hs, hs2, hs3, YK, c92, t92, c178, t178, c104, t104, c56, t56, cl104, cl56, tgK, lyK, rkK, wK, rfK, hr, qRes_eq, qNon_eq, qup_ap, vup_ap, vcpy_ap, kc8_0, kc8_1, kc8_2, lc_lt, lc_gt, lc_eq, Option.toList_some, Option.toList_none, List.cons_append, List.nil_append, lay_len, lay_sz, Nat.reduceAdd, Nat.reduceSub, Nat.reduceMul, Int.reduceToNat, Int.reduceLE, Int.reduceLT, Int.reduceEq, Int.reduceAdd, Int.reduceSub, Int.reduceMul, Int.reduceNeg, Nat.reduceLeDiff, Nat.reduceLT, true_and, and_true, false_and, and_false, qcat_0, qcat_1, qcat_3, qcat_9, Nat.reduceEqDiff, if_true, if_false, ite_self, or_true, true_or, or_false, false_or, forall_const, not_true_eq_false, not_false_eq_true, false_implies, implies_true, qtK0, qtK1, qtK2, qtK3, qtK4, List.getD_cons_zero, List.getD_cons_succ, y_cpyC]
    exact hR0
theorem six_all {P : Nat → Prop} (h0 : P 0) (h1 : P 1) (h2 : P 2) (h3 : P 3) (h4 : P 4) (h5 : P 5) : ∀ k : Nat, k < 6 → P k := by
  intro k hk
  have hk6 : k = 0 ∨ k = 1 ∨ k = 2 ∨ k = 3 ∨ k = 4 ∨ k = 5 := by omega
  rcases hk6 with rfl | rfl | rfl | rfl | rfl | rfl <;> assumption
theorem RP_row {F G : Nat → Nat → Int} {m : Nat} (h : PB (fun k => F 91 (m + k)) (F 91 (m + 5))) (g7 : ∀ k : Nat, k < 6 → G 89 k = F 91 (m + k)) (h24 : ∀ k : Nat, k < 5 → F 91 (m + k) = G 24 k) (h23 : F 91 (m + 5) = G 23 1) : RP G := by
  refine ⟨?_, fun k hk => by rw [g7 k (by omega), h24 k hk], by rw [g7 5 (by decide), h23]⟩
  unfold PB at h ⊢
  dsimp only at h
  rw [h24 0 (by decide), h24 1 (by decide), h24 2 (by decide), h24 3 (by decide), h24 4 (by decide), h23] at h
  exact h
theorem H_undo {L : Nat} {xs : Nat → Int} (F : Nat → Nat → Int) (hR : Rel F) : qPair (qtab L xs) Rel 0 77 160 [(3, 0)] [(3, 69), (9, 0)] F := by
  apply qPair_of
  have hR0 := hR
  obtain ⟨hf, hT, hD, hP, hO, hK, hS, hG⟩ := hR
  have hr := Rf_k hf
  have o1 := hO.1
  have o2 := hO.2.1
  by_cases hn : F 27 0 = 0
  · have hn2 : F 69 31 = 0 := by omega
    simp only [hn, hn2, YK, c77, t77, c160, t160, c33, t33, cl33, tgK, lyK, rkK, wK, rfK, hr, qRes_eq, qNon_eq, qup_ap, vup_ap, vcpy_ap, kc8_0, kc8_1, kc8_2, lc_lt, lc_gt, lc_eq, Option.toList_some, Option.toList_none, List.cons_append, List.nil_append, lay_len, lay_sz, Nat.reduceAdd, Nat.reduceSub, Nat.reduceMul, Int.reduceToNat, Int.reduceLE, Int.reduceLT, Int.reduceEq, Int.reduceAdd, Int.reduceSub, Int.reduceMul, Int.reduceNeg, Nat.reduceLeDiff, Nat.reduceLT, true_and, and_true, false_and, and_false, qcat_0, qcat_1, qcat_3, qcat_9, Nat.reduceEqDiff, if_true, if_false, ite_self, or_true, true_or, or_false, false_or, forall_const, not_true_eq_false, not_false_eq_true, false_implies, implies_true, qtK0, qtK1, qtK2, qtK3, qtK4, List.getD_cons_zero, List.getD_cons_succ]
    exact hR0
  · have hn2 : ¬ F 69 31 = 0 := by omega
    have hn3 : 0 < F 27 0 := by omega
    have x1 : w32 (F 27 0 - 1) = F 27 0 - 1 := w32_id ⟨by omega, by omega⟩
    have x2 : (0 ≤ F 27 0 - 1 ∧ F 27 0 - 1 < 14) = True := eq_true (by omega)
    have x3 : w32 (F 69 31 - 1) = F 27 0 - 1 := by rw [o1.1]; exact x1
    have x4 : w32 (F 69 32 + 14) = F 69 32 + 14 := w32_id ⟨by omega, by omega⟩
    have x5 : w32 (F 69 32 + 14 - 1) = F 69 32 + 13 := by rw [w32_id ⟨by omega, by omega⟩]; omega
    obtain ⟨N, hNN⟩ : ∃ N : Int, N = if F 69 32 = 0 then 13 else F 69 32 - 1 := ⟨_, rfl⟩
    have hN : 0 ≤ N ∧ N < 14 := by rw [hNN]; split <;> omega
    have hNX : w32 ((F 69 32 + 13).tmod 14) = N := by
      rw [Int.tmod_eq_emod_of_nonneg (by omega), w32_id ⟨by omega, by omega⟩, hNN]
      split <;> omega
    have y6 : w32 (6 * N) = 6 * N := w32_id ⟨by omega, by omega⟩
    have y0 : w32 (6 * N + 0) = 6 * N + 0 := w32_id ⟨by omega, by omega⟩
    have z0 : (0 ≤ 6 * N + 0 ∧ 6 * N + 0 < 84) = True := eq_true (by omega)
    have y1 : w32 (6 * N + 1) = 6 * N + 1 := w32_id ⟨by omega, by omega⟩
    have z1 : (0 ≤ 6 * N + 1 ∧ 6 * N + 1 < 84) = True := eq_true (by omega)
    have y2 : w32 (6 * N + 2) = 6 * N + 2 := w32_id ⟨by omega, by omega⟩
    have z2 : (0 ≤ 6 * N + 2 ∧ 6 * N + 2 < 84) = True := eq_true (by omega)
    have y3 : w32 (6 * N + 3) = 6 * N + 3 := w32_id ⟨by omega, by omega⟩
    have z3 : (0 ≤ 6 * N + 3 ∧ 6 * N + 3 < 84) = True := eq_true (by omega)
    have y4 : w32 (6 * N + 4) = 6 * N + 4 := w32_id ⟨by omega, by omega⟩
    have z4 : (0 ≤ 6 * N + 4 ∧ 6 * N + 4 < 84) = True := eq_true (by omega)
    have y5 : w32 (6 * N + 5) = 6 * N + 5 := w32_id ⟨by omega, by omega⟩
    have z5 : (0 ≤ 6 * N + 5 ∧ 6 * N + 5 < 84) = True := eq_true (by omega)
    have hi : (((F 27 0 - 1).toNat : Nat) : Int) = F 27 0 - 1 := by omega
    have hlt : ((((F 27 0 - 1).toNat : Nat) : Int) < F 27 0) := by omega
    obtain ⟨q1, q2, q3⟩ := hO.2.2 (F 27 0 - 1).toNat hlt
    -- the row that comes back
    have hrow : ∀ k : Nat, k < 6 → F 91 (6 * N.toNat + k) = if (k : Int) = F 28 (F 27 0 - 1).toNat then F 29 (F 27 0 - 1).toNat else F 89 k := by
      intro k hk
      have h := q3 k hk
      have e1 : drow F ((F 27 0 - 1).toNat + 1) k = F 89 k := by
        unfold drow
        rw [if_pos (by omega)]
      have e2 : drow F (F 27 0 - 1).toNat k = F 91 (6 * N.toNat + k) := by
        unfold drow
        rw [if_neg (by omega), hi]
        have e3 : (F 69 32 + 14 - (F 27 0 - (F 27 0 - 1))) % 14 = N := by
          rw [hNN]
          split <;> omega
        rw [e3]
      rw [e1, e2] at h
      exact h
    have hPBr : PB (fun k => F 91 (6 * N.toNat + k)) (F 91 (6 * N.toNat + 5)) := by
      have e2 : ∀ k, drow F (F 27 0 - 1).toNat k = F 91 (6 * N.toNat + k) := by
        intro k
        unfold drow
        rw [if_neg (by omega), hi]
        have e3 : (F 69 32 + 14 - (F 27 0 - (F 27 0 - 1))) % 14 = N := by
          rw [hNN]
          split <;> omega
        rw [e3]
      have e4 : drow F (F 27 0 - 1).toNat = fun k => F 91 (6 * N.toNat + k) := funext e2
      rw [e4] at q2
      exact q2
    have hrestO : ∀ G : Nat → Nat → Int, G 27 0 = F 27 0 - 1 → G 69 31 = F 27 0 - 1 → G 69 32 = N → G 28 = F 28 → G 29 = F 29 → G 91 = F 91 → (∀ k : Nat, k < 6 → G 89 k = F 91 (6 * N.toNat + k)) → RO G := by
      intro G g1 g2 g3 g4 g5 g6 g7
      have hd : ∀ i k : Nat, (i : Int) ≤ F 27 0 - 1 → k < 6 → drow G i k = drow F i k := by
        intro i k hi hk
        unfold drow
        rw [g1, g3, g6]
        by_cases hl : (i : Int) = F 27 0 - 1
        · rw [if_pos hl, if_neg (by omega), g7 k hk]
          have e3 : (F 69 32 + 14 - (F 27 0 - (i : Int))) % 14 = N := by
            rw [hNN]
            split <;> omega
          rw [e3]
        · rw [if_neg hl, if_neg (by omega)]
          have e3 : (N + 14 - (F 27 0 - 1 - (i : Int))) % 14 = (F 69 32 + 14 - (F 27 0 - (i : Int))) % 14 := by
            rw [hNN]
            split <;> omega
          rw [e3]
      refine ⟨⟨by rw [g1, g2], by omega, by omega⟩, by rw [g3]; exact hN, ?_⟩
      intro i hi
      rw [g1] at hi
      obtain ⟨r1, r2, r3⟩ := hO.2.2 i (by omega)
      rw [g4, g5]
      refine ⟨r1, ?_, ?_⟩
      · unfold PB at r2 ⊢
        rw [hd i 0 (by omega) (by decide), hd i 1 (by omega) (by decide), hd i 2 (by omega) (by decide), hd i 3 (by omega) (by decide), hd i 4 (by omega) (by decide), hd i 5 (by omega) (by decide)]
        exact r2
      · intro k hk
        rw [hd i k (by omega) hk, hd (i + 1) k (by omega) hk]
        exact r3 k hk
    clear q3
    simp only [YK, c77, t77, c160, t160, c33, t33, cl33, tgK, lyK, rkK, wK, rfK, hr, qRes_eq, qNon_eq, qup_ap, vup_ap, vcpy_ap, kc8_0, kc8_1, kc8_2, lc_lt, lc_gt, lc_eq, Option.toList_some, Option.toList_none, List.cons_append, List.nil_append, lay_len, lay_sz, Nat.reduceAdd, Nat.reduceSub, Nat.reduceMul, Int.reduceToNat, Int.reduceLE, Int.reduceLT, Int.reduceEq, Int.reduceAdd, Int.reduceSub, Int.reduceMul, Int.reduceNeg, Nat.reduceLeDiff, Nat.reduceLT, true_and, and_true, false_and, and_false, qcat_0, qcat_1, qcat_3, qcat_9, Nat.reduceEqDiff, if_true, if_false, ite_self, or_true, true_or, or_false, false_or, forall_const, not_true_eq_false, not_false_eq_true, false_implies, implies_true, qtK0, qtK1, qtK2, qtK3, qtK4, List.getD_cons_zero, List.getD_cons_succ, hn, hn2, hn3, x1, x2, x3, x4, x5, hNX, y0, z0, y1, z1, y2, z2, y3, z3, y4, z4, y5, z5, y6]
    by_cases h5 : F 28 (F 27 0 - 1).toNat = 5
    · simp only [h5, YK, c77, t77, c160, t160, c33, t33, cl33, tgK, lyK, rkK, wK, rfK, hr, qRes_eq, qNon_eq, qup_ap, vup_ap, vcpy_ap, kc8_0, kc8_1, kc8_2, lc_lt, lc_gt, lc_eq, Option.toList_some, Option.toList_none, List.cons_append, List.nil_append, lay_len, lay_sz, Nat.reduceAdd, Nat.reduceSub, Nat.reduceMul, Int.reduceToNat, Int.reduceLE, Int.reduceLT, Int.reduceEq, Int.reduceAdd, Int.reduceSub, Int.reduceMul, Int.reduceNeg, Nat.reduceLeDiff, Nat.reduceLT, true_and, and_true, false_and, and_false, qcat_0, qcat_1, qcat_3, qcat_9, Nat.reduceEqDiff, if_true, if_false, ite_self, or_true, true_or, or_false, false_or, forall_const, not_true_eq_false, not_false_eq_true, false_implies, implies_true, qtK0, qtK1, qtK2, qtK3, qtK4, List.getD_cons_zero, List.getD_cons_succ, hn, hn2, hn3, x1, x2, x3, x4, x5, hNX, y0, z0, y1, z1, y2, z2, y3, z3, y4, z4, y5, z5, y6]
      rw [h160_38]
      simp only [YK, c77, t77, c160, t160, c33, t33, cl33, tgK, lyK, rkK, wK, rfK, hr, qRes_eq, qNon_eq, qup_ap, vup_ap, vcpy_ap, kc8_0, kc8_1, kc8_2, lc_lt, lc_gt, lc_eq, Option.toList_some, Option.toList_none, List.cons_append, List.nil_append, lay_len, lay_sz, Nat.reduceAdd, Nat.reduceSub, Nat.reduceMul, Int.reduceToNat, Int.reduceLE, Int.reduceLT, Int.reduceEq, Int.reduceAdd, Int.reduceSub, Int.reduceMul, Int.reduceNeg, Nat.reduceLeDiff, Nat.reduceLT, true_and, and_true, false_and, and_false, qcat_0, qcat_1, qcat_3, qcat_9, Nat.reduceEqDiff, if_true, if_false, ite_self, or_true, true_or, or_false, false_or, forall_const, not_true_eq_false, not_false_eq_true, false_implies, implies_true, qtK0, qtK1, qtK2, qtK3, qtK4, List.getD_cons_zero, List.getD_cons_succ, hn, hn2, hn3, x1, x2, x3, x4, x5, hNX, y0, z0, y1, z1, y2, z2, y3, z3, y4, z4, y5, z5, y6]
      rw [h160_38]
      simp only [YK, c77, t77, c160, t160, c33, t33, cl33, tgK, lyK, rkK, wK, rfK, hr, qRes_eq, qNon_eq, qup_ap, vup_ap, vcpy_ap, kc8_0, kc8_1, kc8_2, lc_lt, lc_gt, lc_eq, Option.toList_some, Option.toList_none, List.cons_append, List.nil_append, lay_len, lay_sz, Nat.reduceAdd, Nat.reduceSub, Nat.reduceMul, Int.reduceToNat, Int.reduceLE, Int.reduceLT, Int.reduceEq, Int.reduceAdd, Int.reduceSub, Int.reduceMul, Int.reduceNeg, Nat.reduceLeDiff, Nat.reduceLT, true_and, and_true, false_and, and_false, qcat_0, qcat_1, qcat_3, qcat_9, Nat.reduceEqDiff, if_true, if_false, ite_self, or_true, true_or, or_false, false_or, forall_const, not_true_eq_false, not_false_eq_true, false_implies, implies_true, qtK0, qtK1, qtK2, qtK3, qtK4, List.getD_cons_zero, List.getD_cons_succ, hn, hn2, hn3, x1, x2, x3, x4, x5, hNX, y0, z0, y1, z1, y2, z2, y3, z3, y4, z4, y5, z5, y6]
      rw [h160_38]
      simp only [YK, c77, t77, c160, t160, c33, t33, cl33, tgK, lyK, rkK, wK, rfK, hr, qRes_eq, qNon_eq, qup_ap, vup_ap, vcpy_ap, kc8_0, kc8_1, kc8_2, lc_lt, lc_gt, lc_eq, Option.toList_some, Option.toList_none, List.cons_append, List.nil_append, lay_len, lay_sz, Nat.reduceAdd, Nat.reduceSub, Nat.reduceMul, Int.reduceToNat, Int.reduceLE, Int.reduceLT, Int.reduceEq, Int.reduceAdd, Int.reduceSub, Int.reduceMul, Int.reduceNeg, Nat.reduceLeDiff, Nat.reduceLT, true_and, and_true, false_and, and_false, qcat_0, qcat_1, qcat_3, qcat_9, Nat.reduceEqDiff, if_true, if_false, ite_self, or_true, true_or, or_false, false_or, forall_const, not_true_eq_false, not_false_eq_true, false_implies, implies_true, qtK0, qtK1, qtK2, qtK3, qtK4, List.getD_cons_zero, List.getD_cons_succ, hn, hn2, hn3, x1, x2, x3, x4, x5, hNX, y0, z0, y1, z1, y2, z2, y3, z3, y4, z4, y5, z5, y6]
      rw [h160_38]
      simp only [YK, c77, t77, c160, t160, c33, t33, cl33, tgK, lyK, rkK, wK, rfK, hr, qRes_eq, qNon_eq, qup_ap, vup_ap, vcpy_ap, kc8_0, kc8_1, kc8_2, lc_lt, lc_gt, lc_eq, Option.toList_some, Option.toList_none, List.cons_append, List.nil_append, lay_len, lay_sz, Nat.reduceAdd, Nat.reduceSub, Nat.reduceMul, Int.reduceToNat, Int.reduceLE, Int.reduceLT, Int.reduceEq, Int.reduceAdd, Int.reduceSub, Int.reduceMul, Int.reduceNeg, Nat.reduceLeDiff, Nat.reduceLT, true_and, and_true, false_and, and_false, qcat_0, qcat_1, qcat_3, qcat_9, Nat.reduceEqDiff, if_true, if_false, ite_self, or_true, true_or, or_false, false_or, forall_const, not_true_eq_false, not_false_eq_true, false_implies, implies_true, qtK0, qtK1, qtK2, qtK3, qtK4, List.getD_cons_zero, List.getD_cons_succ, hn, hn2, hn3, x1, x2, x3, x4, x5, hNX, y0, z0, y1, z1, y2, z2, y3, z3, y4, z4, y5, z5, y6]
      rw [h160_38]
      simp only [YK, c77, t77, c160, t160, c33, t33, cl33, tgK, lyK, rkK, wK, rfK, hr, qRes_eq, qNon_eq, qup_ap, vup_ap, vcpy_ap, kc8_0, kc8_1, kc8_2, lc_lt, lc_gt, lc_eq, Option.toList_some, Option.toList_none, List.cons_append, List.nil_append, lay_len, lay_sz, Nat.reduceAdd, Nat.reduceSub, Nat.reduceMul, Int.reduceToNat, Int.reduceLE, Int.reduceLT, Int.reduceEq, Int.reduceAdd, Int.reduceSub, Int.reduceMul, Int.reduceNeg, Nat.reduceLeDiff, Nat.reduceLT, true_and, and_true, false_and, and_false, qcat_0, qcat_1, qcat_3, qcat_9, Nat.reduceEqDiff, if_true, if_false, ite_self, or_true, true_or, or_false, false_or, forall_const, not_true_eq_false, not_false_eq_true, false_implies, implies_true, qtK0, qtK1, qtK2, qtK3, qtK4, List.getD_cons_zero, List.getD_cons_succ, hn, hn2, hn3, x1, x2, x3, x4, x5, hNX, y0, z0, y1, z1, y2, z2, y3, z3, y4, z4, y5, z5, y6]
      rw [h160_38]
      simp only [YK, c77, t77, c160, t160, c33, t33, cl33, tgK, lyK, rkK, wK, rfK, hr, qRes_eq, qNon_eq, qup_ap, vup_ap, vcpy_ap, kc8_0, kc8_1, kc8_2, lc_lt, lc_gt, lc_eq, Option.toList_some, Option.toList_none, List.cons_append, List.nil_append, lay_len, lay_sz, Nat.reduceAdd, Nat.reduceSub, Nat.reduceMul, Int.reduceToNat, Int.reduceLE, Int.reduceLT, Int.reduceEq, Int.reduceAdd, Int.reduceSub, Int.reduceMul, Int.reduceNeg, Nat.reduceLeDiff, Nat.reduceLT, true_and, and_true, false_and, and_false, qcat_0, qcat_1, qcat_3, qcat_9, Nat.reduceEqDiff, if_true, if_false, ite_self, or_true, true_or, or_false, false_or, forall_const, not_true_eq_false, not_false_eq_true, false_implies, implies_true, qtK0, qtK1, qtK2, qtK3, qtK4, List.getD_cons_zero, List.getD_cons_succ, hn, hn2, hn3, x1, x2, x3, x4, x5, hNX, y0, z0, y1, z1, y2, z2, y3, z3, y4, z4, y5, z5, y6]
      rw [h160_38]
      simp only [YK, c77, t77, c160, t160, c33, t33, cl33, tgK, lyK, rkK, wK, rfK, hr, qRes_eq, qNon_eq, qup_ap, vup_ap, vcpy_ap, kc8_0, kc8_1, kc8_2, lc_lt, lc_gt, lc_eq, Option.toList_some, Option.toList_none, List.cons_append, List.nil_append, lay_len, lay_sz, Nat.reduceAdd, Nat.reduceSub, Nat.reduceMul, Int.reduceToNat, Int.reduceLE, Int.reduceLT, Int.reduceEq, Int.reduceAdd, Int.reduceSub, Int.reduceMul, Int.reduceNeg, Nat.reduceLeDiff, Nat.reduceLT, true_and, and_true, false_and, and_false, qcat_0, qcat_1, qcat_3, qcat_9, Nat.reduceEqDiff, if_true, if_false, ite_self, or_true, true_or, or_false, false_or, forall_const, not_true_eq_false, not_false_eq_true, false_implies, implies_true, qtK0, qtK1, qtK2, qtK3, qtK4, List.getD_cons_zero, List.getD_cons_succ, hn, hn2, hn3, x1, x2, x3, x4, x5, hNX, y0, z0, y1, z1, y2, z2, y3, z3, y4, z4, y5, z5, y6]
      have t0 : (6 * N + 0).toNat = 6 * N.toNat + 0 := by omega
      have t1 : (6 * N + 1).toNat = 6 * N.toNat + 1 := by omega
      have t2 : (6 * N + 2).toNat = 6 * N.toNat + 2 := by omega
      have t3 : (6 * N + 3).toNat = 6 * N.toNat + 3 := by omega
      have t4 : (6 * N + 4).toNat = 6 * N.toNat + 4 := by omega
      have t5 : (6 * N + 5).toNat = 6 * N.toNat + 5 := by omega
      rw [t0, t1, t2, t3, t4, t5]
      refine ⟨?_, RT_eq hT rfl rfl rfl rfl, RD_eq hD rfl rfl rfl rfl rfl rfl rfl rfl rfl rfl rfl rfl rfl rfl rfl rfl rfl rfl rfl rfl rfl rfl , RP_row (m := 6 * N.toNat) hPBr (six_all rfl rfl rfl rfl rfl rfl) ?_ ?_, hrestO _ rfl rfl rfl rfl rfl rfl (six_all rfl rfl rfl rfl rfl rfl), RK_eq hK rfl rfl rfl rfl rfl rfl rfl , RS_eq hS rfl rfl rfl rfl rfl rfl , RG_eq hG rfl rfl⟩
      · exact (((((((((hf.up (by decide)).up (by decide)).up (by decide)).up (by decide)).upA _ _ (by decide)).upA _ _ (by decide)).upA _ _ (by decide)).upA _ _ (by decide)).upA _ _ (by decide)).upA _ _ (by decide)
      · intro k hk
        rw [hrow k (by omega), if_neg (by omega), hP.2.1 k hk]
        rfl
      · rw [hrow 5 (by decide), h5]
        rfl
    · have h6 : (0 ≤ F 28 (F 27 0 - 1).toNat ∧ F 28 (F 27 0 - 1).toNat < 5) = True := eq_true (by omega)
      simp only [h5, h6, YK, c77, t77, c160, t160, c33, t33, cl33, tgK, lyK, rkK, wK, rfK, hr, qRes_eq, qNon_eq, qup_ap, vup_ap, vcpy_ap, kc8_0, kc8_1, kc8_2, lc_lt, lc_gt, lc_eq, Option.toList_some, Option.toList_none, List.cons_append, List.nil_append, lay_len, lay_sz, Nat.reduceAdd, Nat.reduceSub, Nat.reduceMul, Int.reduceToNat, Int.reduceLE, Int.reduceLT, Int.reduceEq, Int.reduceAdd, Int.reduceSub, Int.reduceMul, Int.reduceNeg, Nat.reduceLeDiff, Nat.reduceLT, true_and, and_true, false_and, and_false, qcat_0, qcat_1, qcat_3, qcat_9, Nat.reduceEqDiff, if_true, if_false, ite_self, or_true, true_or, or_false, false_or, forall_const, not_true_eq_false, not_false_eq_true, false_implies, implies_true, qtK0, qtK1, qtK2, qtK3, qtK4, List.getD_cons_zero, List.getD_cons_succ, hn, hn2, hn3, x1, x2, x3, x4, x5, hNX, y0, z0, y1, z1, y2, z2, y3, z3, y4, z4, y5, z5, y6]
      rw [h160_38]
      simp only [YK, c77, t77, c160, t160, c33, t33, cl33, tgK, lyK, rkK, wK, rfK, hr, qRes_eq, qNon_eq, qup_ap, vup_ap, vcpy_ap, kc8_0, kc8_1, kc8_2, lc_lt, lc_gt, lc_eq, Option.toList_some, Option.toList_none, List.cons_append, List.nil_append, lay_len, lay_sz, Nat.reduceAdd, Nat.reduceSub, Nat.reduceMul, Int.reduceToNat, Int.reduceLE, Int.reduceLT, Int.reduceEq, Int.reduceAdd, Int.reduceSub, Int.reduceMul, Int.reduceNeg, Nat.reduceLeDiff, Nat.reduceLT, true_and, and_true, false_and, and_false, qcat_0, qcat_1, qcat_3, qcat_9, Nat.reduceEqDiff, if_true, if_false, ite_self, or_true, true_or, or_false, false_or, forall_const, not_true_eq_false, not_false_eq_true, false_implies, implies_true, qtK0, qtK1, qtK2, qtK3, qtK4, List.getD_cons_zero, List.getD_cons_succ, hn, hn2, hn3, x1, x2, x3, x4, x5, hNX, y0, z0, y1, z1, y2, z2, y3, z3, y4, z4, y5, z5, y6]
      rw [h160_38]
      simp only [YK, c77, t77, c160, t160, c33, t33, cl33, tgK, lyK, rkK, wK, rfK, hr, qRes_eq, qNon_eq, qup_ap, vup_ap, vcpy_ap, kc8_0, kc8_1, kc8_2, lc_lt, lc_gt, lc_eq, Option.toList_some, Option.toList_none, List.cons_append, List.nil_append, lay_len, lay_sz, Nat.reduceAdd, Nat.reduceSub, Nat.reduceMul, Int.reduceToNat, Int.reduceLE, Int.reduceLT, Int.reduceEq, Int.reduceAdd, Int.reduceSub, Int.reduceMul, Int.reduceNeg, Nat.reduceLeDiff, Nat.reduceLT, true_and, and_true, false_and, and_false, qcat_0, qcat_1, qcat_3, qcat_9, Nat.reduceEqDiff, if_true, if_false, ite_self, or_true, true_or, or_false, false_or, forall_const, not_true_eq_false, not_false_eq_true, false_implies, implies_true, qtK0, qtK1, qtK2, qtK3, qtK4, List.getD_cons_zero, List.getD_cons_succ, hn, hn2, hn3, x1, x2, x3, x4, x5, hNX, y0, z0, y1, z1, y2, z2, y3, z3, y4, z4, y5, z5, y6]
      rw [h160_38]
      simp only [YK, c77, t77, c160, t160, c33, t33, cl33, tgK, lyK, rkK, wK, rfK, hr, qRes_eq, qNon_eq, qup_ap, vup_ap, vcpy_ap, kc8_0, kc8_1, kc8_2, lc_lt, lc_gt, lc_eq, Option.toList_some, Option.toList_none, List.cons_append, List.nil_append, lay_len, lay_sz, Nat.reduceAdd, Nat.reduceSub, Nat.reduceMul, Int.reduceToNat, Int.reduceLE, Int.reduceLT, Int.reduceEq, Int.reduceAdd, Int.reduceSub, Int.reduceMul, Int.reduceNeg, Nat.reduceLeDiff, Nat.reduceLT, true_and, and_true, false_and, and_false, qcat_0, qcat_1, qcat_3, qcat_9, Nat.reduceEqDiff, if_true, if_false, ite_self, or_true, true_or, or_false, false_or, forall_const, not_true_eq_false, not_false_eq_true, false_implies, implies_true, qtK0, qtK1, qtK2, qtK3, qtK4, List.getD_cons_zero, List.getD_cons_succ, hn, hn2, hn3, x1, x2, x3, x4, x5, hNX, y0, z0, y1, z1, y2, z2, y3, z3, y4, z4, y5, z5, y6]
      rw [h160_38]
      simp only [YK, c77, t77, c160, t160, c33, t33, cl33, tgK, lyK, rkK, wK, rfK, hr, qRes_eq, qNon_eq, qup_ap, vup_ap, vcpy_ap, kc8_0, kc8_1, kc8_2, lc_lt, lc_gt, lc_eq, Option.toList_some, Option.toList_none, List.cons_append, List.nil_append, lay_len, lay_sz, Nat.reduceAdd, Nat.reduceSub, Nat.reduceMul, Int.reduceToNat, Int.reduceLE, Int.reduceLT, Int.reduceEq, Int.reduceAdd, Int.reduceSub, Int.reduceMul, Int.reduceNeg, Nat.reduceLeDiff, Nat.reduceLT, true_and, and_true, false_and, and_false, qcat_0, qcat_1, qcat_3, qcat_9, Nat.reduceEqDiff, if_true, if_false, ite_self, or_true, true_or, or_false, false_or, forall_const, not_true_eq_false, not_false_eq_true, false_implies, implies_true, qtK0, qtK1, qtK2, qtK3, qtK4, List.getD_cons_zero, List.getD_cons_succ, hn, hn2, hn3, x1, x2, x3, x4, x5, hNX, y0, z0, y1, z1, y2, z2, y3, z3, y4, z4, y5, z5, y6]
      rw [h160_38]
      simp only [YK, c77, t77, c160, t160, c33, t33, cl33, tgK, lyK, rkK, wK, rfK, hr, qRes_eq, qNon_eq, qup_ap, vup_ap, vcpy_ap, kc8_0, kc8_1, kc8_2, lc_lt, lc_gt, lc_eq, Option.toList_some, Option.toList_none, List.cons_append, List.nil_append, lay_len, lay_sz, Nat.reduceAdd, Nat.reduceSub, Nat.reduceMul, Int.reduceToNat, Int.reduceLE, Int.reduceLT, Int.reduceEq, Int.reduceAdd, Int.reduceSub, Int.reduceMul, Int.reduceNeg, Nat.reduceLeDiff, Nat.reduceLT, true_and, and_true, false_and, and_false, qcat_0, qcat_1, qcat_3, qcat_9, Nat.reduceEqDiff, if_true, if_false, ite_self, or_true, true_or, or_false, false_or, forall_const, not_true_eq_false, not_false_eq_true, false_implies, implies_true, qtK0, qtK1, qtK2, qtK3, qtK4, List.getD_cons_zero, List.getD_cons_succ, hn, hn2, hn3, x1, x2, x3, x4, x5, hNX, y0, z0, y1, z1, y2, z2, y3, z3, y4, z4, y5, z5, y6]
      rw [h160_38]
      simp only [YK, c77, t77, c160, t160, c33, t33, cl33, tgK, lyK, rkK, wK, rfK, hr, qRes_eq, qNon_eq, qup_ap, vup_ap, vcpy_ap, kc8_0, kc8_1, kc8_2, lc_lt, lc_gt, lc_eq, Option.toList_some, Option.toList_none, List.cons_append, List.nil_append, lay_len, lay_sz, Nat.reduceAdd, Nat.reduceSub, Nat.reduceMul, Int.reduceToNat, Int.reduceLE, Int.reduceLT, Int.reduceEq, Int.reduceAdd, Int.reduceSub, Int.reduceMul, Int.reduceNeg, Nat.reduceLeDiff, Nat.reduceLT, true_and, and_true, false_and, and_false, qcat_0, qcat_1, qcat_3, qcat_9, Nat.reduceEqDiff, if_true, if_false, ite_self, or_true, true_or, or_false, false_or, forall_const, not_true_eq_false, not_false_eq_true, false_implies, implies_true, qtK0, qtK1, qtK2, qtK3, qtK4, List.getD_cons_zero, List.getD_cons_succ, hn, hn2, hn3, x1, x2, x3, x4, x5, hNX, y0, z0, y1, z1, y2, z2, y3, z3, y4, z4, y5, z5, y6]
      rw [h160_38]
      simp only [YK, c77, t77, c160, t160, c33, t33, cl33, tgK, lyK, rkK, wK, rfK, hr, qRes_eq, qNon_eq, qup_ap, vup_ap, vcpy_ap, kc8_0, kc8_1, kc8_2, lc_lt, lc_gt, lc_eq, Option.toList_some, Option.toList_none, List.cons_append, List.nil_append, lay_len, lay_sz, Nat.reduceAdd, Nat.reduceSub, Nat.reduceMul, Int.reduceToNat, Int.reduceLE, Int.reduceLT, Int.reduceEq, Int.reduceAdd, Int.reduceSub, Int.reduceMul, Int.reduceNeg, Nat.reduceLeDiff, Nat.reduceLT, true_and, and_true, false_and, and_false, qcat_0, qcat_1, qcat_3, qcat_9, Nat.reduceEqDiff, if_true, if_false, ite_self, or_true, true_or, or_false, false_or, forall_const, not_true_eq_false, not_false_eq_true, false_implies, implies_true, qtK0, qtK1, qtK2, qtK3, qtK4, List.getD_cons_zero, List.getD_cons_succ, hn, hn2, hn3, x1, x2, x3, x4, x5, hNX, y0, z0, y1, z1, y2, z2, y3, z3, y4, z4, y5, z5, y6]
      have t0 : (6 * N + 0).toNat = 6 * N.toNat + 0 := by omega
      have t1 : (6 * N + 1).toNat = 6 * N.toNat + 1 := by omega
      have t2 : (6 * N + 2).toNat = 6 * N.toNat + 2 := by omega
      have t3 : (6 * N + 3).toNat = 6 * N.toNat + 3 := by omega
      have t4 : (6 * N + 4).toNat = 6 * N.toNat + 4 := by omega
      have t5 : (6 * N + 5).toNat = 6 * N.toNat + 5 := by omega
      rw [t0, t1, t2, t3, t4, t5]
      refine ⟨?_, RT_eq hT rfl rfl rfl rfl, RD_eq hD rfl rfl rfl rfl rfl rfl rfl rfl rfl rfl rfl rfl rfl rfl rfl rfl rfl rfl rfl rfl rfl rfl , RP_row (m := 6 * N.toNat) hPBr (six_all rfl rfl rfl rfl rfl rfl) ?_ ?_, hrestO _ rfl rfl rfl rfl rfl rfl (six_all rfl rfl rfl rfl rfl rfl), RK_eq hK rfl rfl rfl rfl rfl rfl rfl , RS_eq hS rfl rfl rfl rfl rfl rfl , RG_eq hG rfl rfl⟩
      · exact (((((((((hf.up (by decide)).upA _ _ (by decide)).up (by decide)).up (by decide)).upA _ _ (by decide)).upA _ _ (by decide)).upA _ _ (by decide)).upA _ _ (by decide)).upA _ _ (by decide)).upA _ _ (by decide)
      · intro k hk
        rw [hrow k (by omega), hP.2.1 k hk]
        simp only [qup_ap, Nat.reduceEqDiff, if_true, if_false]
        by_cases hkq : (k : Int) = F 28 (F 27 0 - 1).toNat
        · rw [if_pos hkq, if_pos (by omega)]
        · rw [if_neg hkq, if_neg (by omega)]
      · rw [hrow 5 (by decide), if_neg (fun h => h5 h.symm), hP.2.2]
        rfl
