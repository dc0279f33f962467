/-! the pairs without a run and without the parser -/
theorem H_wipe {L : Nat} {xs : Nat → Int} (F : Nat → Nat → Int) (hR : Rel F) : qPair (qtab L xs) Rel 0 71 118 [(3, 0), (9, 0)] [(3, 69), (9, 0)] F := by
  apply qPair_of
  have hR0 := hR
  obtain ⟨hf, hT, hD, hP, hO, hK, hS, hG⟩ := hR
  have hr := Rf_k hf
  simp only [YK, c71, t71, c118, t118, tgK, lyK, rkK, wK, rfK, hr, qRes_eq, qNon_eq, qup_ap, vup_ap, vcpy_ap, kc8_0, kc8_1, kc8_2, lc_lt, lc_gt, lc_eq, Option.toList_some, Option.toList_none, List.cons_append, List.nil_append, lay_len, lay_sz, Nat.reduceAdd, Nat.reduceSub, Nat.reduceMul, Int.reduceToNat, Int.reduceLE, Int.reduceLT, Int.reduceEq, Int.reduceAdd, Int.reduceSub, Int.reduceMul, Int.reduceNeg, Nat.reduceLeDiff, Nat.reduceLT, true_and, and_true, false_and, and_false, qcat_0, qcat_1, qcat_3, qcat_9, Nat.reduceEqDiff, if_true, if_false, ite_self, or_true, true_or, or_false, false_or, forall_const, not_true_eq_false, not_false_eq_true, false_implies, implies_true, qtK0, qtK1, qtK2, qtK3, qtK4, List.getD_cons_zero, List.getD_cons_succ]
  refine ⟨hT.1, (hf.up (by decide)).up (by decide), ?_, ?_, ?_, ?_, ?_, ?_, ?_⟩
  · simp only [RT, qup_ap, vup_ap, vcpy_ap, Nat.reduceEqDiff, if_true, if_false]; exact ⟨by decide, by decide, by decide, fun j hj => absurd hj (by omega)⟩
  · simpa only [RD, drow, PB, qup_ap, vup_ap, vcpy_ap, Nat.reduceEqDiff, if_true, if_false] using hD
  · simpa only [RP, drow, PB, qup_ap, vup_ap, vcpy_ap, Nat.reduceEqDiff, if_true, if_false] using hP
  · simpa only [RO, drow, PB, qup_ap, vup_ap, vcpy_ap, Nat.reduceEqDiff, if_true, if_false] using hO
  · simpa only [RK, drow, PB, qup_ap, vup_ap, vcpy_ap, Nat.reduceEqDiff, if_true, if_false] using hK
  · simpa only [RS, drow, PB, qup_ap, vup_ap, vcpy_ap, Nat.reduceEqDiff, if_true, if_false] using hS
  · simpa only [RG, drow, PB, qup_ap, vup_ap, vcpy_ap, Nat.reduceEqDiff, if_true, if_false] using hG
theorem H_seed {L : Nat} {xs : Nat → Int} (F : Nat → Nat → Int) (a : Int) (hR : Rel F) (ha : I64 a) : qPair (qtab L xs) Rel 1 89 175 [(3, 0), (1, a), (9, 0), (9, 0), (9, 0)] [(3, 69), (1, a), (9, 0), (9, 0), (9, 0)] F := by
  apply qPair_of
  have hR0 := hR
  obtain ⟨hf, hT, hD, hP, hO, hK, hS, hG⟩ := hR
  have hr := Rf_k hf
  simp only [YK, c89, t89, c175, t175, tgK, lyK, rkK, wK, rfK, hr, qRes_eq, qNon_eq, qup_ap, vup_ap, vcpy_ap, kc8_0, kc8_1, kc8_2, lc_lt, lc_gt, lc_eq, Option.toList_some, Option.toList_none, List.cons_append, List.nil_append, lay_len, lay_sz, Nat.reduceAdd, Nat.reduceSub, Nat.reduceMul, Int.reduceToNat, Int.reduceLE, Int.reduceLT, Int.reduceEq, Int.reduceAdd, Int.reduceSub, Int.reduceMul, Int.reduceNeg, Nat.reduceLeDiff, Nat.reduceLT, true_and, and_true, false_and, and_false, qcat_0, qcat_1, qcat_3, qcat_9, Nat.reduceEqDiff, if_true, if_false, ite_self, or_true, true_or, or_false, false_or, forall_const, not_true_eq_false, not_false_eq_true, false_implies, implies_true, qtK0, qtK1, qtK2, qtK3, qtK4, List.getD_cons_zero, List.getD_cons_succ]
  refine ⟨hG.1, (hf.up (by decide)).up (by decide), ?_, ?_, ?_, ?_, ?_, ?_, ?_⟩
  · simpa only [RT, drow, PB, qup_ap, vup_ap, vcpy_ap, Nat.reduceEqDiff, if_true, if_false] using hT
  · simpa only [RD, drow, PB, qup_ap, vup_ap, vcpy_ap, Nat.reduceEqDiff, if_true, if_false] using hD
  · simpa only [RP, drow, PB, qup_ap, vup_ap, vcpy_ap, Nat.reduceEqDiff, if_true, if_false] using hP
  · simpa only [RO, drow, PB, qup_ap, vup_ap, vcpy_ap, Nat.reduceEqDiff, if_true, if_false] using hO
  · simpa only [RK, drow, PB, qup_ap, vup_ap, vcpy_ap, Nat.reduceEqDiff, if_true, if_false] using hK
  · simpa only [RS, drow, PB, qup_ap, vup_ap, vcpy_ap, Nat.reduceEqDiff, if_true, if_false] using hS
  · simp only [RG, qup_ap, vup_ap, vcpy_ap, Nat.reduceEqDiff, if_true, if_false]; exact ⟨trivial, ha⟩
theorem H_unsee {L : Nat} {xs : Nat → Int} (F : Nat → Nat → Int) (hR : Rel F) : qPair (qtab L xs) Rel 0 85 171 [(3, 0), (9, 0)] [(3, 69), (9, 0)] F := by
  apply qPair_of
  have hR0 := hR
  obtain ⟨hf, hT, hD, hP, hO, hK, hS, hG⟩ := hR
  have hr := Rf_k hf
  simp only [YK, c85, t85, c171, t171, tgK, lyK, rkK, wK, rfK, hr, qRes_eq, qNon_eq, qup_ap, vup_ap, vcpy_ap, kc8_0, kc8_1, kc8_2, lc_lt, lc_gt, lc_eq, Option.toList_some, Option.toList_none, List.cons_append, List.nil_append, lay_len, lay_sz, Nat.reduceAdd, Nat.reduceSub, Nat.reduceMul, Int.reduceToNat, Int.reduceLE, Int.reduceLT, Int.reduceEq, Int.reduceAdd, Int.reduceSub, Int.reduceMul, Int.reduceNeg, Nat.reduceLeDiff, Nat.reduceLT, true_and, and_true, false_and, and_false, qcat_0, qcat_1, qcat_3, qcat_9, Nat.reduceEqDiff, if_true, if_false, ite_self, or_true, true_or, or_false, false_or, forall_const, not_true_eq_false, not_false_eq_true, false_implies, implies_true, qtK0, qtK1, qtK2, qtK3, qtK4, List.getD_cons_zero, List.getD_cons_succ]
  refine ⟨hS.1, (hf.up (by decide)).up (by decide), ?_, ?_, ?_, ?_, ?_, ?_, ?_⟩
  · simpa only [RT, drow, PB, qup_ap, vup_ap, vcpy_ap, Nat.reduceEqDiff, if_true, if_false] using hT
  · simpa only [RD, drow, PB, qup_ap, vup_ap, vcpy_ap, Nat.reduceEqDiff, if_true, if_false] using hD
  · simpa only [RP, drow, PB, qup_ap, vup_ap, vcpy_ap, Nat.reduceEqDiff, if_true, if_false] using hP
  · simpa only [RO, drow, PB, qup_ap, vup_ap, vcpy_ap, Nat.reduceEqDiff, if_true, if_false] using hO
  · simpa only [RK, drow, PB, qup_ap, vup_ap, vcpy_ap, Nat.reduceEqDiff, if_true, if_false] using hK
  · simp only [RS, qup_ap, vup_ap, vcpy_ap, Nat.reduceEqDiff, if_true, if_false]; exact ⟨by decide, by decide, by decide, fun j hj => absurd hj (by omega)⟩
  · simpa only [RG, drow, PB, qup_ap, vup_ap, vcpy_ap, Nat.reduceEqDiff, if_true, if_false] using hG
theorem H_write {L : Nat} {xs : Nat → Int} (F : Nat → Nat → Int) (a : Int) (hR : Rel F) (ha : I32 a) : qPair (qtab L xs) Rel 0 70 117 [(3, 0), (0, a)] [(3, 69), (0, a)] F := by
  apply qPair_of
  have hR0 := hR
  obtain ⟨hf, hT, hD, hP, hO, hK, hS, hG⟩ := hR
  have hr := Rf_k hf
  simp only [YK, c70, t70, c117, t117, c104, t104, cl104, tgK, lyK, rkK, wK, rfK, hr, qRes_eq, qNon_eq, qup_ap, vup_ap, vcpy_ap, kc8_0, kc8_1, kc8_2, lc_lt, lc_gt, lc_eq, Option.toList_some, Option.toList_none, List.cons_append, List.nil_append, lay_len, lay_sz, Nat.reduceAdd, Nat.reduceSub, Nat.reduceMul, Int.reduceToNat, Int.reduceLE, Int.reduceLT, Int.reduceEq, Int.reduceAdd, Int.reduceSub, Int.reduceMul, Int.reduceNeg, Nat.reduceLeDiff, Nat.reduceLT, true_and, and_true, false_and, and_false, qcat_0, qcat_1, qcat_3, qcat_9, Nat.reduceEqDiff, if_true, if_false, ite_self, or_true, true_or, or_false, false_or, forall_const, not_true_eq_false, not_false_eq_true, false_implies, implies_true, qtK0, qtK1, qtK2, qtK3, qtK4, List.getD_cons_zero, List.getD_cons_succ]
  have hT0 := hT
  obtain ⟨t1, t2, t3, t4⟩ := hT0
  have w1 : w32 (F 0 1 + 1) = F 0 1 + 1 := w32_id ⟨by omega, by omega⟩
  have w2 : w32 (F 69 1 + 1) = F 0 1 + 1 := by rw [t1, w1]
  clear hr
  repeat' (first | exact hR0 | with_reducible apply And.intro | with_reducible intro _)
  all_goals try omega
  rw [w1, w2, t1]
  refine ⟨(((hf.upA _ _ (by decide)).up (by decide)).upA _ _ (by decide)).up (by decide), ?_, ?_, ?_, ?_, ?_, ?_, ?_⟩
  · simp only [RT, qup_ap, vup_ap, vcpy_ap, Nat.reduceEqDiff, if_true, if_false]
    refine ⟨trivial, by omega, by omega, ?_⟩
    intro j hj
    by_cases hj2 : j = (F 0 1).toNat
    · simp only [if_pos hj2]; exact ⟨trivial, by omega, by omega⟩
    · simp only [if_neg hj2]; exact t4 j (by omega)
  · simpa only [RD, drow, PB, qup_ap, vup_ap, vcpy_ap, Nat.reduceEqDiff, if_true, if_false] using hD
  · simpa only [RP, drow, PB, qup_ap, vup_ap, vcpy_ap, Nat.reduceEqDiff, if_true, if_false] using hP
  · simpa only [RO, drow, PB, qup_ap, vup_ap, vcpy_ap, Nat.reduceEqDiff, if_true, if_false] using hO
  · simpa only [RK, drow, PB, qup_ap, vup_ap, vcpy_ap, Nat.reduceEqDiff, if_true, if_false] using hK
  · simpa only [RS, drow, PB, qup_ap, vup_ap, vcpy_ap, Nat.reduceEqDiff, if_true, if_false] using hS
  · simpa only [RG, drow, PB, qup_ap, vup_ap, vcpy_ap, Nat.reduceEqDiff, if_true, if_false] using hG
theorem H_see {L : Nat} {xs : Nat → Int} (F : Nat → Nat → Int) (a b : Int) (hR : Rel F) (ha : I32 a) (hb : I32 b) : qPair (qtab L xs) Rel 0 84 170 [(3, 0), (0, a), (0, b)] [(3, 69), (0, a), (0, b)] F := by
  apply qPair_of
  have hR0 := hR
  obtain ⟨hf, hT, hD, hP, hO, hK, hS, hG⟩ := hR
  have hr := Rf_k hf
  simp only [YK, c84, t84, c170, t170, c104, t104, c158, t158, c65, t65, c60, t60, cl104, cl158, cl65, cl60, tgK, lyK, rkK, wK, rfK, hr, qRes_eq, qNon_eq, qup_ap, vup_ap, vcpy_ap, kc8_0, kc8_1, kc8_2, lc_lt, lc_gt, lc_eq, Option.toList_some, Option.toList_none, List.cons_append, List.nil_append, lay_len, lay_sz, Nat.reduceAdd, Nat.reduceSub, Nat.reduceMul, Int.reduceToNat, Int.reduceLE, Int.reduceLT, Int.reduceEq, Int.reduceAdd, Int.reduceSub, Int.reduceMul, Int.reduceNeg, Nat.reduceLeDiff, Nat.reduceLT, true_and, and_true, false_and, and_false, qcat_0, qcat_1, qcat_3, qcat_9, Nat.reduceEqDiff, if_true, if_false, ite_self, or_true, true_or, or_false, false_or, forall_const, not_true_eq_false, not_false_eq_true, false_implies, implies_true, qtK0, qtK1, qtK2, qtK3, qtK4, List.getD_cons_zero, List.getD_cons_succ]
  have hS0 := hS
  obtain ⟨t1, t2, t3, t4⟩ := hS0
  have w1 : w32 (F 30 0 + 1) = F 30 0 + 1 := w32_id ⟨by omega, by omega⟩
  have w2 : w32 (F 69 37 + 1) = F 30 0 + 1 := by rw [t1, w1]
  have d1 := hD.2.1
  have w3 : w32 (F 69 3 - 1) = F 3 2 - 1 := by rw [d1.1]; exact w32_id ⟨by omega, by omega⟩
  clear hr
  repeat' (first | exact hR0 | with_reducible apply And.intro | with_reducible intro _)
  all_goals try omega
  rw [w1, w2, t1]
  refine ⟨(((((hf.upA _ _ (by decide)).upA _ _ (by decide)).up (by decide)).upA _ _ (by decide)).upA _ _ (by decide)).up (by decide), ?_, ?_, ?_, ?_, ?_, ?_, ?_⟩
  · simpa only [RT, drow, PB, qup_ap, vup_ap, vcpy_ap, Nat.reduceEqDiff, if_true, if_false] using hT
  · simpa only [RD, drow, PB, qup_ap, vup_ap, vcpy_ap, Nat.reduceEqDiff, if_true, if_false] using hD
  · simpa only [RP, drow, PB, qup_ap, vup_ap, vcpy_ap, Nat.reduceEqDiff, if_true, if_false] using hP
  · simpa only [RO, drow, PB, qup_ap, vup_ap, vcpy_ap, Nat.reduceEqDiff, if_true, if_false] using hO
  · simpa only [RK, drow, PB, qup_ap, vup_ap, vcpy_ap, Nat.reduceEqDiff, if_true, if_false] using hK
  · simp only [RS, qup_ap, vup_ap, vcpy_ap, Nat.reduceEqDiff, if_true, if_false]
    refine ⟨trivial, by omega, by omega, ?_⟩
    intro j hj
    by_cases hj2 : j = (F 30 0).toNat
    · simp only [if_pos hj2]; exact ⟨trivial, by omega, by omega, trivial, by omega⟩
    · simp only [if_neg hj2]; exact t4 j (by omega)
  · simpa only [RG, drow, PB, qup_ap, vup_ap, vcpy_ap, Nat.reduceEqDiff, if_true, if_false] using hG
theorem H_about {L : Nat} {xs : Nat → Int} (F : Nat → Nat → Int) (a : Int) (hR : Rel F) (ha : I32 a) : qPair (qtab L xs) Rel 0 74 153 [(3, 0), (0, a)] [(3, 69), (0, a)] F := by
  apply qPair_of
  have hR0 := hR
  obtain ⟨hf, hT, hD, hP, hO, hK, hS, hG⟩ := hR
  have hr := Rf_k hf
  have h0 := hD.1.1
  have h1 := hD.2.1.1
  have h2 := hD.2.2.1.1
  have h3 := hP.2.1 0 (by decide)
  have h4 := hP.2.1 1 (by decide)
  have h5 := hP.2.1 2 (by decide)
  have h6 := hP.2.1 3 (by decide)
  have h7 := hP.2.1 4 (by decide)
  have h8 := hP.2.2
  have h9 := hO.1.1
  have h10 := hS.1
  have h11 := hT.1
  have hs : a < 0 ∨ a = 0 ∨ a = 1 ∨ a = 2 ∨ a = 3 ∨ a = 4 ∨ a = 5 ∨ a = 6 ∨ a = 7 ∨ a = 8 ∨ a = 9 ∨ a = 10 ∨ a = 11 ∨ 11 < a := by omega
  rcases hs with hs | rfl | rfl | rfl | rfl | rfl | rfl | rfl | rfl | rfl | rfl | rfl | rfl | hs
  · simp only [YK, c74, t74, c153, t153, tgK, lyK, rkK, wK, rfK, hr, qRes_eq, qNon_eq, qup_ap, vup_ap, vcpy_ap, kc8_0, kc8_1, kc8_2, lc_lt, lc_gt, lc_eq, Option.toList_some, Option.toList_none, List.cons_append, List.nil_append, lay_len, lay_sz, Nat.reduceAdd, Nat.reduceSub, Nat.reduceMul, Int.reduceToNat, Int.reduceLE, Int.reduceLT, Int.reduceEq, Int.reduceAdd, Int.reduceSub, Int.reduceMul, Int.reduceNeg, Nat.reduceLeDiff, Nat.reduceLT, true_and, and_true, false_and, and_false, qcat_0, qcat_1, qcat_3, qcat_9, Nat.reduceEqDiff, if_true, if_false, ite_self, or_true, true_or, or_false, false_or, forall_const, not_true_eq_false, not_false_eq_true, false_implies, implies_true, qtK0, qtK1, qtK2, qtK3, qtK4, List.getD_cons_zero, List.getD_cons_succ]
    rw [if_pos hs, if_pos hs]
    simp only [YK, c74, t74, c153, t153, tgK, lyK, rkK, wK, rfK, hr, qRes_eq, qNon_eq, qup_ap, vup_ap, vcpy_ap, kc8_0, kc8_1, kc8_2, lc_lt, lc_gt, lc_eq, Option.toList_some, Option.toList_none, List.cons_append, List.nil_append, lay_len, lay_sz, Nat.reduceAdd, Nat.reduceSub, Nat.reduceMul, Int.reduceToNat, Int.reduceLE, Int.reduceLT, Int.reduceEq, Int.reduceAdd, Int.reduceSub, Int.reduceMul, Int.reduceNeg, Nat.reduceLeDiff, Nat.reduceLT, true_and, and_true, false_and, and_false, qcat_0, qcat_1, qcat_3, qcat_9, Nat.reduceEqDiff, if_true, if_false, ite_self, or_true, true_or, or_false, false_or, forall_const, not_true_eq_false, not_false_eq_true, false_implies, implies_true, qtK0, qtK1, qtK2, qtK3, qtK4, List.getD_cons_zero, List.getD_cons_succ]
    exact hR0
  · simp only [YK, c74, t74, c153, t153, tgK, lyK, rkK, wK, rfK, hr, qRes_eq, qNon_eq, qup_ap, vup_ap, vcpy_ap, kc8_0, kc8_1, kc8_2, lc_lt, lc_gt, lc_eq, Option.toList_some, Option.toList_none, List.cons_append, List.nil_append, lay_len, lay_sz, Nat.reduceAdd, Nat.reduceSub, Nat.reduceMul, Int.reduceToNat, Int.reduceLE, Int.reduceLT, Int.reduceEq, Int.reduceAdd, Int.reduceSub, Int.reduceMul, Int.reduceNeg, Nat.reduceLeDiff, Nat.reduceLT, true_and, and_true, false_and, and_false, qcat_0, qcat_1, qcat_3, qcat_9, Nat.reduceEqDiff, if_true, if_false, ite_self, or_true, true_or, or_false, false_or, forall_const, not_true_eq_false, not_false_eq_true, false_implies, implies_true, qtK0, qtK1, qtK2, qtK3, qtK4, List.getD_cons_zero, List.getD_cons_succ]
    exact ⟨h0, hR0⟩
  · simp only [YK, c74, t74, c153, t153, tgK, lyK, rkK, wK, rfK, hr, qRes_eq, qNon_eq, qup_ap, vup_ap, vcpy_ap, kc8_0, kc8_1, kc8_2, lc_lt, lc_gt, lc_eq, Option.toList_some, Option.toList_none, List.cons_append, List.nil_append, lay_len, lay_sz, Nat.reduceAdd, Nat.reduceSub, Nat.reduceMul, Int.reduceToNat, Int.reduceLE, Int.reduceLT, Int.reduceEq, Int.reduceAdd, Int.reduceSub, Int.reduceMul, Int.reduceNeg, Nat.reduceLeDiff, Nat.reduceLT, true_and, and_true, false_and, and_false, qcat_0, qcat_1, qcat_3, qcat_9, Nat.reduceEqDiff, if_true, if_false, ite_self, or_true, true_or, or_false, false_or, forall_const, not_true_eq_false, not_false_eq_true, false_implies, implies_true, qtK0, qtK1, qtK2, qtK3, qtK4, List.getD_cons_zero, List.getD_cons_succ]
    exact ⟨h1, hR0⟩
  · simp only [YK, c74, t74, c153, t153, tgK, lyK, rkK, wK, rfK, hr, qRes_eq, qNon_eq, qup_ap, vup_ap, vcpy_ap, kc8_0, kc8_1, kc8_2, lc_lt, lc_gt, lc_eq, Option.toList_some, Option.toList_none, List.cons_append, List.nil_append, lay_len, lay_sz, Nat.reduceAdd, Nat.reduceSub, Nat.reduceMul, Int.reduceToNat, Int.reduceLE, Int.reduceLT, Int.reduceEq, Int.reduceAdd, Int.reduceSub, Int.reduceMul, Int.reduceNeg, Nat.reduceLeDiff, Nat.reduceLT, true_and, and_true, false_and, and_false, qcat_0, qcat_1, qcat_3, qcat_9, Nat.reduceEqDiff, if_true, if_false, ite_self, or_true, true_or, or_false, false_or, forall_const, not_true_eq_false, not_false_eq_true, false_implies, implies_true, qtK0, qtK1, qtK2, qtK3, qtK4, List.getD_cons_zero, List.getD_cons_succ]
    exact ⟨h2, hR0⟩
  · simp only [YK, c74, t74, c153, t153, tgK, lyK, rkK, wK, rfK, hr, qRes_eq, qNon_eq, qup_ap, vup_ap, vcpy_ap, kc8_0, kc8_1, kc8_2, lc_lt, lc_gt, lc_eq, Option.toList_some, Option.toList_none, List.cons_append, List.nil_append, lay_len, lay_sz, Nat.reduceAdd, Nat.reduceSub, Nat.reduceMul, Int.reduceToNat, Int.reduceLE, Int.reduceLT, Int.reduceEq, Int.reduceAdd, Int.reduceSub, Int.reduceMul, Int.reduceNeg, Nat.reduceLeDiff, Nat.reduceLT, true_and, and_true, false_and, and_false, qcat_0, qcat_1, qcat_3, qcat_9, Nat.reduceEqDiff, if_true, if_false, ite_self, or_true, true_or, or_false, false_or, forall_const, not_true_eq_false, not_false_eq_true, false_implies, implies_true, qtK0, qtK1, qtK2, qtK3, qtK4, List.getD_cons_zero, List.getD_cons_succ]
    exact ⟨h3, hR0⟩
  · simp only [YK, c74, t74, c153, t153, tgK, lyK, rkK, wK, rfK, hr, qRes_eq, qNon_eq, qup_ap, vup_ap, vcpy_ap, kc8_0, kc8_1, kc8_2, lc_lt, lc_gt, lc_eq, Option.toList_some, Option.toList_none, List.cons_append, List.nil_append, lay_len, lay_sz, Nat.reduceAdd, Nat.reduceSub, Nat.reduceMul, Int.reduceToNat, Int.reduceLE, Int.reduceLT, Int.reduceEq, Int.reduceAdd, Int.reduceSub, Int.reduceMul, Int.reduceNeg, Nat.reduceLeDiff, Nat.reduceLT, true_and, and_true, false_and, and_false, qcat_0, qcat_1, qcat_3, qcat_9, Nat.reduceEqDiff, if_true, if_false, ite_self, or_true, true_or, or_false, false_or, forall_const, not_true_eq_false, not_false_eq_true, false_implies, implies_true, qtK0, qtK1, qtK2, qtK3, qtK4, List.getD_cons_zero, List.getD_cons_succ]
    exact ⟨h4, hR0⟩
  · simp only [YK, c74, t74, c153, t153, tgK, lyK, rkK, wK, rfK, hr, qRes_eq, qNon_eq, qup_ap, vup_ap, vcpy_ap, kc8_0, kc8_1, kc8_2, lc_lt, lc_gt, lc_eq, Option.toList_some, Option.toList_none, List.cons_append, List.nil_append, lay_len, lay_sz, Nat.reduceAdd, Nat.reduceSub, Nat.reduceMul, Int.reduceToNat, Int.reduceLE, Int.reduceLT, Int.reduceEq, Int.reduceAdd, Int.reduceSub, Int.reduceMul, Int.reduceNeg, Nat.reduceLeDiff, Nat.reduceLT, true_and, and_true, false_and, and_false, qcat_0, qcat_1, qcat_3, qcat_9, Nat.reduceEqDiff, if_true, if_false, ite_self, or_true, true_or, or_false, false_or, forall_const, not_true_eq_false, not_false_eq_true, false_implies, implies_true, qtK0, qtK1, qtK2, qtK3, qtK4, List.getD_cons_zero, List.getD_cons_succ]
    exact ⟨h5, hR0⟩
  · simp only [YK, c74, t74, c153, t153, tgK, lyK, rkK, wK, rfK, hr, qRes_eq, qNon_eq, qup_ap, vup_ap, vcpy_ap, kc8_0, kc8_1, kc8_2, lc_lt, lc_gt, lc_eq, Option.toList_some, Option.toList_none, List.cons_append, List.nil_append, lay_len, lay_sz, Nat.reduceAdd, Nat.reduceSub, Nat.reduceMul, Int.reduceToNat, Int.reduceLE, Int.reduceLT, Int.reduceEq, Int.reduceAdd, Int.reduceSub, Int.reduceMul, Int.reduceNeg, Nat.reduceLeDiff, Nat.reduceLT, true_and, and_true, false_and, and_false, qcat_0, qcat_1, qcat_3, qcat_9, Nat.reduceEqDiff, if_true, if_false, ite_self, or_true, true_or, or_false, false_or, forall_const, not_true_eq_false, not_false_eq_true, false_implies, implies_true, qtK0, qtK1, qtK2, qtK3, qtK4, List.getD_cons_zero, List.getD_cons_succ]
    exact ⟨h6, hR0⟩
  · simp only [YK, c74, t74, c153, t153, tgK, lyK, rkK, wK, rfK, hr, qRes_eq, qNon_eq, qup_ap, vup_ap, vcpy_ap, kc8_0, kc8_1, kc8_2, lc_lt, lc_gt, lc_eq, Option.toList_some, Option.toList_none, List.cons_append, List.nil_append, lay_len, lay_sz, Nat.reduceAdd, Nat.reduceSub, Nat.reduceMul, Int.reduceToNat, Int.reduceLE, Int.reduceLT, Int.reduceEq, Int.reduceAdd, Int.reduceSub, Int.reduceMul, Int.reduceNeg, Nat.reduceLeDiff, Nat.reduceLT, true_and, and_true, false_and, and_false, qcat_0, qcat_1, qcat_3, qcat_9, Nat.reduceEqDiff, if_true, if_false, ite_self, or_true, true_or, or_false, false_or, forall_const, not_true_eq_false, not_false_eq_true, false_implies, implies_true, qtK0, qtK1, qtK2, qtK3, qtK4, List.getD_cons_zero, List.getD_cons_succ]
    exact ⟨h7, hR0⟩
  · simp only [YK, c74, t74, c153, t153, tgK, lyK, rkK, wK, rfK, hr, qRes_eq, qNon_eq, qup_ap, vup_ap, vcpy_ap, kc8_0, kc8_1, kc8_2, lc_lt, lc_gt, lc_eq, Option.toList_some, Option.toList_none, List.cons_append, List.nil_append, lay_len, lay_sz, Nat.reduceAdd, Nat.reduceSub, Nat.reduceMul, Int.reduceToNat, Int.reduceLE, Int.reduceLT, Int.reduceEq, Int.reduceAdd, Int.reduceSub, Int.reduceMul, Int.reduceNeg, Nat.reduceLeDiff, Nat.reduceLT, true_and, and_true, false_and, and_false, qcat_0, qcat_1, qcat_3, qcat_9, Nat.reduceEqDiff, if_true, if_false, ite_self, or_true, true_or, or_false, false_or, forall_const, not_true_eq_false, not_false_eq_true, false_implies, implies_true, qtK0, qtK1, qtK2, qtK3, qtK4, List.getD_cons_zero, List.getD_cons_succ]
    exact ⟨h8, hR0⟩
  · simp only [YK, c74, t74, c153, t153, tgK, lyK, rkK, wK, rfK, hr, qRes_eq, qNon_eq, qup_ap, vup_ap, vcpy_ap, kc8_0, kc8_1, kc8_2, lc_lt, lc_gt, lc_eq, Option.toList_some, Option.toList_none, List.cons_append, List.nil_append, lay_len, lay_sz, Nat.reduceAdd, Nat.reduceSub, Nat.reduceMul, Int.reduceToNat, Int.reduceLE, Int.reduceLT, Int.reduceEq, Int.reduceAdd, Int.reduceSub, Int.reduceMul, Int.reduceNeg, Nat.reduceLeDiff, Nat.reduceLT, true_and, and_true, false_and, and_false, qcat_0, qcat_1, qcat_3, qcat_9, Nat.reduceEqDiff, if_true, if_false, ite_self, or_true, true_or, or_false, false_or, forall_const, not_true_eq_false, not_false_eq_true, false_implies, implies_true, qtK0, qtK1, qtK2, qtK3, qtK4, List.getD_cons_zero, List.getD_cons_succ]
    exact ⟨h9, hR0⟩
  · simp only [YK, c74, t74, c153, t153, tgK, lyK, rkK, wK, rfK, hr, qRes_eq, qNon_eq, qup_ap, vup_ap, vcpy_ap, kc8_0, kc8_1, kc8_2, lc_lt, lc_gt, lc_eq, Option.toList_some, Option.toList_none, List.cons_append, List.nil_append, lay_len, lay_sz, Nat.reduceAdd, Nat.reduceSub, Nat.reduceMul, Int.reduceToNat, Int.reduceLE, Int.reduceLT, Int.reduceEq, Int.reduceAdd, Int.reduceSub, Int.reduceMul, Int.reduceNeg, Nat.reduceLeDiff, Nat.reduceLT, true_and, and_true, false_and, and_false, qcat_0, qcat_1, qcat_3, qcat_9, Nat.reduceEqDiff, if_true, if_false, ite_self, or_true, true_or, or_false, false_or, forall_const, not_true_eq_false, not_false_eq_true, false_implies, implies_true, qtK0, qtK1, qtK2, qtK3, qtK4, List.getD_cons_zero, List.getD_cons_succ]
    exact ⟨h10, hR0⟩
  · simp only [YK, c74, t74, c153, t153, tgK, lyK, rkK, wK, rfK, hr, qRes_eq, qNon_eq, qup_ap, vup_ap, vcpy_ap, kc8_0, kc8_1, kc8_2, lc_lt, lc_gt, lc_eq, Option.toList_some, Option.toList_none, List.cons_append, List.nil_append, lay_len, lay_sz, Nat.reduceAdd, Nat.reduceSub, Nat.reduceMul, Int.reduceToNat, Int.reduceLE, Int.reduceLT, Int.reduceEq, Int.reduceAdd, Int.reduceSub, Int.reduceMul, Int.reduceNeg, Nat.reduceLeDiff, Nat.reduceLT, true_and, and_true, false_and, and_false, qcat_0, qcat_1, qcat_3, qcat_9, Nat.reduceEqDiff, if_true, if_false, ite_self, or_true, true_or, or_false, false_or, forall_const, not_true_eq_false, not_false_eq_true, false_implies, implies_true, qtK0, qtK1, qtK2, qtK3, qtK4, List.getD_cons_zero, List.getD_cons_succ]
    exact ⟨h11, hR0⟩
  · simp only [YK, c74, t74, c153, t153, tgK, lyK, rkK, wK, rfK, hr, qRes_eq, qNon_eq, qup_ap, vup_ap, vcpy_ap, kc8_0, kc8_1, kc8_2, lc_lt, lc_gt, lc_eq, Option.toList_some, Option.toList_none, List.cons_append, List.nil_append, lay_len, lay_sz, Nat.reduceAdd, Nat.reduceSub, Nat.reduceMul, Int.reduceToNat, Int.reduceLE, Int.reduceLT, Int.reduceEq, Int.reduceAdd, Int.reduceSub, Int.reduceMul, Int.reduceNeg, Nat.reduceLeDiff, Nat.reduceLT, true_and, and_true, false_and, and_false, qcat_0, qcat_1, qcat_3, qcat_9, Nat.reduceEqDiff, if_true, if_false, ite_self, or_true, true_or, or_false, false_or, forall_const, not_true_eq_false, not_false_eq_true, false_implies, implies_true, qtK0, qtK1, qtK2, qtK3, qtK4, List.getD_cons_zero, List.getD_cons_succ]
    rw [if_neg (by omega), if_pos hs, if_neg (by omega), if_pos hs]
    simp only [YK, c74, t74, c153, t153, tgK, lyK, rkK, wK, rfK, hr, qRes_eq, qNon_eq, qup_ap, vup_ap, vcpy_ap, kc8_0, kc8_1, kc8_2, lc_lt, lc_gt, lc_eq, Option.toList_some, Option.toList_none, List.cons_append, List.nil_append, lay_len, lay_sz, Nat.reduceAdd, Nat.reduceSub, Nat.reduceMul, Int.reduceToNat, Int.reduceLE, Int.reduceLT, Int.reduceEq, Int.reduceAdd, Int.reduceSub, Int.reduceMul, Int.reduceNeg, Nat.reduceLeDiff, Nat.reduceLT, true_and, and_true, false_and, and_false, qcat_0, qcat_1, qcat_3, qcat_9, Nat.reduceEqDiff, if_true, if_false, ite_self, or_true, true_or, or_false, false_or, forall_const, not_true_eq_false, not_false_eq_true, false_implies, implies_true, qtK0, qtK1, qtK2, qtK3, qtK4, List.getD_cons_zero, List.getD_cons_succ]
    exact hR0
/-- the reference's row that is kept -/
def pKeep (F : Nat → Nat → Int) : Nat → Nat → Int := qup (qup (qup (qup (qup (qup (qup (qup F 91 (6 * F 69 32 + 0).toNat (F 89 0)) 91 (6 * F 69 32 + 1).toNat (F 89 1)) 91 (6 * F 69 32 + 2).toNat (F 89 2)) 91 (6 * F 69 32 + 3).toNat (F 89 3)) 91 (6 * F 69 32 + 4).toNat (F 89 4)) 91 (6 * F 69 32 + 5).toNat (F 89 5)) 69 32 (if F 69 32 = 13 then 0 else F 69 32 + 1)) 69 31 (if F 69 31 < 14 then F 69 31 + 1 else 14)
theorem k155 {tb : qTb} {F : Nat → Nat → Int} {R : Option qV → qM → Prop} (hf : Rf F) (h1 : 0 ≤ F 69 31 ∧ F 69 31 ≤ 14) (h2 : 0 ≤ F 69 32 ∧ F 69 32 < 14) (hk : R none (LAY, pKeep F)) : qW tb 155 (119, 1262) 0 [(3, 69), (9, 0)] [] (LAY, F) R := by
  have hr := Rf_k hf
  have x2 : w32 (6 * F 69 32) = 6 * F 69 32 := w32_id ⟨by omega, by omega⟩
  have y0 : w32 (6 * F 69 32 + 0) = 6 * F 69 32 + 0 := w32_id ⟨by omega, by omega⟩
  have z0 : (0 ≤ 6 * F 69 32 + 0 ∧ 6 * F 69 32 + 0 < 84) = True := eq_true (by omega)
  have y1 : w32 (6 * F 69 32 + 1) = 6 * F 69 32 + 1 := w32_id ⟨by omega, by omega⟩
  have z1 : (0 ≤ 6 * F 69 32 + 1 ∧ 6 * F 69 32 + 1 < 84) = True := eq_true (by omega)
  have y2 : w32 (6 * F 69 32 + 2) = 6 * F 69 32 + 2 := w32_id ⟨by omega, by omega⟩
  have z2 : (0 ≤ 6 * F 69 32 + 2 ∧ 6 * F 69 32 + 2 < 84) = True := eq_true (by omega)
  have y3 : w32 (6 * F 69 32 + 3) = 6 * F 69 32 + 3 := w32_id ⟨by omega, by omega⟩
  have z3 : (0 ≤ 6 * F 69 32 + 3 ∧ 6 * F 69 32 + 3 < 84) = True := eq_true (by omega)
  have y4 : w32 (6 * F 69 32 + 4) = 6 * F 69 32 + 4 := w32_id ⟨by omega, by omega⟩
  have z4 : (0 ≤ 6 * F 69 32 + 4 ∧ 6 * F 69 32 + 4 < 84) = True := eq_true (by omega)
  have y5 : w32 (6 * F 69 32 + 5) = 6 * F 69 32 + 5 := w32_id ⟨by omega, by omega⟩
  have z5 : (0 ≤ 6 * F 69 32 + 5 ∧ 6 * F 69 32 + 5 < 84) = True := eq_true (by omega)
  have x3 : w32 (F 69 32 + 1) = F 69 32 + 1 := w32_id ⟨by omega, by omega⟩
  have x4 : w32 ((F 69 32 + 1).tmod 14) = if F 69 32 = 13 then 0 else F 69 32 + 1 := by
    rw [Int.tmod_eq_emod_of_nonneg (by omega), w32_id ⟨by omega, by omega⟩]
    split <;> omega
  have x5 : w32 (F 69 31 + 1) = F 69 31 + 1 := w32_id ⟨by omega, by omega⟩
  unfold pKeep at hk
  simp only [YK, c155, t155, tgK, lyK, rkK, wK, rfK, hr, qRes_eq, qNon_eq, qup_ap, vup_ap, vcpy_ap, kc8_0, kc8_1, kc8_2, lc_lt, lc_gt, lc_eq, Option.toList_some, Option.toList_none, List.cons_append, List.nil_append, lay_len, lay_sz, Nat.reduceAdd, Nat.reduceSub, Nat.reduceMul, Int.reduceToNat, Int.reduceLE, Int.reduceLT, Int.reduceEq, Int.reduceAdd, Int.reduceSub, Int.reduceMul, Int.reduceNeg, Nat.reduceLeDiff, Nat.reduceLT, true_and, and_true, false_and, and_false, qcat_0, qcat_1, qcat_3, qcat_9, Nat.reduceEqDiff, if_true, if_false, ite_self, or_true, true_or, or_false, false_or, forall_const, not_true_eq_false, not_false_eq_true, false_implies, implies_true, qtK0, qtK1, qtK2, qtK3, qtK4, List.getD_cons_zero, List.getD_cons_succ, x2, x3, x4, x5, y0, z0, y1, z1, y2, z2, y3, z3, y4, z4, y5, z5]
  iterate 7 (rw [h155_2]; simp only [YK, c155, t155, tgK, lyK, rkK, wK, rfK, hr, qRes_eq, qNon_eq, qup_ap, vup_ap, vcpy_ap, kc8_0, kc8_1, kc8_2, lc_lt, lc_gt, lc_eq, Option.toList_some, Option.toList_none, List.cons_append, List.nil_append, lay_len, lay_sz, Nat.reduceAdd, Nat.reduceSub, Nat.reduceMul, Int.reduceToNat, Int.reduceLE, Int.reduceLT, Int.reduceEq, Int.reduceAdd, Int.reduceSub, Int.reduceMul, Int.reduceNeg, Nat.reduceLeDiff, Nat.reduceLT, true_and, and_true, false_and, and_false, qcat_0, qcat_1, qcat_3, qcat_9, Nat.reduceEqDiff, if_true, if_false, ite_self, or_true, true_or, or_false, false_or, forall_const, not_true_eq_false, not_false_eq_true, false_implies, implies_true, qtK0, qtK1, qtK2, qtK3, qtK4, List.getD_cons_zero, List.getD_cons_succ, x2, x3, x4, x5, y0, z0, y1, z1, y2, z2, y3, z3, y4, z4, y5, z5])
  refine ⟨fun h => ?_, fun h => ?_⟩
  · rw [if_pos h] at hk; exact hk
  · rw [if_neg h] at hk; exact hk
theorem Rf_pKeep {F : Nat → Nat → Int} (h : Rf F) : Rf (pKeep F) := (((((((h.upA _ _ (by decide)).upA _ _ (by decide)).upA _ _ (by decide)).upA _ _ (by decide)).upA _ _ (by decide)).upA _ _ (by decide)).up (by decide)).up (by decide)
theorem pKeep_c {F : Nat → Nat → Int} {c : Nat} (h1 : c ≠ 69) (h2 : c ≠ 91) (j : Nat) : pKeep F c j = F c j := by
  unfold pKeep
  simp only [qup_ap, if_neg h1, if_neg h2]
theorem pKeep_69 {F : Nat → Nat → Int} {j : Nat} (h1 : j ≠ 31) (h2 : j ≠ 32) : pKeep F 69 j = F 69 j := by
  unfold pKeep
  simp only [qup_ap, if_neg h1, if_neg h2, Nat.reduceEqDiff, if_true, if_false]
theorem pKeep_31 (F : Nat → Nat → Int) : pKeep F 69 31 = if F 69 31 < 14 then F 69 31 + 1 else 14 := by
  unfold pKeep
  simp only [qup_ap, Nat.reduceEqDiff, if_true, if_false]
theorem pKeep_32 (F : Nat → Nat → Int) : pKeep F 69 32 = if F 69 32 = 13 then 0 else F 69 32 + 1 := by
  unfold pKeep
  simp only [qup_ap, Nat.reduceEqDiff, if_true, if_false]
theorem pKeep_91 {F : Nat → Nat → Int} (h2 : 0 ≤ F 69 32 ∧ F 69 32 < 14) (r k : Nat) (hr : r < 14) (hk : k < 6) : pKeep F 91 (6 * r + k) = if (r : Int) = F 69 32 then F 89 k else F 91 (6 * r + k) := by
  unfold pKeep
  simp only [qup_ap, Nat.reduceEqDiff, if_true, if_false]
  have hk6 : k = 0 ∨ k = 1 ∨ k = 2 ∨ k = 3 ∨ k = 4 ∨ k = 5 := by omega
  by_cases hrr : (r : Int) = F 69 32
  · rw [if_pos hrr]
    rcases hk6 with rfl | rfl | rfl | rfl | rfl | rfl
    · rw [if_neg (by omega), if_neg (by omega), if_neg (by omega), if_neg (by omega), if_neg (by omega), if_pos (by omega)]
    · rw [if_neg (by omega), if_neg (by omega), if_neg (by omega), if_neg (by omega), if_pos (by omega)]
    · rw [if_neg (by omega), if_neg (by omega), if_neg (by omega), if_pos (by omega)]
    · rw [if_neg (by omega), if_neg (by omega), if_pos (by omega)]
    · rw [if_neg (by omega), if_pos (by omega)]
    · rw [if_pos (by omega)]
  · rw [if_neg hrr, if_neg (by omega), if_neg (by omega), if_neg (by omega), if_neg (by omega), if_neg (by omega), if_neg (by omega)]
theorem pKeep_89 (F : Nat → Nat → Int) (j : Nat) : pKeep F 89 j = F 89 j := pKeep_c (by decide) (by decide) j
theorem RT_eq {F G : Nat → Nat → Int} (h : RT F) (e0 : G 0 = F 0) (e1 : G 1 = F 1) (e70 : G 70 = F 70) (s1 : G 69 1 = F 69 1) : RT G := by
  unfold RT at h ⊢
  simp only [e0, e1, e70, s1]
  exact h
theorem RD_eq {F G : Nat → Nat → Int} (h : RD F) (e3 : G 3 = F 3) (e4 : G 4 = F 4) (e5 : G 5 = F 5) (e6 : G 6 = F 6) (e7 : G 7 = F 7) (e8 : G 8 = F 8) (e9 : G 9 = F 9) (e10 : G 10 = F 10) (e11 : G 11 = F 11) (e12 : G 12 = F 12) (e71 : G 71 = F 71) (e72 : G 72 = F 72) (e73 : G 73 = F 73) (e74 : G 74 = F 74) (e75 : G 75 = F 75) (e76 : G 76 = F 76) (e77 : G 77 = F 77) (e78 : G 78 = F 78) (e79 : G 79 = F 79) (s2 : G 69 2 = F 69 2) (s3 : G 69 3 = F 69 3) (s4 : G 69 4 = F 69 4) : RD G := by
  unfold RD at h ⊢
  simp only [e3, e4, e5, e6, e7, e8, e9, e10, e11, e12, e71, e72, e73, e74, e75, e76, e77, e78, e79, s2, s3, s4]
  exact h
theorem RP_eq {F G : Nat → Nat → Int} (h : RP F) (e23 : G 23 = F 23) (e24 : G 24 = F 24) (e89 : G 89 = F 89)  : RP G := by
  unfold RP at h ⊢
  simp only [e23, e24, e89]
  exact h
theorem RO_eq {F G : Nat → Nat → Int} (h : RO F) (e27 : G 27 = F 27) (e28 : G 28 = F 28) (e29 : G 29 = F 29) (e89 : G 89 = F 89) (e91 : G 91 = F 91) (s31 : G 69 31 = F 69 31) (s32 : G 69 32 = F 69 32) : RO G := by
  unfold RO drow at h ⊢
  simp only [e27, e28, e29, e89, e91, s31, s32]
  exact h
theorem RK_eq {F G : Nat → Nat → Int} (h : RK F) (e34 : G 34 = F 34) (e65 : G 65 = F 65) (e66 : G 66 = F 66) (e67 : G 67 = F 67) (e68 : G 68 = F 68) (e92 : G 92 = F 92) (e93 : G 93 = F 93)  : RK G := by
  unfold RK at h ⊢
  simp only [e34, e65, e66, e67, e68, e92, e93]
  exact h
theorem RS_eq {F G : Nat → Nat → Int} (h : RS F) (e30 : G 30 = F 30) (e31 : G 31 = F 31) (e32 : G 32 = F 32) (e94 : G 94 = F 94) (e95 : G 95 = F 95) (s37 : G 69 37 = F 69 37) : RS G := by
  unfold RS at h ⊢
  simp only [e30, e31, e32, e94, e95, s37]
  exact h
theorem RG_eq {F G : Nat → Nat → Int} (h : RG F) (e0 : G 0 = F 0) (s38 : G 69 38 = F 69 38) : RG G := by
  unfold RG at h ⊢
  simp only [e0, s38]
  exact h
theorem lc3_a (p : Prop) [Decidable p] : (0 < if p then (0 : Int) else -1) = False := by
  by_cases h : p
  · rw [if_pos h]; decide
  · rw [if_neg h]; decide
theorem lc3_b (p : Prop) [Decidable p] : ((if p then (0 : Int) else -1) < 0) = ¬ p := by
  by_cases h : p
  · rw [if_pos h]; simp [h]
  · rw [if_neg h]; simp [h]
/-- one more doing, of the class and of the reference -/
theorem Rel_push {F G : Nat → Nat → Int} (hR : Rel F) (w : Nat) (hw : w < 6) (hf : Rf G)
    (hc : ∀ c : Nat, c ≠ 23 → c ≠ 24 → c ≠ 27 → c ≠ 28 → c ≠ 29 → c ≠ 69 → c ≠ 89 → c ≠ 91 → G c = F c)
    (h69 : ∀ j : Nat, j ≠ 31 → j ≠ 32 → G 69 j = F 69 j) (hP : RP G)
    (h1 : G 27 0 = if F 27 0 < 14 then F 27 0 + 1 else 14)
    (h2 : G 69 31 = G 27 0) (h3 : G 69 32 = if F 69 32 = 13 then 0 else F 69 32 + 1)
    (h4 : ∀ i : Nat, (i : Int) < G 27 0 - 1 → G 28 i = F 28 (if F 27 0 < 14 then i else i + 1) ∧ G 29 i = F 29 (if F 27 0 < 14 then i else i + 1))
    (h5 : G 28 (G 27 0 - 1).toNat = w ∧ G 29 (G 27 0 - 1).toNat = F 89 w)
    (h6 : ∀ r k : Nat, r < 14 → k < 6 → G 91 (6 * r + k) = if (r : Int) = F 69 32 then F 89 k else F 91 (6 * r + k))
    (h7 : ∀ k : Nat, k < 6 → k ≠ w → G 89 k = F 89 k) : Rel G := by
  obtain ⟨hf0, hT, hD, hP0, hO, hK, hS, hG⟩ := hR
  have q : ∀ c : Nat, (c ≠ 23 ∧ c ≠ 24 ∧ c ≠ 27 ∧ c ≠ 28 ∧ c ≠ 29 ∧ c ≠ 69 ∧ c ≠ 89 ∧ c ≠ 91) → G c = F c := fun c h => hc c h.1 h.2.1 h.2.2.1 h.2.2.2.1 h.2.2.2.2.1 h.2.2.2.2.2.1 h.2.2.2.2.2.2.1 h.2.2.2.2.2.2.2
  refine ⟨hf, ?_, ?_, hP, RO_push hO hP0 w hw h1 h2 h3 h4 h5 h6 h7, ?_, ?_, ?_⟩
  · exact RT_eq hT (q _ (by decide)) (q _ (by decide)) (q _ (by decide)) (h69 _ (by decide) (by decide))
  · exact RD_eq hD (q _ (by decide)) (q _ (by decide)) (q _ (by decide)) (q _ (by decide)) (q _ (by decide)) (q _ (by decide)) (q _ (by decide)) (q _ (by decide)) (q _ (by decide)) (q _ (by decide)) (q _ (by decide)) (q _ (by decide)) (q _ (by decide)) (q _ (by decide)) (q _ (by decide)) (q _ (by decide)) (q _ (by decide)) (q _ (by decide)) (q _ (by decide)) (h69 _ (by decide) (by decide)) (h69 _ (by decide) (by decide)) (h69 _ (by decide) (by decide))
  · exact RK_eq hK (q _ (by decide)) (q _ (by decide)) (q _ (by decide)) (q _ (by decide)) (q _ (by decide)) (q _ (by decide)) (q _ (by decide))
  · exact RS_eq hS (q _ (by decide)) (q _ (by decide)) (q _ (by decide)) (q _ (by decide)) (q _ (by decide)) (h69 _ (by decide) (by decide))
  · exact RG_eq hG (q _ (by decide)) (h69 _ (by decide) (by decide))
/-- the class's doings, when one more is done -/
def cAdd (F : Nat → Nat → Int) (w v : Int) : Nat → Nat → Int := if F 27 0 < 14 then qup (qup (qup F 28 (F 27 0).toNat w) 29 (F 27 0).toNat v) 27 0 (F 27 0 + 1) else qup (qup (qup (qup (va_up (va_up F 28 (va_cpy (F 28) (F 28) 1 0 13)) 29 (va_cpy (F 29) (F 29) 1 0 13)) 27 0 13) 28 13 w) 29 13 v) 27 0 14
theorem k32 {tb : qTb} {F : Nat → Nat → Int} {R : Option qV → qM → Prop} (w v : Int) (hf : Rf F) (h1 : 0 ≤ F 27 0 ∧ F 27 0 ≤ 14) (hk : R none (LAY, cAdd F w v)) : qW tb 32 (119, 1262) 0 [(3, 27), (0, w), (0, v)] [] (LAY, F) R := by
  have hr := Rf_k hf
  have x1 : w32 (F 27 0 + 1) = F 27 0 + 1 := w32_id ⟨by omega, by omega⟩
  unfold cAdd at hk
  by_cases hn : F 27 0 < 14
  · rw [if_pos hn] at hk
    have hn2 : 0 ≤ F 27 0 ∧ F 27 0 < 14 := ⟨h1.1, hn⟩
    simp only [YK, c32, t32, hn, hn2, x1, tgK, lyK, rkK, wK, rfK, hr, qRes_eq, qNon_eq, qup_ap, vup_ap, vcpy_ap, kc8_0, kc8_1, kc8_2, lc_lt, lc_gt, lc_eq, Option.toList_some, Option.toList_none, List.cons_append, List.nil_append, lay_len, lay_sz, Nat.reduceAdd, Nat.reduceSub, Nat.reduceMul, Int.reduceToNat, Int.reduceLE, Int.reduceLT, Int.reduceEq, Int.reduceAdd, Int.reduceSub, Int.reduceMul, Int.reduceNeg, Nat.reduceLeDiff, Nat.reduceLT, true_and, and_true, false_and, and_false, qcat_0, qcat_1, qcat_3, qcat_9, Nat.reduceEqDiff, if_true, if_false, ite_self, or_true, true_or, or_false, false_or, forall_const, not_true_eq_false, not_false_eq_true, false_implies, implies_true, qtK0, qtK1, qtK2, qtK3, qtK4, List.getD_cons_zero, List.getD_cons_succ]
    exact hk
  · rw [if_neg hn] at hk
    simp only [YK, c32, t32, hn, y_cpyC, tgK, lyK, rkK, wK, rfK, hr, qRes_eq, qNon_eq, qup_ap, vup_ap, vcpy_ap, kc8_0, kc8_1, kc8_2, lc_lt, lc_gt, lc_eq, Option.toList_some, Option.toList_none, List.cons_append, List.nil_append, lay_len, lay_sz, Nat.reduceAdd, Nat.reduceSub, Nat.reduceMul, Int.reduceToNat, Int.reduceLE, Int.reduceLT, Int.reduceEq, Int.reduceAdd, Int.reduceSub, Int.reduceMul, Int.reduceNeg, Nat.reduceLeDiff, Nat.reduceLT, true_and, and_true, false_and, and_false, qcat_0, qcat_1, qcat_3, qcat_9, Nat.reduceEqDiff, if_true, if_false, ite_self, or_true, true_or, or_false, false_or, forall_const, not_true_eq_false, not_false_eq_true, false_implies, implies_true, qtK0, qtK1, qtK2, qtK3, qtK4, List.getD_cons_zero, List.getD_cons_succ]
    have e : va_up F 28 (va_cpy (F 28) (F 28) 1 0 13) 29 = F 29 := rfl
    rw [e]
    exact hk
theorem cAdd_c {F : Nat → Nat → Int} {w v : Int} {c : Nat} (h1 : c ≠ 27) (h2 : c ≠ 28) (h3 : c ≠ 29) : cAdd F w v c = F c := by
  funext j
  unfold cAdd
  split <;> simp only [qup_ap, vup_ap, if_neg h1, if_neg h2, if_neg h3]
theorem cAdd_27 (F : Nat → Nat → Int) (w v : Int) : cAdd F w v 27 0 = if F 27 0 < 14 then F 27 0 + 1 else 14 := by
  unfold cAdd
  split <;> simp only [qup_ap, vup_ap, Nat.reduceEqDiff, if_true, if_false]
theorem Rf_vup {F : Nat → Nat → Int} (h : Rf F) {c : Nat} (g : Nat → Int) (hn : RFL.all (fun q => !(q.1 == c)) = true) : Rf (va_up F c g) := by
  intro q hq
  have h1 := List.all_eq_true.mp hn q hq
  have hc : q.1 ≠ c := by simpa using h1
  rw [vup_ap, if_neg hc]; exact h q hq
theorem Rf_cAdd {F : Nat → Nat → Int} {w v : Int} (h : Rf F) : Rf (cAdd F w v) := by
  unfold cAdd
  split
  · exact (((h.upA _ _ (by decide)).upA _ _ (by decide)).up (by decide))
  · exact ((((((Rf_vup (Rf_vup h _ (by decide)) _ (by decide)).up (by decide)).upA _ _ (by decide)).upA _ _ (by decide)).up (by decide)))
theorem cAdd_p {F : Nat → Nat → Int} {w v : Int} (h1 : 0 ≤ F 27 0 ∧ F 27 0 ≤ 14) : (∀ i : Nat, (i : Int) < cAdd F w v 27 0 - 1 → cAdd F w v 28 i = F 28 (if F 27 0 < 14 then i else i + 1) ∧ cAdd F w v 29 i = F 29 (if F 27 0 < 14 then i else i + 1)) ∧ cAdd F w v 28 (cAdd F w v 27 0 - 1).toNat = w ∧ cAdd F w v 29 (cAdd F w v 27 0 - 1).toNat = v := by
  rw [cAdd_27]
  by_cases hn : F 27 0 < 14
  · unfold cAdd
    simp only [hn, if_true, qup_ap, vup_ap, vcpy_ap, Nat.reduceEqDiff, if_true, if_false]
    refine ⟨?_, ?_, ?_⟩
    · intro i hi
      rw [if_neg (by omega), if_neg (by omega)]
      exact ⟨rfl, rfl⟩
    · rw [if_pos (by omega)]
    · rw [if_pos (by omega)]
  · unfold cAdd
    simp only [hn, qup_ap, vup_ap, vcpy_ap, Nat.reduceEqDiff, if_true, if_false]
    refine ⟨?_, rfl, rfl⟩
    intro i hi
    have e : 1 + (i - 0) = i + 1 := by omega
    have e2 : ¬ i = 13 := by omega
    have e3 : 0 ≤ i ∧ i < 0 + 13 := by omega
    simp only [if_neg e2, if_pos e3, e]
    exact ⟨trivial, trivial⟩
theorem Rel_set {F : Nat → Nat → Int} (hR : Rel F) (k : Nat) (hk : k < 5) (b : Int) (hPB : PB (fun j => if j = k then b else F 24 j) (F 23 1)) : Rel (qup (pKeep (cAdd (qup F 24 k b) (k : Int) (F 24 k))) 89 k b) := by
  have hR0 := hR
  obtain ⟨hf, hT, hD, hP, hO, hK, hS, hG⟩ := hR
  have o1 := hO.1
  have o2 := hO.2.1
  have hX : (qup F 24 k b) 27 0 = F 27 0 := by rw [qup_ap, if_neg (by decide)]
  have hq : ∀ c j : Nat, c ≠ 24 → qup F 24 k b c j = F c j := fun c j h => congrFun (qup_c h) j
  have hp := cAdd_p (F := qup F 24 k b) (w := (k : Int)) (v := F 24 k) (by rw [hX]; exact o1.2)
  have e27 := cAdd_27 (qup F 24 k b) (k : Int) (F 24 k)
  rw [hX] at hp e27
  have hy : ∀ c : Nat, c ≠ 69 → c ≠ 89 → c ≠ 91 → (qup (pKeep (cAdd (qup F 24 k b) (k : Int) (F 24 k))) 89 k b) c = cAdd (qup F 24 k b) (k : Int) (F 24 k) c := by
    intro c h1 h2 h3
    funext j
    rw [qup_ap, if_neg h2, pKeep_c h1 h3]
  have hz : ∀ c j : Nat, c ≠ 27 → c ≠ 28 → c ≠ 29 → cAdd (qup F 24 k b) (k : Int) (F 24 k) c j = qup F 24 k b c j := by
    intro c j h1 h2 h3
    rw [cAdd_c h1 h2 h3]
  refine Rel_push hR0 k (by omega) ((Rf_pKeep (Rf_cAdd (hf.upA _ _ (by decide)))).upA _ _ (by decide)) ?_ ?_ ?_ ?_ ?_ ?_ ?_ ?_ ?_ ?_
  · intro c h1 h2 h3 h4 h5 h6 h7 h8
    rw [hy c h6 h7 h8, cAdd_c h3 h4 h5]
    exact qup_c (by assumption)
  · intro j h1 h2
    rw [qup_ap, if_neg (by decide), pKeep_69 h1 h2, hz _ _ (by decide) (by decide) (by decide), hq _ _ (by decide)]
  · refine ⟨?_, ?_, ?_⟩
    · rw [hy 24 (by decide) (by decide) (by decide), hy 23 (by decide) (by decide) (by decide), cAdd_c (by decide) (by decide) (by decide), cAdd_c (by decide) (by decide) (by decide)]
      unfold PB at hPB ⊢
      simp only [qup_ap, Nat.reduceEqDiff, if_true, if_false]
      exact hPB
    · intro k2 hk2
      rw [hy 24 (by decide) (by decide) (by decide), cAdd_c (by decide) (by decide) (by decide), qup_ap, qup_ap, if_pos rfl, if_pos rfl, pKeep_c (by decide) (by decide), cAdd_c (by decide) (by decide) (by decide), hq _ _ (by decide), hP.2.1 k2 hk2]
    · rw [hy 23 (by decide) (by decide) (by decide), cAdd_c (by decide) (by decide) (by decide), qup_ap, qup_ap, if_pos rfl, if_neg (by omega), if_neg (by decide), pKeep_c (by decide) (by decide), cAdd_c (by decide) (by decide) (by decide), hq _ _ (by decide), hP.2.2]
  · rw [hy 27 (by decide) (by decide) (by decide), e27]
  · rw [hy 27 (by decide) (by decide) (by decide), e27, qup_ap, if_neg (by decide), pKeep_31, hz _ _ (by decide) (by decide) (by decide), hq _ _ (by decide), o1.1]
  · rw [qup_ap, if_neg (by decide), pKeep_32, hz _ _ (by decide) (by decide) (by decide), hq _ _ (by decide)]
  · rw [hy 27 (by decide) (by decide) (by decide), hy 28 (by decide) (by decide) (by decide), hy 29 (by decide) (by decide) (by decide)]
    intro i hi
    have h := hp.1 i hi
    rw [hq _ _ (by decide), hq _ _ (by decide)] at h
    exact h
  · rw [hy 27 (by decide) (by decide) (by decide), hy 28 (by decide) (by decide) (by decide), hy 29 (by decide) (by decide) (by decide)]
    exact ⟨hp.2.1, by rw [hp.2.2]; exact (hP.2.1 k hk).symm⟩
  · intro r k2 hr hk2
    have e := hz 69 32 (by decide) (by decide) (by decide)
    rw [qup_ap, if_neg (by decide), pKeep_91 (by rw [e, hq _ _ (by decide)]; exact o2) r k2 hr hk2, e, hz _ _ (by decide) (by decide) (by decide), hz _ _ (by decide) (by decide) (by decide), hq _ _ (by decide), hq _ _ (by decide), hq _ _ (by decide)]
  · intro k2 hk2 hne
    rw [qup_ap, if_pos rfl, if_neg hne, pKeep_c (by decide) (by decide), hz _ _ (by decide) (by decide) (by decide), hq _ _ (by decide)]
theorem Rel_turn {F : Nat → Nat → Int} (hR : Rel F) (b : Int) (hb : 0 ≤ b ∧ b < 16) : Rel (qup (pKeep (cAdd (qup F 23 1 b) 5 (F 23 1))) 89 5 b) := by
  have hR0 := hR
  obtain ⟨hf, hT, hD, hP, hO, hK, hS, hG⟩ := hR
  have o1 := hO.1
  have o2 := hO.2.1
  have hX : (qup F 23 1 b) 27 0 = F 27 0 := by rw [qup_ap, if_neg (by decide)]
  have hq : ∀ c j : Nat, c ≠ 23 → qup F 23 1 b c j = F c j := fun c j h => congrFun (qup_c h) j
  have hp := cAdd_p (F := qup F 23 1 b) (w := 5) (v := F 23 1) (by rw [hX]; exact o1.2)
  have e27 := cAdd_27 (qup F 23 1 b) 5 (F 23 1)
  rw [hX] at hp e27
  have hy : ∀ c : Nat, c ≠ 69 → c ≠ 89 → c ≠ 91 → (qup (pKeep (cAdd (qup F 23 1 b) 5 (F 23 1))) 89 5 b) c = cAdd (qup F 23 1 b) 5 (F 23 1) c := by
    intro c h1 h2 h3
    funext j
    rw [qup_ap, if_neg h2, pKeep_c h1 h3]
  have hz : ∀ c j : Nat, c ≠ 27 → c ≠ 28 → c ≠ 29 → cAdd (qup F 23 1 b) 5 (F 23 1) c j = qup F 23 1 b c j := by
    intro c j h1 h2 h3
    rw [cAdd_c h1 h2 h3]
  refine Rel_push hR0 5 (by decide) ((Rf_pKeep (Rf_cAdd (hf.up (by decide)))).upA _ _ (by decide)) ?_ ?_ ?_ ?_ ?_ ?_ ?_ ?_ ?_ ?_
  · intro c h1 h2 h3 h4 h5 h6 h7 h8
    rw [hy c h6 h7 h8, cAdd_c h3 h4 h5]
    exact qup_c (by assumption)
  · intro j h1 h2
    rw [qup_ap, if_neg (by decide), pKeep_69 h1 h2, hz _ _ (by decide) (by decide) (by decide), hq _ _ (by decide)]
  · refine ⟨?_, ?_, ?_⟩
    · rw [hy 24 (by decide) (by decide) (by decide), hy 23 (by decide) (by decide) (by decide), cAdd_c (by decide) (by decide) (by decide), cAdd_c (by decide) (by decide) (by decide)]
      have hPB := hP.1
      unfold PB at hPB ⊢
      simp only [qup_ap, Nat.reduceEqDiff, if_true, if_false]
      exact ⟨hPB.1, hPB.2.1, hPB.2.2.1, hPB.2.2.2.1, hPB.2.2.2.2.1, hb.1, hb.2⟩
    · intro k2 hk2
      rw [hy 24 (by decide) (by decide) (by decide), cAdd_c (by decide) (by decide) (by decide), qup_ap, qup_ap, if_pos rfl, if_neg (by omega), if_neg (by decide), pKeep_c (by decide) (by decide), cAdd_c (by decide) (by decide) (by decide), hq _ _ (by decide), hP.2.1 k2 hk2]
    · rw [hy 23 (by decide) (by decide) (by decide), cAdd_c (by decide) (by decide) (by decide), qup_ap, qup_ap, if_pos rfl, if_pos rfl, if_pos rfl, if_pos rfl]
  · rw [hy 27 (by decide) (by decide) (by decide), e27]
  · rw [hy 27 (by decide) (by decide) (by decide), e27, qup_ap, if_neg (by decide), pKeep_31, hz _ _ (by decide) (by decide) (by decide), hq _ _ (by decide), o1.1]
  · rw [qup_ap, if_neg (by decide), pKeep_32, hz _ _ (by decide) (by decide) (by decide), hq _ _ (by decide)]
  · rw [hy 27 (by decide) (by decide) (by decide), hy 28 (by decide) (by decide) (by decide), hy 29 (by decide) (by decide) (by decide)]
    intro i hi
    have h := hp.1 i hi
    rw [hq _ _ (by decide), hq _ _ (by decide)] at h
    exact h
  · rw [hy 27 (by decide) (by decide) (by decide), hy 28 (by decide) (by decide) (by decide), hy 29 (by decide) (by decide) (by decide)]
    exact ⟨hp.2.1, by rw [hp.2.2]; exact hP.2.2.symm⟩
  · intro r k2 hr hk2
    have e := hz 69 32 (by decide) (by decide) (by decide)
    rw [qup_ap, if_neg (by decide), pKeep_91 (by rw [e, hq _ _ (by decide)]; exact o2) r k2 hr hk2, e, hz _ _ (by decide) (by decide) (by decide), hz _ _ (by decide) (by decide) (by decide), hq _ _ (by decide), hq _ _ (by decide), hq _ _ (by decide)]
  · intro k2 hk2 hne
    rw [qup_ap, if_pos rfl, if_neg hne, pKeep_c (by decide) (by decide), hz _ _ (by decide) (by decide) (by decide), hq _ _ (by decide)]
theorem H_set {L : Nat} {xs : Nat → Int} (F : Nat → Nat → Int) (a b : Int) (hR : Rel F) (ha : I32 a) (hb : I32 b) : qPair (qtab L xs) Rel 0 75 156 [(3, 0), (0, a), (0, b), (9, 0)] [(3, 69), (0, a), (0, b), (9, 0)] F := by
  apply qPair_of
  have hR0 := hR
  obtain ⟨hf, hT, hD, hP, hO, hK, hS, hG⟩ := hR
  have hr := Rf_k hf
  have hs : a < 0 ∨ a = 0 ∨ a = 1 ∨ a = 2 ∨ a = 3 ∨ a = 4 ∨ 4 < a := by omega
  have o1 := hO.1
  have o2 := hO.2.1
  have hPB := hP.1
  unfold PB at hPB
  rcases hs with hs | rfl | rfl | rfl | rfl | rfl | hs
  · simp only [hs, YK, c75, t75, c156, t156, c104, t104, c58, t58, c154, t154, cl104, cl58, cl154, cl155, cl32, tgK, lyK, rkK, wK, rfK, hr, qRes_eq, qNon_eq, qup_ap, vup_ap, vcpy_ap, kc8_0, kc8_1, kc8_2, lc_lt, lc_gt, lc_eq, Option.toList_some, Option.toList_none, List.cons_append, List.nil_append, lay_len, lay_sz, Nat.reduceAdd, Nat.reduceSub, Nat.reduceMul, Int.reduceToNat, Int.reduceLE, Int.reduceLT, Int.reduceEq, Int.reduceAdd, Int.reduceSub, Int.reduceMul, Int.reduceNeg, Nat.reduceLeDiff, Nat.reduceLT, true_and, and_true, false_and, and_false, qcat_0, qcat_1, qcat_3, qcat_9, Nat.reduceEqDiff, if_true, if_false, ite_self, or_true, true_or, or_false, false_or, forall_const, not_true_eq_false, not_false_eq_true, false_implies, implies_true, qtK0, qtK1, qtK2, qtK3, qtK4, List.getD_cons_zero, List.getD_cons_succ]
    exact hR0
  · by_cases hb1 : b < 1
    · simp only [hb1, YK, c75, t75, c156, t156, c104, t104, c58, t58, c154, t154, cl104, cl58, cl154, cl155, cl32, tgK, lyK, rkK, wK, rfK, hr, qRes_eq, qNon_eq, qup_ap, vup_ap, vcpy_ap, kc8_0, kc8_1, kc8_2, lc_lt, lc_gt, lc_eq, Option.toList_some, Option.toList_none, List.cons_append, List.nil_append, lay_len, lay_sz, Nat.reduceAdd, Nat.reduceSub, Nat.reduceMul, Int.reduceToNat, Int.reduceLE, Int.reduceLT, Int.reduceEq, Int.reduceAdd, Int.reduceSub, Int.reduceMul, Int.reduceNeg, Nat.reduceLeDiff, Nat.reduceLT, true_and, and_true, false_and, and_false, qcat_0, qcat_1, qcat_3, qcat_9, Nat.reduceEqDiff, if_true, if_false, ite_self, or_true, true_or, or_false, false_or, forall_const, not_true_eq_false, not_false_eq_true, false_implies, implies_true, qtK0, qtK1, qtK2, qtK3, qtK4, List.getD_cons_zero, List.getD_cons_succ]
      exact hR0
    · by_cases hb2 : 4 < b
      · simp only [hb1, hb2, YK, c75, t75, c156, t156, c104, t104, c58, t58, c154, t154, cl104, cl58, cl154, cl155, cl32, tgK, lyK, rkK, wK, rfK, hr, qRes_eq, qNon_eq, qup_ap, vup_ap, vcpy_ap, kc8_0, kc8_1, kc8_2, lc_lt, lc_gt, lc_eq, Option.toList_some, Option.toList_none, List.cons_append, List.nil_append, lay_len, lay_sz, Nat.reduceAdd, Nat.reduceSub, Nat.reduceMul, Int.reduceToNat, Int.reduceLE, Int.reduceLT, Int.reduceEq, Int.reduceAdd, Int.reduceSub, Int.reduceMul, Int.reduceNeg, Nat.reduceLeDiff, Nat.reduceLT, true_and, and_true, false_and, and_false, qcat_0, qcat_1, qcat_3, qcat_9, Nat.reduceEqDiff, if_true, if_false, ite_self, or_true, true_or, or_false, false_or, forall_const, not_true_eq_false, not_false_eq_true, false_implies, implies_true, qtK0, qtK1, qtK2, qtK3, qtK4, List.getD_cons_zero, List.getD_cons_succ]
        exact hR0
      · simp only [hb1, hb2, YK, c75, t75, c156, t156, c104, t104, c58, t58, c154, t154, cl104, cl58, cl154, cl155, cl32, tgK, lyK, rkK, wK, rfK, hr, qRes_eq, qNon_eq, qup_ap, vup_ap, vcpy_ap, kc8_0, kc8_1, kc8_2, lc_lt, lc_gt, lc_eq, Option.toList_some, Option.toList_none, List.cons_append, List.nil_append, lay_len, lay_sz, Nat.reduceAdd, Nat.reduceSub, Nat.reduceMul, Int.reduceToNat, Int.reduceLE, Int.reduceLT, Int.reduceEq, Int.reduceAdd, Int.reduceSub, Int.reduceMul, Int.reduceNeg, Nat.reduceLeDiff, Nat.reduceLT, true_and, and_true, false_and, and_false, qcat_0, qcat_1, qcat_3, qcat_9, Nat.reduceEqDiff, if_true, if_false, ite_self, or_true, true_or, or_false, false_or, forall_const, not_true_eq_false, not_false_eq_true, false_implies, implies_true, qtK0, qtK1, qtK2, qtK3, qtK4, List.getD_cons_zero, List.getD_cons_succ]
        refine k32 _ _ (hf.upA _ _ (by decide)) o1.2 ?_
        simp only [hb1, hb2, lc3_a, lc3_b, cAdd_c, ne_eq, YK, c75, t75, c156, t156, c104, t104, c58, t58, c154, t154, cl104, cl58, cl154, cl155, cl32, tgK, lyK, rkK, wK, rfK, hr, qRes_eq, qNon_eq, qup_ap, vup_ap, vcpy_ap, kc8_0, kc8_1, kc8_2, lc_lt, lc_gt, lc_eq, Option.toList_some, Option.toList_none, List.cons_append, List.nil_append, lay_len, lay_sz, Nat.reduceAdd, Nat.reduceSub, Nat.reduceMul, Int.reduceToNat, Int.reduceLE, Int.reduceLT, Int.reduceEq, Int.reduceAdd, Int.reduceSub, Int.reduceMul, Int.reduceNeg, Nat.reduceLeDiff, Nat.reduceLT, true_and, and_true, false_and, and_false, qcat_0, qcat_1, qcat_3, qcat_9, Nat.reduceEqDiff, if_true, if_false, ite_self, or_true, true_or, or_false, false_or, forall_const, not_true_eq_false, not_false_eq_true, false_implies, implies_true, qtK0, qtK1, qtK2, qtK3, qtK4, List.getD_cons_zero, List.getD_cons_succ]
        refine k155 (Rf_cAdd (hf.upA _ _ (by decide))) ?_ ?_ ?_
        · simp only [cAdd_c, ne_eq, qup_ap, vup_ap, vcpy_ap, Nat.reduceEqDiff, if_true, if_false, Nat.reduceEqDiff, not_false_eq_true]; omega
        · simp only [cAdd_c, ne_eq, qup_ap, vup_ap, vcpy_ap, Nat.reduceEqDiff, if_true, if_false, Nat.reduceEqDiff, not_false_eq_true]; omega
        simp only [pKeep_c, pKeep_69, cAdd_c, ne_eq, YK, c75, t75, c156, t156, c104, t104, c58, t58, c154, t154, cl104, cl58, cl154, cl155, cl32, tgK, lyK, rkK, wK, rfK, hr, qRes_eq, qNon_eq, qup_ap, vup_ap, vcpy_ap, kc8_0, kc8_1, kc8_2, lc_lt, lc_gt, lc_eq, Option.toList_some, Option.toList_none, List.cons_append, List.nil_append, lay_len, lay_sz, Nat.reduceAdd, Nat.reduceSub, Nat.reduceMul, Int.reduceToNat, Int.reduceLE, Int.reduceLT, Int.reduceEq, Int.reduceAdd, Int.reduceSub, Int.reduceMul, Int.reduceNeg, Nat.reduceLeDiff, Nat.reduceLT, true_and, and_true, false_and, and_false, qcat_0, qcat_1, qcat_3, qcat_9, Nat.reduceEqDiff, if_true, if_false, ite_self, or_true, true_or, or_false, false_or, forall_const, not_true_eq_false, not_false_eq_true, false_implies, implies_true, qtK0, qtK1, qtK2, qtK3, qtK4, List.getD_cons_zero, List.getD_cons_succ]
        refine ⟨hP.2.1 0 (by decide), Rel_set hR0 0 (by decide) b ?_⟩
        unfold PB
        simp only [Nat.reduceEqDiff, if_true, if_false]
        omega
  · by_cases hb1 : b < 0
    · simp only [hb1, YK, c75, t75, c156, t156, c104, t104, c58, t58, c154, t154, cl104, cl58, cl154, cl155, cl32, tgK, lyK, rkK, wK, rfK, hr, qRes_eq, qNon_eq, qup_ap, vup_ap, vcpy_ap, kc8_0, kc8_1, kc8_2, lc_lt, lc_gt, lc_eq, Option.toList_some, Option.toList_none, List.cons_append, List.nil_append, lay_len, lay_sz, Nat.reduceAdd, Nat.reduceSub, Nat.reduceMul, Int.reduceToNat, Int.reduceLE, Int.reduceLT, Int.reduceEq, Int.reduceAdd, Int.reduceSub, Int.reduceMul, Int.reduceNeg, Nat.reduceLeDiff, Nat.reduceLT, true_and, and_true, false_and, and_false, qcat_0, qcat_1, qcat_3, qcat_9, Nat.reduceEqDiff, if_true, if_false, ite_self, or_true, true_or, or_false, false_or, forall_const, not_true_eq_false, not_false_eq_true, false_implies, implies_true, qtK0, qtK1, qtK2, qtK3, qtK4, List.getD_cons_zero, List.getD_cons_succ]
      exact hR0
    · by_cases hb2 : 8 < b
      · simp only [hb1, hb2, YK, c75, t75, c156, t156, c104, t104, c58, t58, c154, t154, cl104, cl58, cl154, cl155, cl32, tgK, lyK, rkK, wK, rfK, hr, qRes_eq, qNon_eq, qup_ap, vup_ap, vcpy_ap, kc8_0, kc8_1, kc8_2, lc_lt, lc_gt, lc_eq, Option.toList_some, Option.toList_none, List.cons_append, List.nil_append, lay_len, lay_sz, Nat.reduceAdd, Nat.reduceSub, Nat.reduceMul, Int.reduceToNat, Int.reduceLE, Int.reduceLT, Int.reduceEq, Int.reduceAdd, Int.reduceSub, Int.reduceMul, Int.reduceNeg, Nat.reduceLeDiff, Nat.reduceLT, true_and, and_true, false_and, and_false, qcat_0, qcat_1, qcat_3, qcat_9, Nat.reduceEqDiff, if_true, if_false, ite_self, or_true, true_or, or_false, false_or, forall_const, not_true_eq_false, not_false_eq_true, false_implies, implies_true, qtK0, qtK1, qtK2, qtK3, qtK4, List.getD_cons_zero, List.getD_cons_succ]
        exact hR0
      · simp only [hb1, hb2, YK, c75, t75, c156, t156, c104, t104, c58, t58, c154, t154, cl104, cl58, cl154, cl155, cl32, tgK, lyK, rkK, wK, rfK, hr, qRes_eq, qNon_eq, qup_ap, vup_ap, vcpy_ap, kc8_0, kc8_1, kc8_2, lc_lt, lc_gt, lc_eq, Option.toList_some, Option.toList_none, List.cons_append, List.nil_append, lay_len, lay_sz, Nat.reduceAdd, Nat.reduceSub, Nat.reduceMul, Int.reduceToNat, Int.reduceLE, Int.reduceLT, Int.reduceEq, Int.reduceAdd, Int.reduceSub, Int.reduceMul, Int.reduceNeg, Nat.reduceLeDiff, Nat.reduceLT, true_and, and_true, false_and, and_false, qcat_0, qcat_1, qcat_3, qcat_9, Nat.reduceEqDiff, if_true, if_false, ite_self, or_true, true_or, or_false, false_or, forall_const, not_true_eq_false, not_false_eq_true, false_implies, implies_true, qtK0, qtK1, qtK2, qtK3, qtK4, List.getD_cons_zero, List.getD_cons_succ]
        refine k32 _ _ (hf.upA _ _ (by decide)) o1.2 ?_
        simp only [hb1, hb2, lc3_a, lc3_b, cAdd_c, ne_eq, YK, c75, t75, c156, t156, c104, t104, c58, t58, c154, t154, cl104, cl58, cl154, cl155, cl32, tgK, lyK, rkK, wK, rfK, hr, qRes_eq, qNon_eq, qup_ap, vup_ap, vcpy_ap, kc8_0, kc8_1, kc8_2, lc_lt, lc_gt, lc_eq, Option.toList_some, Option.toList_none, List.cons_append, List.nil_append, lay_len, lay_sz, Nat.reduceAdd, Nat.reduceSub, Nat.reduceMul, Int.reduceToNat, Int.reduceLE, Int.reduceLT, Int.reduceEq, Int.reduceAdd, Int.reduceSub, Int.reduceMul, Int.reduceNeg, Nat.reduceLeDiff, Nat.reduceLT, true_and, and_true, false_and, and_false, qcat_0, qcat_1, qcat_3, qcat_9, Nat.reduceEqDiff, if_true, if_false, ite_self, or_true, true_or, or_false, false_or, forall_const, not_true_eq_false, not_false_eq_true, false_implies, implies_true, qtK0, qtK1, qtK2, qtK3, qtK4, List.getD_cons_zero, List.getD_cons_succ]
        refine k155 (Rf_cAdd (hf.upA _ _ (by decide))) ?_ ?_ ?_
        · simp only [cAdd_c, ne_eq, qup_ap, vup_ap, vcpy_ap, Nat.reduceEqDiff, if_true, if_false, Nat.reduceEqDiff, not_false_eq_true]; omega
        · simp only [cAdd_c, ne_eq, qup_ap, vup_ap, vcpy_ap, Nat.reduceEqDiff, if_true, if_false, Nat.reduceEqDiff, not_false_eq_true]; omega
        simp only [pKeep_c, pKeep_69, cAdd_c, ne_eq, YK, c75, t75, c156, t156, c104, t104, c58, t58, c154, t154, cl104, cl58, cl154, cl155, cl32, tgK, lyK, rkK, wK, rfK, hr, qRes_eq, qNon_eq, qup_ap, vup_ap, vcpy_ap, kc8_0, kc8_1, kc8_2, lc_lt, lc_gt, lc_eq, Option.toList_some, Option.toList_none, List.cons_append, List.nil_append, lay_len, lay_sz, Nat.reduceAdd, Nat.reduceSub, Nat.reduceMul, Int.reduceToNat, Int.reduceLE, Int.reduceLT, Int.reduceEq, Int.reduceAdd, Int.reduceSub, Int.reduceMul, Int.reduceNeg, Nat.reduceLeDiff, Nat.reduceLT, true_and, and_true, false_and, and_false, qcat_0, qcat_1, qcat_3, qcat_9, Nat.reduceEqDiff, if_true, if_false, ite_self, or_true, true_or, or_false, false_or, forall_const, not_true_eq_false, not_false_eq_true, false_implies, implies_true, qtK0, qtK1, qtK2, qtK3, qtK4, List.getD_cons_zero, List.getD_cons_succ]
        refine ⟨hP.2.1 1 (by decide), Rel_set hR0 1 (by decide) b ?_⟩
        unfold PB
        simp only [Nat.reduceEqDiff, if_true, if_false]
        omega
  · by_cases hb1 : b < 0
    · simp only [hb1, YK, c75, t75, c156, t156, c104, t104, c58, t58, c154, t154, cl104, cl58, cl154, cl155, cl32, tgK, lyK, rkK, wK, rfK, hr, qRes_eq, qNon_eq, qup_ap, vup_ap, vcpy_ap, kc8_0, kc8_1, kc8_2, lc_lt, lc_gt, lc_eq, Option.toList_some, Option.toList_none, List.cons_append, List.nil_append, lay_len, lay_sz, Nat.reduceAdd, Nat.reduceSub, Nat.reduceMul, Int.reduceToNat, Int.reduceLE, Int.reduceLT, Int.reduceEq, Int.reduceAdd, Int.reduceSub, Int.reduceMul, Int.reduceNeg, Nat.reduceLeDiff, Nat.reduceLT, true_and, and_true, false_and, and_false, qcat_0, qcat_1, qcat_3, qcat_9, Nat.reduceEqDiff, if_true, if_false, ite_self, or_true, true_or, or_false, false_or, forall_const, not_true_eq_false, not_false_eq_true, false_implies, implies_true, qtK0, qtK1, qtK2, qtK3, qtK4, List.getD_cons_zero, List.getD_cons_succ]
      exact hR0
    · by_cases hb2 : 2 < b
      · simp only [hb1, hb2, YK, c75, t75, c156, t156, c104, t104, c58, t58, c154, t154, cl104, cl58, cl154, cl155, cl32, tgK, lyK, rkK, wK, rfK, hr, qRes_eq, qNon_eq, qup_ap, vup_ap, vcpy_ap, kc8_0, kc8_1, kc8_2, lc_lt, lc_gt, lc_eq, Option.toList_some, Option.toList_none, List.cons_append, List.nil_append, lay_len, lay_sz, Nat.reduceAdd, Nat.reduceSub, Nat.reduceMul, Int.reduceToNat, Int.reduceLE, Int.reduceLT, Int.reduceEq, Int.reduceAdd, Int.reduceSub, Int.reduceMul, Int.reduceNeg, Nat.reduceLeDiff, Nat.reduceLT, true_and, and_true, false_and, and_false, qcat_0, qcat_1, qcat_3, qcat_9, Nat.reduceEqDiff, if_true, if_false, ite_self, or_true, true_or, or_false, false_or, forall_const, not_true_eq_false, not_false_eq_true, false_implies, implies_true, qtK0, qtK1, qtK2, qtK3, qtK4, List.getD_cons_zero, List.getD_cons_succ]
        exact hR0
      · simp only [hb1, hb2, YK, c75, t75, c156, t156, c104, t104, c58, t58, c154, t154, cl104, cl58, cl154, cl155, cl32, tgK, lyK, rkK, wK, rfK, hr, qRes_eq, qNon_eq, qup_ap, vup_ap, vcpy_ap, kc8_0, kc8_1, kc8_2, lc_lt, lc_gt, lc_eq, Option.toList_some, Option.toList_none, List.cons_append, List.nil_append, lay_len, lay_sz, Nat.reduceAdd, Nat.reduceSub, Nat.reduceMul, Int.reduceToNat, Int.reduceLE, Int.reduceLT, Int.reduceEq, Int.reduceAdd, Int.reduceSub, Int.reduceMul, Int.reduceNeg, Nat.reduceLeDiff, Nat.reduceLT, true_and, and_true, false_and, and_false, qcat_0, qcat_1, qcat_3, qcat_9, Nat.reduceEqDiff, if_true, if_false, ite_self, or_true, true_or, or_false, false_or, forall_const, not_true_eq_false, not_false_eq_true, false_implies, implies_true, qtK0, qtK1, qtK2, qtK3, qtK4, List.getD_cons_zero, List.getD_cons_succ]
        refine k32 _ _ (hf.upA _ _ (by decide)) o1.2 ?_
        simp only [hb1, hb2, lc3_a, lc3_b, cAdd_c, ne_eq, YK, c75, t75, c156, t156, c104, t104, c58, t58, c154, t154, cl104, cl58, cl154, cl155, cl32, tgK, lyK, rkK, wK, rfK, hr, qRes_eq, qNon_eq, qup_ap, vup_ap, vcpy_ap, kc8_0, kc8_1, kc8_2, lc_lt, lc_gt, lc_eq, Option.toList_some, Option.toList_none, List.cons_append, List.nil_append, lay_len, lay_sz, Nat.reduceAdd, Nat.reduceSub, Nat.reduceMul, Int.reduceToNat, Int.reduceLE, Int.reduceLT, Int.reduceEq, Int.reduceAdd, Int.reduceSub, Int.reduceMul, Int.reduceNeg, Nat.reduceLeDiff, Nat.reduceLT, true_and, and_true, false_and, and_false, qcat_0, qcat_1, qcat_3, qcat_9, Nat.reduceEqDiff, if_true, if_false, ite_self, or_true, true_or, or_false, false_or, forall_const, not_true_eq_false, not_false_eq_true, false_implies, implies_true, qtK0, qtK1, qtK2, qtK3, qtK4, List.getD_cons_zero, List.getD_cons_succ]
        refine k155 (Rf_cAdd (hf.upA _ _ (by decide))) ?_ ?_ ?_
        · simp only [cAdd_c, ne_eq, qup_ap, vup_ap, vcpy_ap, Nat.reduceEqDiff, if_true, if_false, Nat.reduceEqDiff, not_false_eq_true]; omega
        · simp only [cAdd_c, ne_eq, qup_ap, vup_ap, vcpy_ap, Nat.reduceEqDiff, if_true, if_false, Nat.reduceEqDiff, not_false_eq_true]; omega
        simp only [pKeep_c, pKeep_69, cAdd_c, ne_eq, YK, c75, t75, c156, t156, c104, t104, c58, t58, c154, t154, cl104, cl58, cl154, cl155, cl32, tgK, lyK, rkK, wK, rfK, hr, qRes_eq, qNon_eq, qup_ap, vup_ap, vcpy_ap, kc8_0, kc8_1, kc8_2, lc_lt, lc_gt, lc_eq, Option.toList_some, Option.toList_none, List.cons_append, List.nil_append, lay_len, lay_sz, Nat.reduceAdd, Nat.reduceSub, Nat.reduceMul, Int.reduceToNat, Int.reduceLE, Int.reduceLT, Int.reduceEq, Int.reduceAdd, Int.reduceSub, Int.reduceMul, Int.reduceNeg, Nat.reduceLeDiff, Nat.reduceLT, true_and, and_true, false_and, and_false, qcat_0, qcat_1, qcat_3, qcat_9, Nat.reduceEqDiff, if_true, if_false, ite_self, or_true, true_or, or_false, false_or, forall_const, not_true_eq_false, not_false_eq_true, false_implies, implies_true, qtK0, qtK1, qtK2, qtK3, qtK4, List.getD_cons_zero, List.getD_cons_succ]
        refine ⟨hP.2.1 2 (by decide), Rel_set hR0 2 (by decide) b ?_⟩
        unfold PB
        simp only [Nat.reduceEqDiff, if_true, if_false]
        omega
  · by_cases hb1 : b < 0
    · simp only [hb1, YK, c75, t75, c156, t156, c104, t104, c58, t58, c154, t154, cl104, cl58, cl154, cl155, cl32, tgK, lyK, rkK, wK, rfK, hr, qRes_eq, qNon_eq, qup_ap, vup_ap, vcpy_ap, kc8_0, kc8_1, kc8_2, lc_lt, lc_gt, lc_eq, Option.toList_some, Option.toList_none, List.cons_append, List.nil_append, lay_len, lay_sz, Nat.reduceAdd, Nat.reduceSub, Nat.reduceMul, Int.reduceToNat, Int.reduceLE, Int.reduceLT, Int.reduceEq, Int.reduceAdd, Int.reduceSub, Int.reduceMul, Int.reduceNeg, Nat.reduceLeDiff, Nat.reduceLT, true_and, and_true, false_and, and_false, qcat_0, qcat_1, qcat_3, qcat_9, Nat.reduceEqDiff, if_true, if_false, ite_self, or_true, true_or, or_false, false_or, forall_const, not_true_eq_false, not_false_eq_true, false_implies, implies_true, qtK0, qtK1, qtK2, qtK3, qtK4, List.getD_cons_zero, List.getD_cons_succ]
      exact hR0
    · by_cases hb2 : 3 < b
      · simp only [hb1, hb2, YK, c75, t75, c156, t156, c104, t104, c58, t58, c154, t154, cl104, cl58, cl154, cl155, cl32, tgK, lyK, rkK, wK, rfK, hr, qRes_eq, qNon_eq, qup_ap, vup_ap, vcpy_ap, kc8_0, kc8_1, kc8_2, lc_lt, lc_gt, lc_eq, Option.toList_some, Option.toList_none, List.cons_append, List.nil_append, lay_len, lay_sz, Nat.reduceAdd, Nat.reduceSub, Nat.reduceMul, Int.reduceToNat, Int.reduceLE, Int.reduceLT, Int.reduceEq, Int.reduceAdd, Int.reduceSub, Int.reduceMul, Int.reduceNeg, Nat.reduceLeDiff, Nat.reduceLT, true_and, and_true, false_and, and_false, qcat_0, qcat_1, qcat_3, qcat_9, Nat.reduceEqDiff, if_true, if_false, ite_self, or_true, true_or, or_false, false_or, forall_const, not_true_eq_false, not_false_eq_true, false_implies, implies_true, qtK0, qtK1, qtK2, qtK3, qtK4, List.getD_cons_zero, List.getD_cons_succ]
        exact hR0
      · simp only [hb1, hb2, YK, c75, t75, c156, t156, c104, t104, c58, t58, c154, t154, cl104, cl58, cl154, cl155, cl32, tgK, lyK, rkK, wK, rfK, hr, qRes_eq, qNon_eq, qup_ap, vup_ap, vcpy_ap, kc8_0, kc8_1, kc8_2, lc_lt, lc_gt, lc_eq, Option.toList_some, Option.toList_none, List.cons_append, List.nil_append, lay_len, lay_sz, Nat.reduceAdd, Nat.reduceSub, Nat.reduceMul, Int.reduceToNat, Int.reduceLE, Int.reduceLT, Int.reduceEq, Int.reduceAdd, Int.reduceSub, Int.reduceMul, Int.reduceNeg, Nat.reduceLeDiff, Nat.reduceLT, true_and, and_true, false_and, and_false, qcat_0, qcat_1, qcat_3, qcat_9, Nat.reduceEqDiff, if_true, if_false, ite_self, or_true, true_or, or_false, false_or, forall_const, not_true_eq_false, not_false_eq_true, false_implies, implies_true, qtK0, qtK1, qtK2, qtK3, qtK4, List.getD_cons_zero, List.getD_cons_succ]
        refine k32 _ _ (hf.upA _ _ (by decide)) o1.2 ?_
        simp only [hb1, hb2, lc3_a, lc3_b, cAdd_c, ne_eq, YK, c75, t75, c156, t156, c104, t104, c58, t58, c154, t154, cl104, cl58, cl154, cl155, cl32, tgK, lyK, rkK, wK, rfK, hr, qRes_eq, qNon_eq, qup_ap, vup_ap, vcpy_ap, kc8_0, kc8_1, kc8_2, lc_lt, lc_gt, lc_eq, Option.toList_some, Option.toList_none, List.cons_append, List.nil_append, lay_len, lay_sz, Nat.reduceAdd, Nat.reduceSub, Nat.reduceMul, Int.reduceToNat, Int.reduceLE, Int.reduceLT, Int.reduceEq, Int.reduceAdd, Int.reduceSub, Int.reduceMul, Int.reduceNeg, Nat.reduceLeDiff, Nat.reduceLT, true_and, and_true, false_and, and_false, qcat_0, qcat_1, qcat_3, qcat_9, Nat.reduceEqDiff, if_true, if_false, ite_self, or_true, true_or, or_false, false_or, forall_const, not_true_eq_false, not_false_eq_true, false_implies, implies_true, qtK0, qtK1, qtK2, qtK3, qtK4, List.getD_cons_zero, List.getD_cons_succ]
        refine k155 (Rf_cAdd (hf.upA _ _ (by decide))) ?_ ?_ ?_
        · simp only [cAdd_c, ne_eq, qup_ap, vup_ap, vcpy_ap, Nat.reduceEqDiff, if_true, if_false, Nat.reduceEqDiff, not_false_eq_true]; omega
        · simp only [cAdd_c, ne_eq, qup_ap, vup_ap, vcpy_ap, Nat.reduceEqDiff, if_true, if_false, Nat.reduceEqDiff, not_false_eq_true]; omega
        simp only [pKeep_c, pKeep_69, cAdd_c, ne_eq, YK, c75, t75, c156, t156, c104, t104, c58, t58, c154, t154, cl104, cl58, cl154, cl155, cl32, tgK, lyK, rkK, wK, rfK, hr, qRes_eq, qNon_eq, qup_ap, vup_ap, vcpy_ap, kc8_0, kc8_1, kc8_2, lc_lt, lc_gt, lc_eq, Option.toList_some, Option.toList_none, List.cons_append, List.nil_append, lay_len, lay_sz, Nat.reduceAdd, Nat.reduceSub, Nat.reduceMul, Int.reduceToNat, Int.reduceLE, Int.reduceLT, Int.reduceEq, Int.reduceAdd, Int.reduceSub, Int.reduceMul, Int.reduceNeg, Nat.reduceLeDiff, Nat.reduceLT, true_and, and_true, false_and, and_false, qcat_0, qcat_1, qcat_3, qcat_9, Nat.reduceEqDiff, if_true, if_false, ite_self, or_true, true_or, or_false, false_or, forall_const, not_true_eq_false, not_false_eq_true, false_implies, implies_true, qtK0, qtK1, qtK2, qtK3, qtK4, List.getD_cons_zero, List.getD_cons_succ]
        refine ⟨hP.2.1 3 (by decide), Rel_set hR0 3 (by decide) b ?_⟩
        unfold PB
        simp only [Nat.reduceEqDiff, if_true, if_false]
        omega
  · by_cases hb1 : b < 0
    · simp only [hb1, YK, c75, t75, c156, t156, c104, t104, c58, t58, c154, t154, cl104, cl58, cl154, cl155, cl32, tgK, lyK, rkK, wK, rfK, hr, qRes_eq, qNon_eq, qup_ap, vup_ap, vcpy_ap, kc8_0, kc8_1, kc8_2, lc_lt, lc_gt, lc_eq, Option.toList_some, Option.toList_none, List.cons_append, List.nil_append, lay_len, lay_sz, Nat.reduceAdd, Nat.reduceSub, Nat.reduceMul, Int.reduceToNat, Int.reduceLE, Int.reduceLT, Int.reduceEq, Int.reduceAdd, Int.reduceSub, Int.reduceMul, Int.reduceNeg, Nat.reduceLeDiff, Nat.reduceLT, true_and, and_true, false_and, and_false, qcat_0, qcat_1, qcat_3, qcat_9, Nat.reduceEqDiff, if_true, if_false, ite_self, or_true, true_or, or_false, false_or, forall_const, not_true_eq_false, not_false_eq_true, false_implies, implies_true, qtK0, qtK1, qtK2, qtK3, qtK4, List.getD_cons_zero, List.getD_cons_succ]
      exact hR0
    · by_cases hb2 : 2 < b
      · simp only [hb1, hb2, YK, c75, t75, c156, t156, c104, t104, c58, t58, c154, t154, cl104, cl58, cl154, cl155, cl32, tgK, lyK, rkK, wK, rfK, hr, qRes_eq, qNon_eq, qup_ap, vup_ap, vcpy_ap, kc8_0, kc8_1, kc8_2, lc_lt, lc_gt, lc_eq, Option.toList_some, Option.toList_none, List.cons_append, List.nil_append, lay_len, lay_sz, Nat.reduceAdd, Nat.reduceSub, Nat.reduceMul, Int.reduceToNat, Int.reduceLE, Int.reduceLT, Int.reduceEq, Int.reduceAdd, Int.reduceSub, Int.reduceMul, Int.reduceNeg, Nat.reduceLeDiff, Nat.reduceLT, true_and, and_true, false_and, and_false, qcat_0, qcat_1, qcat_3, qcat_9, Nat.reduceEqDiff, if_true, if_false, ite_self, or_true, true_or, or_false, false_or, forall_const, not_true_eq_false, not_false_eq_true, false_implies, implies_true, qtK0, qtK1, qtK2, qtK3, qtK4, List.getD_cons_zero, List.getD_cons_succ]
        exact hR0
      · simp only [hb1, hb2, YK, c75, t75, c156, t156, c104, t104, c58, t58, c154, t154, cl104, cl58, cl154, cl155, cl32, tgK, lyK, rkK, wK, rfK, hr, qRes_eq, qNon_eq, qup_ap, vup_ap, vcpy_ap, kc8_0, kc8_1, kc8_2, lc_lt, lc_gt, lc_eq, Option.toList_some, Option.toList_none, List.cons_append, List.nil_append, lay_len, lay_sz, Nat.reduceAdd, Nat.reduceSub, Nat.reduceMul, Int.reduceToNat, Int.reduceLE, Int.reduceLT, Int.reduceEq, Int.reduceAdd, Int.reduceSub, Int.reduceMul, Int.reduceNeg, Nat.reduceLeDiff, Nat.reduceLT, true_and, and_true, false_and, and_false, qcat_0, qcat_1, qcat_3, qcat_9, Nat.reduceEqDiff, if_true, if_false, ite_self, or_true, true_or, or_false, false_or, forall_const, not_true_eq_false, not_false_eq_true, false_implies, implies_true, qtK0, qtK1, qtK2, qtK3, qtK4, List.getD_cons_zero, List.getD_cons_succ]
        refine k32 _ _ (hf.upA _ _ (by decide)) o1.2 ?_
        simp only [hb1, hb2, lc3_a, lc3_b, cAdd_c, ne_eq, YK, c75, t75, c156, t156, c104, t104, c58, t58, c154, t154, cl104, cl58, cl154, cl155, cl32, tgK, lyK, rkK, wK, rfK, hr, qRes_eq, qNon_eq, qup_ap, vup_ap, vcpy_ap, kc8_0, kc8_1, kc8_2, lc_lt, lc_gt, lc_eq, Option.toList_some, Option.toList_none, List.cons_append, List.nil_append, lay_len, lay_sz, Nat.reduceAdd, Nat.reduceSub, Nat.reduceMul, Int.reduceToNat, Int.reduceLE, Int.reduceLT, Int.reduceEq, Int.reduceAdd, Int.reduceSub, Int.reduceMul, Int.reduceNeg, Nat.reduceLeDiff, Nat.reduceLT, true_and, and_true, false_and, and_false, qcat_0, qcat_1, qcat_3, qcat_9, Nat.reduceEqDiff, if_true, if_false, ite_self, or_true, true_or, or_false, false_or, forall_const, not_true_eq_false, not_false_eq_true, false_implies, implies_true, qtK0, qtK1, qtK2, qtK3, qtK4, List.getD_cons_zero, List.getD_cons_succ]
        refine k155 (Rf_cAdd (hf.upA _ _ (by decide))) ?_ ?_ ?_
        · simp only [cAdd_c, ne_eq, qup_ap, vup_ap, vcpy_ap, Nat.reduceEqDiff, if_true, if_false, Nat.reduceEqDiff, not_false_eq_true]; omega
        · simp only [cAdd_c, ne_eq, qup_ap, vup_ap, vcpy_ap, Nat.reduceEqDiff, if_true, if_false, Nat.reduceEqDiff, not_false_eq_true]; omega
        simp only [pKeep_c, pKeep_69, cAdd_c, ne_eq, YK, c75, t75, c156, t156, c104, t104, c58, t58, c154, t154, cl104, cl58, cl154, cl155, cl32, tgK, lyK, rkK, wK, rfK, hr, qRes_eq, qNon_eq, qup_ap, vup_ap, vcpy_ap, kc8_0, kc8_1, kc8_2, lc_lt, lc_gt, lc_eq, Option.toList_some, Option.toList_none, List.cons_append, List.nil_append, lay_len, lay_sz, Nat.reduceAdd, Nat.reduceSub, Nat.reduceMul, Int.reduceToNat, Int.reduceLE, Int.reduceLT, Int.reduceEq, Int.reduceAdd, Int.reduceSub, Int.reduceMul, Int.reduceNeg, Nat.reduceLeDiff, Nat.reduceLT, true_and, and_true, false_and, and_false, qcat_0, qcat_1, qcat_3, qcat_9, Nat.reduceEqDiff, if_true, if_false, ite_self, or_true, true_or, or_false, false_or, forall_const, not_true_eq_false, not_false_eq_true, false_implies, implies_true, qtK0, qtK1, qtK2, qtK3, qtK4, List.getD_cons_zero, List.getD_cons_succ]
        refine ⟨hP.2.1 4 (by decide), Rel_set hR0 4 (by decide) b ?_⟩
        unfold PB
        simp only [Nat.reduceEqDiff, if_true, if_false]
        omega
  · have hs2 : ¬ a < 0 := by omega
    have hs3 : ¬ a < 5 := by omega
    simp only [hs, hs2, hs3, YK, c75, t75, c156, t156, c104, t104, c58, t58, c154, t154, cl104, cl58, cl154, cl155, cl32, tgK, lyK, rkK, wK, rfK, hr, qRes_eq, qNon_eq, qup_ap, vup_ap, vcpy_ap, kc8_0, kc8_1, kc8_2, lc_lt, lc_gt, lc_eq, Option.toList_some, Option.toList_none, List.cons_append, List.nil_append, lay_len, lay_sz, Nat.reduceAdd, Nat.reduceSub, Nat.reduceMul, Int.reduceToNat, Int.reduceLE, Int.reduceLT, Int.reduceEq, Int.reduceAdd, Int.reduceSub, Int.reduceMul, Int.reduceNeg, Nat.reduceLeDiff, Nat.reduceLT, true_and, and_true, false_and, and_false, qcat_0, qcat_1, qcat_3, qcat_9, Nat.reduceEqDiff, if_true, if_false, ite_self, or_true, true_or, or_false, false_or, forall_const, not_true_eq_false, not_false_eq_true, false_implies, implies_true, qtK0, qtK1, qtK2, qtK3, qtK4, List.getD_cons_zero, List.getD_cons_succ]
    exact hR0
