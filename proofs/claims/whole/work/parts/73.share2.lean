/-! the pair share -/
theorem d97a (tb : qTb) (lim : Nat × Nat) (R : Option qV → qM → Prop) (ls st : List qV) (M : qM) : qW tb 97 lim 14 ls st M R = qy tb 97 lim R (14, .istore_n 3, 1, 0, 0, 0) ls st M ∧ qW tb 97 lim 15 ls st M R = qy tb 97 lim R (15, .iload_n 0, 1, 0, 0, 0) ls st M ∧ qW tb 97 lim 16 ls st M R = qy tb 97 lim R (16, .invokestatic 196, 3, 179, 1, 1) ls st M ∧ qW tb 97 lim 19 ls st M R = qy tb 97 lim R (19, .iload_n 3, 1, 0, 0, 0) ls st M ∧ qW tb 97 lim 20 ls st M R = qy tb 97 lim R (20, .ifCond .eq 7, 3, 0, 0, 0) ls st M ∧ qW tb 97 lim 23 ls st M R = qy tb 97 lim R (23, .iconst 1, 1, 0, 0, 0) ls st M ∧ qW tb 97 lim 24 ls st M R = qy tb 97 lim R (24, .goto 4, 3, 0, 0, 0) ls st M ∧ qW tb 97 lim 27 ls st M R = qy tb 97 lim R (27, .iconst 0, 1, 0, 0, 0) ls st M ∧ qW tb 97 lim 28 ls st M R = qy tb 97 lim R (28, .isub, 1, 0, 0, 0) ls st M ∧ qW tb 97 lim 29 ls st M R = qy tb 97 lim R (29, .istore 4, 2, 0, 0, 0) ls st M := ⟨qW_at (qcdB_spec (e := (14, .istore_n 3, 1, 0, 0, 0)) (by decide +kernel)), qW_at (qcdB_spec (e := (15, .iload_n 0, 1, 0, 0, 0)) (by decide +kernel)), qW_at (qcdB_spec (e := (16, .invokestatic 196, 3, 179, 1, 1)) (by decide +kernel)), qW_at (qcdB_spec (e := (19, .iload_n 3, 1, 0, 0, 0)) (by decide +kernel)), qW_at (qcdB_spec (e := (20, .ifCond .eq 7, 3, 0, 0, 0)) (by decide +kernel)), qW_at (qcdB_spec (e := (23, .iconst 1, 1, 0, 0, 0)) (by decide +kernel)), qW_at (qcdB_spec (e := (24, .goto 4, 3, 0, 0, 0)) (by decide +kernel)), qW_at (qcdB_spec (e := (27, .iconst 0, 1, 0, 0, 0)) (by decide +kernel)), qW_at (qcdB_spec (e := (28, .isub, 1, 0, 0, 0)) (by decide +kernel)), qW_at (qcdB_spec (e := (29, .istore 4, 2, 0, 0, 0)) (by decide +kernel))⟩
theorem fTF (a : Int) : ([1, 1, 2, 6, 24] : List Int).getD a.toNat 0 = fT a := rfl
theorem k97 {tb : qTb} {F : XT} {R : Option qV → qM → Prop} (h3 : ∀ a : Nat, (tb 3).2 a = ([1, 1, 2, 6, 24] : List Int).getD a 0) (h31 : (tb 3).1 = 5) (j h : Nat) (cnt : Int) (hj : j < 16) (hh : h < 4) (hc : 0 ≤ cnt ∧ cnt ≤ 4) (hk : R (some (0, ordV (j : Int) (h : Int) cnt)) (LAY, F)) : qW tb 97 (119, 1262) 0 [(0, (j : Int)), (0, (h : Int)), (0, cnt), (9, 0), (9, 0), (9, 0), (9, 0)] [] (LAY, F) R := by
  have hb := (bcK ⟨j, hj⟩).1
  dsimp only at hb
  have e5 : ((5 : Nat) : Int) = 5 := rfl
  have h3' : ∀ a : Int, (tb 3).2 a.toNat = fT a := fun a => h3 a.toNat
  have w0 : w32 (cnt - 1) = cnt - 1 := w32_id ⟨by omega, by omega⟩
  unfold ordV at hk
  have key : ∀ a : Int, -1 ≤ a → a ≤ 4 → ∀ wi : Int, (wi = 0 ∨ wi = 1) → (R (some (0, if a < 0 ∨ 4 < a ∨ cnt - 1 - a < 0 ∨ 4 < cnt - 1 - a then 0 else (if wi = 1 then fT a * fT (cnt - 1 - a) else -(fT a * fT (cnt - 1 - a))))) (LAY, F)) → qW tb 97 (119, 1262) 31 [(0, (j : Int)), (0, (h : Int)), (0, cnt), (0, wi), (0, a), (9, 0), (9, 0)] [] (LAY, F) R := by
    intro a ha1 ha2 wi hwi hk2
    have w1 : w32 (cnt - 1 - a) = cnt - 1 - a := w32_id ⟨by omega, by omega⟩
    by_cases c1 : a < 0
    · rw [if_pos (Or.inl c1)] at hk2
      simp only [YK, c97, t97, tgK, lyK, rkK, wK, rfK, qRes_eq, qNon_eq, qup_ap, vup_ap, vcpy_ap, kc8_0, kc8_1, kc8_2, lc_lt, lc_gt, lc_eq, Option.toList_some, Option.toList_none, List.cons_append, List.nil_append, lay_len, lay_sz, Nat.reduceAdd, Nat.reduceSub, Nat.reduceMul, Int.reduceToNat, Int.reduceLE, Int.reduceLT, Int.reduceEq, Int.reduceAdd, Int.reduceSub, Int.reduceMul, Int.reduceNeg, Nat.reduceLeDiff, Nat.reduceLT, true_and, and_true, false_and, and_false, qcat_0, qcat_1, qcat_3, qcat_9, Nat.reduceEqDiff, if_true, if_false, ite_self, or_true, true_or, or_false, false_or, forall_const, not_true_eq_false, not_false_eq_true, false_implies, implies_true, qtK0, qtK1, qtK2, qtK4, List.getD_cons_zero, List.getD_cons_succ, Int.toNat_natCast, ne_eq, qcK, hbF, bsetF, bclrF, w0, w1, c1]
      exact hk2
    · by_cases c2 : 4 < a
      · omega
      · by_cases c3 : cnt - 1 - a < 0
        · rw [if_pos (by omega)] at hk2
          simp only [YK, c97, t97, tgK, lyK, rkK, wK, rfK, qRes_eq, qNon_eq, qup_ap, vup_ap, vcpy_ap, kc8_0, kc8_1, kc8_2, lc_lt, lc_gt, lc_eq, Option.toList_some, Option.toList_none, List.cons_append, List.nil_append, lay_len, lay_sz, Nat.reduceAdd, Nat.reduceSub, Nat.reduceMul, Int.reduceToNat, Int.reduceLE, Int.reduceLT, Int.reduceEq, Int.reduceAdd, Int.reduceSub, Int.reduceMul, Int.reduceNeg, Nat.reduceLeDiff, Nat.reduceLT, true_and, and_true, false_and, and_false, qcat_0, qcat_1, qcat_3, qcat_9, Nat.reduceEqDiff, if_true, if_false, ite_self, or_true, true_or, or_false, false_or, forall_const, not_true_eq_false, not_false_eq_true, false_implies, implies_true, qtK0, qtK1, qtK2, qtK4, List.getD_cons_zero, List.getD_cons_succ, Int.toNat_natCast, ne_eq, qcK, hbF, bsetF, bclrF, w0, w1, c1, c2, c3]
          exact hk2
        · by_cases c4 : 4 < cnt - 1 - a
          · omega
          · rw [if_neg (by omega)] at hk2
            have f1 := fT_r (a := a) (by omega)
            have f2 := fT_r (a := cnt - 1 - a) (by omega)
            have b1 : (0 ≤ a ∧ a < 5) = True := eq_true (by omega)
            have b2 : (0 ≤ cnt - 1 - a ∧ cnt - 1 - a < 5) = True := eq_true (by omega)
            have hm : 0 ≤ fT a * fT (cnt - 1 - a) ∧ fT a * fT (cnt - 1 - a) ≤ 576 := ⟨Int.mul_nonneg (by omega) (by omega), Int.le_trans (Int.mul_le_mul f1.2 f2.2 (by omega) (by omega)) (by decide)⟩
            have w2 : w32 (fT a * fT (cnt - 1 - a)) = fT a * fT (cnt - 1 - a) := w32_id ⟨by omega, by omega⟩
            have w3 : w32 (-(fT a * fT (cnt - 1 - a))) = -(fT a * fT (cnt - 1 - a)) := w32_id ⟨by omega, by omega⟩
            rcases hwi with rfl | rfl
            · rw [if_neg (by decide)] at hk2
              simp only [YK, c97, t97, tgK, lyK, rkK, wK, rfK, qRes_eq, qNon_eq, qup_ap, vup_ap, vcpy_ap, kc8_0, kc8_1, kc8_2, lc_lt, lc_gt, lc_eq, Option.toList_some, Option.toList_none, List.cons_append, List.nil_append, lay_len, lay_sz, Nat.reduceAdd, Nat.reduceSub, Nat.reduceMul, Int.reduceToNat, Int.reduceLE, Int.reduceLT, Int.reduceEq, Int.reduceAdd, Int.reduceSub, Int.reduceMul, Int.reduceNeg, Nat.reduceLeDiff, Nat.reduceLT, true_and, and_true, false_and, and_false, qcat_0, qcat_1, qcat_3, qcat_9, Nat.reduceEqDiff, if_true, if_false, ite_self, or_true, true_or, or_false, false_or, forall_const, not_true_eq_false, not_false_eq_true, false_implies, implies_true, qtK0, qtK1, qtK2, qtK4, List.getD_cons_zero, List.getD_cons_succ, Int.toNat_natCast, ne_eq, qcK, hbF, bsetF, bclrF, w0, w1, c1, c2, c3, c4, h3', h31, e5, b1, b2, w2, w3]
              exact hk2
            · rw [if_pos rfl] at hk2
              simp only [YK, c97, t97, tgK, lyK, rkK, wK, rfK, qRes_eq, qNon_eq, qup_ap, vup_ap, vcpy_ap, kc8_0, kc8_1, kc8_2, lc_lt, lc_gt, lc_eq, Option.toList_some, Option.toList_none, List.cons_append, List.nil_append, lay_len, lay_sz, Nat.reduceAdd, Nat.reduceSub, Nat.reduceMul, Int.reduceToNat, Int.reduceLE, Int.reduceLT, Int.reduceEq, Int.reduceAdd, Int.reduceSub, Int.reduceMul, Int.reduceNeg, Nat.reduceLeDiff, Nat.reduceLT, true_and, and_true, false_and, and_false, qcat_0, qcat_1, qcat_3, qcat_9, Nat.reduceEqDiff, if_true, if_false, ite_self, or_true, true_or, or_false, false_or, forall_const, not_true_eq_false, not_false_eq_true, false_implies, implies_true, qtK0, qtK1, qtK2, qtK4, List.getD_cons_zero, List.getD_cons_succ, Int.toNat_natCast, ne_eq, qcK, hbF, bsetF, bclrF, w0, w1, c1, c2, c3, c4, h3', h31, e5, b1, b2, w2, w3]
              exact hk2
  by_cases c : hbit (j : Int) (h : Int) = 1
  · rw [if_pos c] at hk
    have w1 : w32 (pBc (j : Int) - 1) = pBc (j : Int) - 1 := w32_id ⟨by omega, by omega⟩
    have hq := key (pBc (j : Int) - 1) (by omega) (by omega) 1 (Or.inr rfl) (by rw [if_pos rfl]; exact hk)
    simp only [YK, c97, t97, cl179, tgK, lyK, rkK, wK, rfK, qRes_eq, qNon_eq, qup_ap, vup_ap, vcpy_ap, kc8_0, kc8_1, kc8_2, lc_lt, lc_gt, lc_eq, Option.toList_some, Option.toList_none, List.cons_append, List.nil_append, lay_len, lay_sz, Nat.reduceAdd, Nat.reduceSub, Nat.reduceMul, Int.reduceToNat, Int.reduceLE, Int.reduceLT, Int.reduceEq, Int.reduceAdd, Int.reduceSub, Int.reduceMul, Int.reduceNeg, Nat.reduceLeDiff, Nat.reduceLT, true_and, and_true, false_and, and_false, qcat_0, qcat_1, qcat_3, qcat_9, Nat.reduceEqDiff, if_true, if_false, ite_self, or_true, true_or, or_false, false_or, forall_const, not_true_eq_false, not_false_eq_true, false_implies, implies_true, qtK0, qtK1, qtK2, qtK4, List.getD_cons_zero, List.getD_cons_succ, Int.toNat_natCast, ne_eq, qcK, hbF, bsetF, bclrF, c]
    refine k179 _ ?_
    simp only [YK, d97a, t97, tgK, lyK, rkK, wK, rfK, qRes_eq, qNon_eq, qup_ap, vup_ap, vcpy_ap, kc8_0, kc8_1, kc8_2, lc_lt, lc_gt, lc_eq, Option.toList_some, Option.toList_none, List.cons_append, List.nil_append, lay_len, lay_sz, Nat.reduceAdd, Nat.reduceSub, Nat.reduceMul, Int.reduceToNat, Int.reduceLE, Int.reduceLT, Int.reduceEq, Int.reduceAdd, Int.reduceSub, Int.reduceMul, Int.reduceNeg, Nat.reduceLeDiff, Nat.reduceLT, true_and, and_true, false_and, and_false, qcat_0, qcat_1, qcat_3, qcat_9, Nat.reduceEqDiff, if_true, if_false, ite_self, or_true, true_or, or_false, false_or, forall_const, not_true_eq_false, not_false_eq_true, false_implies, implies_true, qtK0, qtK1, qtK2, qtK4, List.getD_cons_zero, List.getD_cons_succ, Int.toNat_natCast, ne_eq, qcK, hbF, bsetF, bclrF, w1]
    exact hq
  · rw [if_neg c] at hk
    have w1 : w32 (pBc (j : Int) - 0) = pBc (j : Int) := by rw [Int.sub_zero]; exact w32_id ⟨by omega, by omega⟩
    have hq := key (pBc (j : Int)) (by omega) (by omega) 0 (Or.inl rfl) (by rw [if_neg (by decide : ¬ (0 : Int) = 1)]; exact hk)
    simp only [YK, c97, t97, cl179, tgK, lyK, rkK, wK, rfK, qRes_eq, qNon_eq, qup_ap, vup_ap, vcpy_ap, kc8_0, kc8_1, kc8_2, lc_lt, lc_gt, lc_eq, Option.toList_some, Option.toList_none, List.cons_append, List.nil_append, lay_len, lay_sz, Nat.reduceAdd, Nat.reduceSub, Nat.reduceMul, Int.reduceToNat, Int.reduceLE, Int.reduceLT, Int.reduceEq, Int.reduceAdd, Int.reduceSub, Int.reduceMul, Int.reduceNeg, Nat.reduceLeDiff, Nat.reduceLT, true_and, and_true, false_and, and_false, qcat_0, qcat_1, qcat_3, qcat_9, Nat.reduceEqDiff, if_true, if_false, ite_self, or_true, true_or, or_false, false_or, forall_const, not_true_eq_false, not_false_eq_true, false_implies, implies_true, qtK0, qtK1, qtK2, qtK4, List.getD_cons_zero, List.getD_cons_succ, Int.toNat_natCast, ne_eq, qcK, hbF, bsetF, bclrF, c]
    refine k179 _ ?_
    simp only [YK, d97a, t97, tgK, lyK, rkK, wK, rfK, qRes_eq, qNon_eq, qup_ap, vup_ap, vcpy_ap, kc8_0, kc8_1, kc8_2, lc_lt, lc_gt, lc_eq, Option.toList_some, Option.toList_none, List.cons_append, List.nil_append, lay_len, lay_sz, Nat.reduceAdd, Nat.reduceSub, Nat.reduceMul, Int.reduceToNat, Int.reduceLE, Int.reduceLT, Int.reduceEq, Int.reduceAdd, Int.reduceSub, Int.reduceMul, Int.reduceNeg, Nat.reduceLeDiff, Nat.reduceLT, true_and, and_true, false_and, and_false, qcat_0, qcat_1, qcat_3, qcat_9, Nat.reduceEqDiff, if_true, if_false, ite_self, or_true, true_or, or_false, false_or, forall_const, not_true_eq_false, not_false_eq_true, false_implies, implies_true, qtK0, qtK1, qtK2, qtK4, List.getD_cons_zero, List.getD_cons_succ, Int.toNat_natCast, ne_eq, qcK, hbF, bsetF, bclrF, w1]
    exact hq
theorem r108 {tb : qTb} {F : XT} {R : Option qV → qM → Prop} (a : Int) (ha : 0 ≤ a ∧ a ≤ 4) (hk : R (some (0, fT a)) (LAY, F)) : qW tb 108 (119, 1262) 0 [(0, a), (9, 0), (9, 0)] [] (LAY, F) R := by
  have w6 : w32 (6 * 4) = 24 := by decide +kernel
  have hs : a = 0 ∨ a = 1 ∨ a = 2 ∨ a = 3 ∨ a = 4 := by omega
  rcases hs with rfl | rfl | rfl | rfl | rfl
  · simp only [YK, c108, t108, tgK, lyK, rkK, wK, rfK, qRes_eq, qNon_eq, qup_ap, vup_ap, vcpy_ap, kc8_0, kc8_1, kc8_2, lc_lt, lc_gt, lc_eq, Option.toList_some, Option.toList_none, List.cons_append, List.nil_append, lay_len, lay_sz, Nat.reduceAdd, Nat.reduceSub, Nat.reduceMul, Int.reduceToNat, Int.reduceLE, Int.reduceLT, Int.reduceEq, Int.reduceAdd, Int.reduceSub, Int.reduceMul, Int.reduceNeg, Nat.reduceLeDiff, Nat.reduceLT, true_and, and_true, false_and, and_false, qcat_0, qcat_1, qcat_3, qcat_9, Nat.reduceEqDiff, if_true, if_false, ite_self, or_true, true_or, or_false, false_or, forall_const, not_true_eq_false, not_false_eq_true, false_implies, implies_true, qtK0, qtK1, qtK2, qtK3, qtK4, List.getD_cons_zero, List.getD_cons_succ, Int.toNat_natCast, ne_eq, qcK, hbF, bsetF, bclrF, w6]
    rw [h108_4]
    simp only [YK, c108, t108, tgK, lyK, rkK, wK, rfK, qRes_eq, qNon_eq, qup_ap, vup_ap, vcpy_ap, kc8_0, kc8_1, kc8_2, lc_lt, lc_gt, lc_eq, Option.toList_some, Option.toList_none, List.cons_append, List.nil_append, lay_len, lay_sz, Nat.reduceAdd, Nat.reduceSub, Nat.reduceMul, Int.reduceToNat, Int.reduceLE, Int.reduceLT, Int.reduceEq, Int.reduceAdd, Int.reduceSub, Int.reduceMul, Int.reduceNeg, Nat.reduceLeDiff, Nat.reduceLT, true_and, and_true, false_and, and_false, qcat_0, qcat_1, qcat_3, qcat_9, Nat.reduceEqDiff, if_true, if_false, ite_self, or_true, true_or, or_false, false_or, forall_const, not_true_eq_false, not_false_eq_true, false_implies, implies_true, qtK0, qtK1, qtK2, qtK3, qtK4, List.getD_cons_zero, List.getD_cons_succ, Int.toNat_natCast, ne_eq, qcK, hbF, bsetF, bclrF, w6]
    exact hk
  · simp only [YK, c108, t108, tgK, lyK, rkK, wK, rfK, qRes_eq, qNon_eq, qup_ap, vup_ap, vcpy_ap, kc8_0, kc8_1, kc8_2, lc_lt, lc_gt, lc_eq, Option.toList_some, Option.toList_none, List.cons_append, List.nil_append, lay_len, lay_sz, Nat.reduceAdd, Nat.reduceSub, Nat.reduceMul, Int.reduceToNat, Int.reduceLE, Int.reduceLT, Int.reduceEq, Int.reduceAdd, Int.reduceSub, Int.reduceMul, Int.reduceNeg, Nat.reduceLeDiff, Nat.reduceLT, true_and, and_true, false_and, and_false, qcat_0, qcat_1, qcat_3, qcat_9, Nat.reduceEqDiff, if_true, if_false, ite_self, or_true, true_or, or_false, false_or, forall_const, not_true_eq_false, not_false_eq_true, false_implies, implies_true, qtK0, qtK1, qtK2, qtK3, qtK4, List.getD_cons_zero, List.getD_cons_succ, Int.toNat_natCast, ne_eq, qcK, hbF, bsetF, bclrF, w6]
    rw [h108_4]
    simp only [YK, c108, t108, tgK, lyK, rkK, wK, rfK, qRes_eq, qNon_eq, qup_ap, vup_ap, vcpy_ap, kc8_0, kc8_1, kc8_2, lc_lt, lc_gt, lc_eq, Option.toList_some, Option.toList_none, List.cons_append, List.nil_append, lay_len, lay_sz, Nat.reduceAdd, Nat.reduceSub, Nat.reduceMul, Int.reduceToNat, Int.reduceLE, Int.reduceLT, Int.reduceEq, Int.reduceAdd, Int.reduceSub, Int.reduceMul, Int.reduceNeg, Nat.reduceLeDiff, Nat.reduceLT, true_and, and_true, false_and, and_false, qcat_0, qcat_1, qcat_3, qcat_9, Nat.reduceEqDiff, if_true, if_false, ite_self, or_true, true_or, or_false, false_or, forall_const, not_true_eq_false, not_false_eq_true, false_implies, implies_true, qtK0, qtK1, qtK2, qtK3, qtK4, List.getD_cons_zero, List.getD_cons_succ, Int.toNat_natCast, ne_eq, qcK, hbF, bsetF, bclrF, w6]
    exact hk
  · simp only [YK, c108, t108, tgK, lyK, rkK, wK, rfK, qRes_eq, qNon_eq, qup_ap, vup_ap, vcpy_ap, kc8_0, kc8_1, kc8_2, lc_lt, lc_gt, lc_eq, Option.toList_some, Option.toList_none, List.cons_append, List.nil_append, lay_len, lay_sz, Nat.reduceAdd, Nat.reduceSub, Nat.reduceMul, Int.reduceToNat, Int.reduceLE, Int.reduceLT, Int.reduceEq, Int.reduceAdd, Int.reduceSub, Int.reduceMul, Int.reduceNeg, Nat.reduceLeDiff, Nat.reduceLT, true_and, and_true, false_and, and_false, qcat_0, qcat_1, qcat_3, qcat_9, Nat.reduceEqDiff, if_true, if_false, ite_self, or_true, true_or, or_false, false_or, forall_const, not_true_eq_false, not_false_eq_true, false_implies, implies_true, qtK0, qtK1, qtK2, qtK3, qtK4, List.getD_cons_zero, List.getD_cons_succ, Int.toNat_natCast, ne_eq, qcK, hbF, bsetF, bclrF, w6]
    rw [h108_4]
    simp only [YK, c108, t108, tgK, lyK, rkK, wK, rfK, qRes_eq, qNon_eq, qup_ap, vup_ap, vcpy_ap, kc8_0, kc8_1, kc8_2, lc_lt, lc_gt, lc_eq, Option.toList_some, Option.toList_none, List.cons_append, List.nil_append, lay_len, lay_sz, Nat.reduceAdd, Nat.reduceSub, Nat.reduceMul, Int.reduceToNat, Int.reduceLE, Int.reduceLT, Int.reduceEq, Int.reduceAdd, Int.reduceSub, Int.reduceMul, Int.reduceNeg, Nat.reduceLeDiff, Nat.reduceLT, true_and, and_true, false_and, and_false, qcat_0, qcat_1, qcat_3, qcat_9, Nat.reduceEqDiff, if_true, if_false, ite_self, or_true, true_or, or_false, false_or, forall_const, not_true_eq_false, not_false_eq_true, false_implies, implies_true, qtK0, qtK1, qtK2, qtK3, qtK4, List.getD_cons_zero, List.getD_cons_succ, Int.toNat_natCast, ne_eq, qcK, hbF, bsetF, bclrF, w6]
    rw [h108_4]
    simp only [YK, c108, t108, tgK, lyK, rkK, wK, rfK, qRes_eq, qNon_eq, qup_ap, vup_ap, vcpy_ap, kc8_0, kc8_1, kc8_2, lc_lt, lc_gt, lc_eq, Option.toList_some, Option.toList_none, List.cons_append, List.nil_append, lay_len, lay_sz, Nat.reduceAdd, Nat.reduceSub, Nat.reduceMul, Int.reduceToNat, Int.reduceLE, Int.reduceLT, Int.reduceEq, Int.reduceAdd, Int.reduceSub, Int.reduceMul, Int.reduceNeg, Nat.reduceLeDiff, Nat.reduceLT, true_and, and_true, false_and, and_false, qcat_0, qcat_1, qcat_3, qcat_9, Nat.reduceEqDiff, if_true, if_false, ite_self, or_true, true_or, or_false, false_or, forall_const, not_true_eq_false, not_false_eq_true, false_implies, implies_true, qtK0, qtK1, qtK2, qtK3, qtK4, List.getD_cons_zero, List.getD_cons_succ, Int.toNat_natCast, ne_eq, qcK, hbF, bsetF, bclrF, w6]
    exact hk
  · simp only [YK, c108, t108, tgK, lyK, rkK, wK, rfK, qRes_eq, qNon_eq, qup_ap, vup_ap, vcpy_ap, kc8_0, kc8_1, kc8_2, lc_lt, lc_gt, lc_eq, Option.toList_some, Option.toList_none, List.cons_append, List.nil_append, lay_len, lay_sz, Nat.reduceAdd, Nat.reduceSub, Nat.reduceMul, Int.reduceToNat, Int.reduceLE, Int.reduceLT, Int.reduceEq, Int.reduceAdd, Int.reduceSub, Int.reduceMul, Int.reduceNeg, Nat.reduceLeDiff, Nat.reduceLT, true_and, and_true, false_and, and_false, qcat_0, qcat_1, qcat_3, qcat_9, Nat.reduceEqDiff, if_true, if_false, ite_self, or_true, true_or, or_false, false_or, forall_const, not_true_eq_false, not_false_eq_true, false_implies, implies_true, qtK0, qtK1, qtK2, qtK3, qtK4, List.getD_cons_zero, List.getD_cons_succ, Int.toNat_natCast, ne_eq, qcK, hbF, bsetF, bclrF, w6]
    rw [h108_4]
    simp only [YK, c108, t108, tgK, lyK, rkK, wK, rfK, qRes_eq, qNon_eq, qup_ap, vup_ap, vcpy_ap, kc8_0, kc8_1, kc8_2, lc_lt, lc_gt, lc_eq, Option.toList_some, Option.toList_none, List.cons_append, List.nil_append, lay_len, lay_sz, Nat.reduceAdd, Nat.reduceSub, Nat.reduceMul, Int.reduceToNat, Int.reduceLE, Int.reduceLT, Int.reduceEq, Int.reduceAdd, Int.reduceSub, Int.reduceMul, Int.reduceNeg, Nat.reduceLeDiff, Nat.reduceLT, true_and, and_true, false_and, and_false, qcat_0, qcat_1, qcat_3, qcat_9, Nat.reduceEqDiff, if_true, if_false, ite_self, or_true, true_or, or_false, false_or, forall_const, not_true_eq_false, not_false_eq_true, false_implies, implies_true, qtK0, qtK1, qtK2, qtK3, qtK4, List.getD_cons_zero, List.getD_cons_succ, Int.toNat_natCast, ne_eq, qcK, hbF, bsetF, bclrF, w6]
    rw [h108_4]
    simp only [YK, c108, t108, tgK, lyK, rkK, wK, rfK, qRes_eq, qNon_eq, qup_ap, vup_ap, vcpy_ap, kc8_0, kc8_1, kc8_2, lc_lt, lc_gt, lc_eq, Option.toList_some, Option.toList_none, List.cons_append, List.nil_append, lay_len, lay_sz, Nat.reduceAdd, Nat.reduceSub, Nat.reduceMul, Int.reduceToNat, Int.reduceLE, Int.reduceLT, Int.reduceEq, Int.reduceAdd, Int.reduceSub, Int.reduceMul, Int.reduceNeg, Nat.reduceLeDiff, Nat.reduceLT, true_and, and_true, false_and, and_false, qcat_0, qcat_1, qcat_3, qcat_9, Nat.reduceEqDiff, if_true, if_false, ite_self, or_true, true_or, or_false, false_or, forall_const, not_true_eq_false, not_false_eq_true, false_implies, implies_true, qtK0, qtK1, qtK2, qtK3, qtK4, List.getD_cons_zero, List.getD_cons_succ, Int.toNat_natCast, ne_eq, qcK, hbF, bsetF, bclrF, w6]
    rw [h108_4]
    simp only [YK, c108, t108, tgK, lyK, rkK, wK, rfK, qRes_eq, qNon_eq, qup_ap, vup_ap, vcpy_ap, kc8_0, kc8_1, kc8_2, lc_lt, lc_gt, lc_eq, Option.toList_some, Option.toList_none, List.cons_append, List.nil_append, lay_len, lay_sz, Nat.reduceAdd, Nat.reduceSub, Nat.reduceMul, Int.reduceToNat, Int.reduceLE, Int.reduceLT, Int.reduceEq, Int.reduceAdd, Int.reduceSub, Int.reduceMul, Int.reduceNeg, Nat.reduceLeDiff, Nat.reduceLT, true_and, and_true, false_and, and_false, qcat_0, qcat_1, qcat_3, qcat_9, Nat.reduceEqDiff, if_true, if_false, ite_self, or_true, true_or, or_false, false_or, forall_const, not_true_eq_false, not_false_eq_true, false_implies, implies_true, qtK0, qtK1, qtK2, qtK3, qtK4, List.getD_cons_zero, List.getD_cons_succ, Int.toNat_natCast, ne_eq, qcK, hbF, bsetF, bclrF, w6]
    exact hk
  · simp only [YK, c108, t108, tgK, lyK, rkK, wK, rfK, qRes_eq, qNon_eq, qup_ap, vup_ap, vcpy_ap, kc8_0, kc8_1, kc8_2, lc_lt, lc_gt, lc_eq, Option.toList_some, Option.toList_none, List.cons_append, List.nil_append, lay_len, lay_sz, Nat.reduceAdd, Nat.reduceSub, Nat.reduceMul, Int.reduceToNat, Int.reduceLE, Int.reduceLT, Int.reduceEq, Int.reduceAdd, Int.reduceSub, Int.reduceMul, Int.reduceNeg, Nat.reduceLeDiff, Nat.reduceLT, true_and, and_true, false_and, and_false, qcat_0, qcat_1, qcat_3, qcat_9, Nat.reduceEqDiff, if_true, if_false, ite_self, or_true, true_or, or_false, false_or, forall_const, not_true_eq_false, not_false_eq_true, false_implies, implies_true, qtK0, qtK1, qtK2, qtK3, qtK4, List.getD_cons_zero, List.getD_cons_succ, Int.toNat_natCast, ne_eq, qcK, hbF, bsetF, bclrF, w6]
    rw [h108_4]
    simp only [YK, c108, t108, tgK, lyK, rkK, wK, rfK, qRes_eq, qNon_eq, qup_ap, vup_ap, vcpy_ap, kc8_0, kc8_1, kc8_2, lc_lt, lc_gt, lc_eq, Option.toList_some, Option.toList_none, List.cons_append, List.nil_append, lay_len, lay_sz, Nat.reduceAdd, Nat.reduceSub, Nat.reduceMul, Int.reduceToNat, Int.reduceLE, Int.reduceLT, Int.reduceEq, Int.reduceAdd, Int.reduceSub, Int.reduceMul, Int.reduceNeg, Nat.reduceLeDiff, Nat.reduceLT, true_and, and_true, false_and, and_false, qcat_0, qcat_1, qcat_3, qcat_9, Nat.reduceEqDiff, if_true, if_false, ite_self, or_true, true_or, or_false, false_or, forall_const, not_true_eq_false, not_false_eq_true, false_implies, implies_true, qtK0, qtK1, qtK2, qtK3, qtK4, List.getD_cons_zero, List.getD_cons_succ, Int.toNat_natCast, ne_eq, qcK, hbF, bsetF, bclrF, w6]
    rw [h108_4]
    simp only [YK, c108, t108, tgK, lyK, rkK, wK, rfK, qRes_eq, qNon_eq, qup_ap, vup_ap, vcpy_ap, kc8_0, kc8_1, kc8_2, lc_lt, lc_gt, lc_eq, Option.toList_some, Option.toList_none, List.cons_append, List.nil_append, lay_len, lay_sz, Nat.reduceAdd, Nat.reduceSub, Nat.reduceMul, Int.reduceToNat, Int.reduceLE, Int.reduceLT, Int.reduceEq, Int.reduceAdd, Int.reduceSub, Int.reduceMul, Int.reduceNeg, Nat.reduceLeDiff, Nat.reduceLT, true_and, and_true, false_and, and_false, qcat_0, qcat_1, qcat_3, qcat_9, Nat.reduceEqDiff, if_true, if_false, ite_self, or_true, true_or, or_false, false_or, forall_const, not_true_eq_false, not_false_eq_true, false_implies, implies_true, qtK0, qtK1, qtK2, qtK3, qtK4, List.getD_cons_zero, List.getD_cons_succ, Int.toNat_natCast, ne_eq, qcK, hbF, bsetF, bclrF, w6]
    rw [h108_4]
    simp only [YK, c108, t108, tgK, lyK, rkK, wK, rfK, qRes_eq, qNon_eq, qup_ap, vup_ap, vcpy_ap, kc8_0, kc8_1, kc8_2, lc_lt, lc_gt, lc_eq, Option.toList_some, Option.toList_none, List.cons_append, List.nil_append, lay_len, lay_sz, Nat.reduceAdd, Nat.reduceSub, Nat.reduceMul, Int.reduceToNat, Int.reduceLE, Int.reduceLT, Int.reduceEq, Int.reduceAdd, Int.reduceSub, Int.reduceMul, Int.reduceNeg, Nat.reduceLeDiff, Nat.reduceLT, true_and, and_true, false_and, and_false, qcat_0, qcat_1, qcat_3, qcat_9, Nat.reduceEqDiff, if_true, if_false, ite_self, or_true, true_or, or_false, false_or, forall_const, not_true_eq_false, not_false_eq_true, false_implies, implies_true, qtK0, qtK1, qtK2, qtK3, qtK4, List.getD_cons_zero, List.getD_cons_succ, Int.toNat_natCast, ne_eq, qcK, hbF, bsetF, bclrF, w6]
    rw [h108_4]
    simp only [YK, c108, t108, tgK, lyK, rkK, wK, rfK, qRes_eq, qNon_eq, qup_ap, vup_ap, vcpy_ap, kc8_0, kc8_1, kc8_2, lc_lt, lc_gt, lc_eq, Option.toList_some, Option.toList_none, List.cons_append, List.nil_append, lay_len, lay_sz, Nat.reduceAdd, Nat.reduceSub, Nat.reduceMul, Int.reduceToNat, Int.reduceLE, Int.reduceLT, Int.reduceEq, Int.reduceAdd, Int.reduceSub, Int.reduceMul, Int.reduceNeg, Nat.reduceLeDiff, Nat.reduceLT, true_and, and_true, false_and, and_false, qcat_0, qcat_1, qcat_3, qcat_9, Nat.reduceEqDiff, if_true, if_false, ite_self, or_true, true_or, or_false, false_or, forall_const, not_true_eq_false, not_false_eq_true, false_implies, implies_true, qtK0, qtK1, qtK2, qtK3, qtK4, List.getD_cons_zero, List.getD_cons_succ, Int.toNat_natCast, ne_eq, qcK, hbF, bsetF, bclrF, w6]
    exact hk
def tpS (F : XT) (n k : Nat) : Nat → Int := fun j => if j = 5 then imF n k else F 89 j
theorem tpS_PB {F : XT} (hR : Rel F) {n k : Nat} (hn : n ≤ 4) (hk : k < 16) : PB (tpS F n k) (tpS F n k 5) := by
  have h := PB89 hR
  have q := ouK ⟨n, by omega⟩ ⟨k, hk⟩
  dsimp only at q
  unfold PB tpS at *
  simp only [Nat.reduceEqDiff, if_true, if_false]
  omega
def wo (n ns na : Nat) (F : XT) (im : Int) : Nat → (Nat → Int)
  | 0 => F 118
  | k + 1 => if sb im (k : Int) = 0 then (fun j => if j = k then mT (pRunT n ns na 80 (trX F (tpS F n k) (wo n ns na F im k), L0)).1 2 na else wo n ns na F im k j) else wo n ns na F im k
def vS (n ns na : Nat) (F : XT) (im : Int) (k : Nat) : Int := mT (pRunT n ns na 80 (trX F (tpS F n k) (wo n ns na F im k), L0)).1 2 na
theorem wo_at {n ns na : Nat} {F : XT} {im : Int} {j : Nat} (hj : sb im (j : Int) = 0) : ∀ K : Nat, j < K → wo n ns na F im K j = vS n ns na F im j := by
  intro K
  induction K with
  | zero => intro h; omega
  | succ K ih =>
    intro h
    unfold wo
    by_cases c : j = K
    · subst c
      rw [if_pos hj]
      show (if j = j then _ else _) = _
      rw [if_pos rfl]
      rfl
    · by_cases c2 : sb im (K : Int) = 0
      · rw [if_pos c2]
        show (if j = K then _ else _) = _
        rw [if_neg c]; exact ih (by omega)
      · rw [if_neg c2]; exact ih (by omega)
theorem k87 {tb : qTb} {F : XT} {n ns na h o im : Nat} {up : Int} {R : Option qV → qM → Prop} (h3 : ∀ a : Nat, (tb 3).2 a = ([1, 1, 2, 6, 24] : List Int).getD a 0) (h31 : (tb 3).1 = 5) (hA : FA) (hR : Rel F) (hd : DN F n ns na) (hn4 : n ≤ 4) (hna : na ≤ 12) (hh : h < n) (ho : F 23 1 = (o : Int)) (ho16 : o < 16) (hb0 : hbit (o : Int) (h : Int) = 0) (him : imF n o = (im : Int)) (hk : ∀ G, TFr F G → R (some (0, frV (sm (fun j => vS n ns na F (im : Int) j * cC (im : Int) (h : Int) (pBc (im : Int)) (j : Int)) (2 ^ n)) (fT (pBc (im : Int))) up)) (LAY, G)) : qW tb 87 (119, 1262) 0 [(3, 0), (0, (h : Int)), (0, up), (9, 0), (9, 0), (9, 0), (9, 0), (9, 0)] [] (LAY, F) R := by
  have h16 : 1 ≤ 2 ^ n ∧ 2 ^ n ≤ 16 := by
    have : n = 0 ∨ n = 1 ∨ n = 2 ∨ n = 3 ∨ n = 4 := by omega
    rcases this with rfl | rfl | rfl | rfl | rfl <;> decide
  obtain ⟨i1', i2', i3'⟩ := imK ⟨n, by omega⟩ ⟨o, ho16⟩
  have i3 := i3' ⟨h, by omega⟩ hh hb0
  dsimp only at i1' i2' i3
  rw [him] at i1' i2' i3
  have him16 : im < 16 := by omega
  have hA1 := shA ⟨im, him16⟩ ⟨h, by omega⟩ i3
  dsimp only at hA1
  have hbc := (bcK ⟨im, him16⟩).1
  dsimp only at hbc
  have hfc := fT_r (a := pBc (im : Int)) (by omega)
  obtain ⟨fb, hfb⟩ : ∃ q : Nat, fT (pBc (im : Int)) = (q : Int) := ⟨(fT (pBc (im : Int))).toNat, by omega⟩
  have e5 : ((5 : Nat) : Int) = 5 := rfl
  have h3' : ∀ a : Int, (tb 3).2 a.toNat = fT a := fun a => h3 a.toNat
  have hvr : ∀ j, 0 ≤ vS n ns na F (im : Int) j ∧ vS n ns na F (im : Int) j ≤ 12 := fun j => by
    have := mT_r (pRunT n ns na 80 (trX F (tpS F n j) (wo n ns na F (im : Int) j), L0)).1 2 na
    unfold vS
    omega
  have hmul : ∀ j : Nat, j < 16 → -288 ≤ vS n ns na F (im : Int) j * cC (im : Int) (h : Int) (pBc (im : Int)) (j : Int) ∧ vS n ns na F (im : Int) j * cC (im : Int) (h : Int) (pBc (im : Int)) (j : Int) ≤ 288 := by
    intro j hj
    have q := (hA1.2 ⟨j, hj⟩).1
    dsimp only at q
    have v := hvr j
    generalize cC (im : Int) (h : Int) (pBc (im : Int)) (j : Int) = c at *
    generalize vS n ns na F (im : Int) j = x at *
    constructor
    · have := Int.mul_le_mul_of_nonneg_left q.1 v.1
      omega
    · have := Int.mul_le_mul_of_nonneg_left q.2 v.1
      omega
  have hloop : ∀ (m k : Nat) (G : XT), k + m = 2 ^ n → TFr F G → (∀ j : Nat, j < 5 → G 26 j = F 89 j) → qW tb 87 (119, 1262) 76 [(3, 0), (0, (h : Int)), (0, up), (0, ((2 ^ n : Nat) : Int) - 1), (0, (im : Int)), (0, pBc (im : Int)), (0, sm (fun j => vS n ns na F (im : Int) j * cC (im : Int) (h : Int) (pBc (im : Int)) (j : Int)) k), (0, (k : Int))] [] (LAY, G) R := by
    intro m
    induction m with
    | zero =>
      intro k G hm hG h26
      have ek : k = 2 ^ n := by omega
      have b1 : (((2 ^ n : Nat) : Int) - 1 < (k : Int)) = True := eq_true (by omega)
      have b2 : (0 ≤ pBc (im : Int) ∧ pBc (im : Int) < 5) = True := eq_true (by omega)
      have hq := hk G hG
      have hsr := sm_r (f := fun j => vS n ns na F (im : Int) j * cC (im : Int) (h : Int) (pBc (im : Int)) (j : Int)) (B := 288) k (fun j hj => hmul j (by omega))
      rw [← ek, hfb] at hq
      rw [h87_76]
      simp only [YK, c87, t87, cl100, tgK, lyK, rkK, wK, rfK, qRes_eq, qNon_eq, qup_ap, vup_ap, vcpy_ap, kc8_0, kc8_1, kc8_2, lc_lt, lc_gt, lc_eq, Option.toList_some, Option.toList_none, List.cons_append, List.nil_append, lay_len, lay_sz, Nat.reduceAdd, Nat.reduceSub, Nat.reduceMul, Int.reduceToNat, Int.reduceLE, Int.reduceLT, Int.reduceEq, Int.reduceAdd, Int.reduceSub, Int.reduceMul, Int.reduceNeg, Nat.reduceLeDiff, Nat.reduceLT, true_and, and_true, false_and, and_false, qcat_0, qcat_1, qcat_3, qcat_9, Nat.reduceEqDiff, if_true, if_false, ite_self, or_true, true_or, or_false, false_or, forall_const, not_true_eq_false, not_false_eq_true, false_implies, implies_true, qtK0, qtK1, qtK2, qtK4, List.getD_cons_zero, List.getD_cons_succ, Int.toNat_natCast, ne_eq, qcK, hbF, bsetF, bclrF, b1, b2, h3', h31, e5, hfb]
      refine k100 _ fb up (by omega) (by omega) ?_
      simp only [YK, c87, t87, tgK, lyK, rkK, wK, rfK, qRes_eq, qNon_eq, qup_ap, vup_ap, vcpy_ap, kc8_0, kc8_1, kc8_2, lc_lt, lc_gt, lc_eq, Option.toList_some, Option.toList_none, List.cons_append, List.nil_append, lay_len, lay_sz, Nat.reduceAdd, Nat.reduceSub, Nat.reduceMul, Int.reduceToNat, Int.reduceLE, Int.reduceLT, Int.reduceEq, Int.reduceAdd, Int.reduceSub, Int.reduceMul, Int.reduceNeg, Nat.reduceLeDiff, Nat.reduceLT, true_and, and_true, false_and, and_false, qcat_0, qcat_1, qcat_3, qcat_9, Nat.reduceEqDiff, if_true, if_false, ite_self, or_true, true_or, or_false, false_or, forall_const, not_true_eq_false, not_false_eq_true, false_implies, implies_true, qtK0, qtK1, qtK2, qtK4, List.getD_cons_zero, List.getD_cons_succ, Int.toNat_natCast, ne_eq, qcK, hbF, bsetF, bclrF]
      exact hq
    | succ m ih =>
      intro k G hm hG h26
      have hr := Rf_k hG.1
      have b1 : (((2 ^ n : Nat) : Int) - 1 < (k : Int)) = False := eq_false (by omega)
      have w1 : w32 ((k : Int) + 1) = ((k + 1 : Nat) : Int) := by rw [w32_id ⟨by omega, by omega⟩]; omega
      have q1 : (i1 (k : Int) &&& i1 (i1 (im : Int) ^^^ i1 (-1)).toInt).toInt = sb (im : Int) (k : Int) := rfl
      have q2 : (i1 (((2 ^ n : Nat) : Int) - 1) &&& i1 (i1 (k : Int) ^^^ i1 (-1)).toInt).toInt = imF n k := rfl
      have hsr := sm_r (f := fun j => vS n ns na F (im : Int) j * cC (im : Int) (h : Int) (pBc (im : Int)) (j : Int)) (B := 288) k (fun j hj => hmul j (by omega))
      have hmk := hmul k (by omega)
      rw [h87_76]
      by_cases c : sb (im : Int) (k : Int) = 0
      · have hcc : cC (im : Int) (h : Int) (pBc (im : Int)) (k : Int) = ordV (k : Int) (h : Int) (pBc (im : Int)) := by unfold cC; rw [if_pos c]
        have hG1 : TFr F (qup G 25 1 (imF n k)) := ⟨hG.1.up (by decide), fun c2 hc c1 c26 => by rw [qup_c c1]; exact hG.2 c2 hc c1 c26⟩
        simp only [YK, c87, t87, cl8, tgK, lyK, rkK, wK, rfK, hr, qRes_eq, qNon_eq, qup_ap, vup_ap, vcpy_ap, kc8_0, kc8_1, kc8_2, lc_lt, lc_gt, lc_eq, Option.toList_some, Option.toList_none, List.cons_append, List.nil_append, lay_len, lay_sz, Nat.reduceAdd, Nat.reduceSub, Nat.reduceMul, Int.reduceToNat, Int.reduceLE, Int.reduceLT, Int.reduceEq, Int.reduceAdd, Int.reduceSub, Int.reduceMul, Int.reduceNeg, Nat.reduceLeDiff, Nat.reduceLT, true_and, and_true, false_and, and_false, qcat_0, qcat_1, qcat_3, qcat_9, Nat.reduceEqDiff, if_true, if_false, ite_self, or_true, true_or, or_false, false_or, forall_const, not_true_eq_false, not_false_eq_true, false_implies, implies_true, qtK0, qtK1, qtK2, qtK4, List.getD_cons_zero, List.getD_cons_succ, Int.toNat_natCast, ne_eq, qcK, hbF, bsetF, bclrF, b1, q1, q2, c]
        refine c_tr hA hR hd hG1 (tpS F n k) (wo n ns na F (im : Int) k) (fun j hj => ?_) ?_ (tpS_PB hR hn4 (by omega)) ?_
        · rw [qup_c (by decide), h26 j hj]
          unfold tpS
          rw [if_neg (by omega)]
        · rw [qup_ap, if_pos rfl, if_pos rfl]
          rfl
        · clear hr
          intro G2 hC hG2 g25 g26
          have hr := Rf_k hG2.1
          have hC2 := hC
          unfold CC at hC2
          have hi := ih (k + 1) G2 (by omega) hG2 (fun j hj => by rw [g26, qup_c (by decide)]; exact h26 j hj)
          unfold sm at hi
          simp only [YK, c87, t87, cl26, tgK, lyK, rkK, wK, rfK, hr, qRes_eq, qNon_eq, qup_ap, vup_ap, vcpy_ap, kc8_0, kc8_1, kc8_2, lc_lt, lc_gt, lc_eq, Option.toList_some, Option.toList_none, List.cons_append, List.nil_append, lay_len, lay_sz, Nat.reduceAdd, Nat.reduceSub, Nat.reduceMul, Int.reduceToNat, Int.reduceLE, Int.reduceLT, Int.reduceEq, Int.reduceAdd, Int.reduceSub, Int.reduceMul, Int.reduceNeg, Nat.reduceLeDiff, Nat.reduceLT, true_and, and_true, false_and, and_false, qcat_0, qcat_1, qcat_3, qcat_9, Nat.reduceEqDiff, if_true, if_false, ite_self, or_true, true_or, or_false, false_or, forall_const, not_true_eq_false, not_false_eq_true, false_implies, implies_true, qtK0, qtK1, qtK2, qtK4, List.getD_cons_zero, List.getD_cons_succ, Int.toNat_natCast, ne_eq, qcK, hbF, bsetF, bclrF]
          refine k26 hC2 2 na (by rw [qup_c (by decide), hG.2 3 (by unfold fx; decide) (by decide) (by decide)]; exact hd.2.2) hna ?_
          simp only [YK, c87, t87, cl97, tgK, lyK, rkK, wK, rfK, qRes_eq, qNon_eq, qup_ap, vup_ap, vcpy_ap, kc8_0, kc8_1, kc8_2, lc_lt, lc_gt, lc_eq, Option.toList_some, Option.toList_none, List.cons_append, List.nil_append, lay_len, lay_sz, Nat.reduceAdd, Nat.reduceSub, Nat.reduceMul, Int.reduceToNat, Int.reduceLE, Int.reduceLT, Int.reduceEq, Int.reduceAdd, Int.reduceSub, Int.reduceMul, Int.reduceNeg, Nat.reduceLeDiff, Nat.reduceLT, true_and, and_true, false_and, and_false, qcat_0, qcat_1, qcat_3, qcat_9, Nat.reduceEqDiff, if_true, if_false, ite_self, or_true, true_or, or_false, false_or, forall_const, not_true_eq_false, not_false_eq_true, false_implies, implies_true, qtK0, qtK1, qtK2, qtK4, List.getD_cons_zero, List.getD_cons_succ, Int.toNat_natCast, ne_eq, qcK, hbF, bsetF, bclrF]
          refine k97 h3 h31 k h (pBc (im : Int)) (by omega) (by omega) (by omega) ?_
          rw [← hcc]
          have ev : mT (pRunT n ns na 80 (trX F (tpS F n k) (wo n ns na F (im : Int) k), L0)).1 2 na = vS n ns na F (im : Int) k := rfl
          rw [ev]
          have w2 : w32 (vS n ns na F (im : Int) k * cC (im : Int) (h : Int) (pBc (im : Int)) (k : Int)) = vS n ns na F (im : Int) k * cC (im : Int) (h : Int) (pBc (im : Int)) (k : Int) := w32_id ⟨by omega, by omega⟩
          have w3 : w32 (sm (fun j => vS n ns na F (im : Int) j * cC (im : Int) (h : Int) (pBc (im : Int)) (j : Int)) k + vS n ns na F (im : Int) k * cC (im : Int) (h : Int) (pBc (im : Int)) (k : Int)) = sm (fun j => vS n ns na F (im : Int) j * cC (im : Int) (h : Int) (pBc (im : Int)) (j : Int)) k + vS n ns na F (im : Int) k * cC (im : Int) (h : Int) (pBc (im : Int)) (k : Int) := w32_id ⟨by omega, by omega⟩
          simp only [YK, c87, t87, tgK, lyK, rkK, wK, rfK, qRes_eq, qNon_eq, qup_ap, vup_ap, vcpy_ap, kc8_0, kc8_1, kc8_2, lc_lt, lc_gt, lc_eq, Option.toList_some, Option.toList_none, List.cons_append, List.nil_append, lay_len, lay_sz, Nat.reduceAdd, Nat.reduceSub, Nat.reduceMul, Int.reduceToNat, Int.reduceLE, Int.reduceLT, Int.reduceEq, Int.reduceAdd, Int.reduceSub, Int.reduceMul, Int.reduceNeg, Nat.reduceLeDiff, Nat.reduceLT, true_and, and_true, false_and, and_false, qcat_0, qcat_1, qcat_3, qcat_9, Nat.reduceEqDiff, if_true, if_false, ite_self, or_true, true_or, or_false, false_or, forall_const, not_true_eq_false, not_false_eq_true, false_implies, implies_true, qtK0, qtK1, qtK2, qtK4, List.getD_cons_zero, List.getD_cons_succ, Int.toNat_natCast, ne_eq, qcK, hbF, bsetF, bclrF, w1, w2, w3]
          exact hi
      · have hcc : cC (im : Int) (h : Int) (pBc (im : Int)) (k : Int) = 0 := by unfold cC; rw [if_neg c]
        have hi := ih (k + 1) G (by omega) hG h26
        unfold sm at hi
        rw [hcc, Int.mul_zero, Int.add_zero] at hi
        simp only [YK, c87, t87, tgK, lyK, rkK, wK, rfK, qRes_eq, qNon_eq, qup_ap, vup_ap, vcpy_ap, kc8_0, kc8_1, kc8_2, lc_lt, lc_gt, lc_eq, Option.toList_some, Option.toList_none, List.cons_append, List.nil_append, lay_len, lay_sz, Nat.reduceAdd, Nat.reduceSub, Nat.reduceMul, Int.reduceToNat, Int.reduceLE, Int.reduceLT, Int.reduceEq, Int.reduceAdd, Int.reduceSub, Int.reduceMul, Int.reduceNeg, Nat.reduceLeDiff, Nat.reduceLT, true_and, and_true, false_and, and_false, qcat_0, qcat_1, qcat_3, qcat_9, Nat.reduceEqDiff, if_true, if_false, ite_self, or_true, true_or, or_false, false_or, forall_const, not_true_eq_false, not_false_eq_true, false_implies, implies_true, qtK0, qtK1, qtK2, qtK4, List.getD_cons_zero, List.getD_cons_succ, Int.toNat_natCast, ne_eq, qcK, hbF, bsetF, bclrF, b1, q1, c, w1]
        exact hi
  have hr := Rf_k hR.1
  have g30 := hd.1
  have hs := sh_v n (by omega)
  have w0 : w32 (((2 ^ n : Nat) : Int) - 1) = ((2 ^ n : Nat) : Int) - 1 := w32_id ⟨by omega, by omega⟩
  have q3 : (i1 (((2 ^ n : Nat) : Int) - 1) &&& i1 (i1 (o : Int) ^^^ i1 (-1)).toInt).toInt = (im : Int) := him
  have g24 : ∀ j : Nat, j < 5 → F 24 j = F 89 j := fun j hj => (hR.2.2.2.1.2.1 j hj).symm
  simp only [YK, c87, t87, cl64, tgK, lyK, rkK, wK, rfK, hr, qRes_eq, qNon_eq, qup_ap, vup_ap, vcpy_ap, kc8_0, kc8_1, kc8_2, lc_lt, lc_gt, lc_eq, Option.toList_some, Option.toList_none, List.cons_append, List.nil_append, lay_len, lay_sz, Nat.reduceAdd, Nat.reduceSub, Nat.reduceMul, Int.reduceToNat, Int.reduceLE, Int.reduceLT, Int.reduceEq, Int.reduceAdd, Int.reduceSub, Int.reduceMul, Int.reduceNeg, Nat.reduceLeDiff, Nat.reduceLT, true_and, and_true, false_and, and_false, qcat_0, qcat_1, qcat_3, qcat_9, Nat.reduceEqDiff, if_true, if_false, ite_self, or_true, true_or, or_false, false_or, forall_const, not_true_eq_false, not_false_eq_true, false_implies, implies_true, qtK0, qtK1, qtK2, qtK4, List.getD_cons_zero, List.getD_cons_succ, Int.toNat_natCast, ne_eq, qcK, hbF, bsetF, bclrF]
  refine k64 hR.1 (h : Int) n g30 ?_
  rw [b01_t (by omega)]
  simp only [YK, c87, t87, c57, t57, cl57, cl179, tgK, lyK, rkK, wK, rfK, hr, qRes_eq, qNon_eq, qup_ap, vup_ap, vcpy_ap, kc8_0, kc8_1, kc8_2, lc_lt, lc_gt, lc_eq, Option.toList_some, Option.toList_none, List.cons_append, List.nil_append, lay_len, lay_sz, Nat.reduceAdd, Nat.reduceSub, Nat.reduceMul, Int.reduceToNat, Int.reduceLE, Int.reduceLT, Int.reduceEq, Int.reduceAdd, Int.reduceSub, Int.reduceMul, Int.reduceNeg, Nat.reduceLeDiff, Nat.reduceLT, true_and, and_true, false_and, and_false, qcat_0, qcat_1, qcat_3, qcat_9, Nat.reduceEqDiff, if_true, if_false, ite_self, or_true, true_or, or_false, false_or, forall_const, not_true_eq_false, not_false_eq_true, false_implies, implies_true, qtK0, qtK1, qtK2, qtK4, List.getD_cons_zero, List.getD_cons_succ, Int.toNat_natCast, ne_eq, qcK, hbF, bsetF, bclrF, ho, hb0, g30, shF, hs, w0, q3]
  refine k179 _ ?_
  have hq := hloop (2 ^ n) 0 (qup (va_up F 26 (va_cpy (F 24) (F 26) 0 0 5)) 25 1 (o : Int)) (by omega) ⟨(Rf_vup hR.1 _ (by decide)).up (by decide), fun c hc c1 c2 => by
    rw [qup_c c1]
    funext j
    rw [vup_ap, if_neg c2]⟩ (fun j hj => by
      rw [qup_c (by decide), vup_ap, if_pos rfl, vcpy_ap, if_pos (by omega)]
      have : 0 + (j - 0) = j := by omega
      rw [this]
      exact g24 j hj)
  simp only [YK, c87, t87, c56, t56, cl56, tgK, lyK, rkK, wK, rfK, hr, qRes_eq, qNon_eq, qup_ap, vup_ap, vcpy_ap, kc8_0, kc8_1, kc8_2, lc_lt, lc_gt, lc_eq, Option.toList_some, Option.toList_none, List.cons_append, List.nil_append, lay_len, lay_sz, Nat.reduceAdd, Nat.reduceSub, Nat.reduceMul, Int.reduceToNat, Int.reduceLE, Int.reduceLT, Int.reduceEq, Int.reduceAdd, Int.reduceSub, Int.reduceMul, Int.reduceNeg, Nat.reduceLeDiff, Nat.reduceLT, true_and, and_true, false_and, and_false, qcat_0, qcat_1, qcat_3, qcat_9, Nat.reduceEqDiff, if_true, if_false, ite_self, or_true, true_or, or_false, false_or, forall_const, not_true_eq_false, not_false_eq_true, false_implies, implies_true, qtK0, qtK1, qtK2, qtK4, List.getD_cons_zero, List.getD_cons_succ, Int.toNat_natCast, ne_eq, qcK, hbF, bsetF, bclrF, ho, y_cpyC]
  exact hq
theorem TRr_w {F F1 G : XT} {tp w : Nat → Int} (h : TRr F F1 G tp w) (k : Nat) (v : Int) : TRr F F1 (qup G 118 k v) tp (fun j => if j = k then v else w j) := by
  obtain ⟨h1, h2, h3, h4, h5, h6⟩ := h
  refine ⟨Nrm_up h1 v (by decide), by rw [qup_c (by decide)]; exact h2, ?_, fun j hj => by rw [qup_c (by decide)]; exact h4 j hj, fun j hj => by rw [qup_c (by decide)]; exact h5 j hj, fun c hc => by rw [qup_c (by omega)]; exact h6 c hc⟩
  funext j
  rw [qup_ap, if_pos rfl, h3]
theorem r173 {tb : qTb} {F F1 : XT} {n ns na h o im : Nat} {up : Int} {R : Option qV → qM → Prop} (hA : FA) (hR : Rel F) (hd : DN F n ns na) (hh : h < n) (ho : F 23 1 = (o : Int)) (ho16 : o < 16) (hb0 : hbit (o : Int) (h : Int) = 0) (him : imF n o = (im : Int)) (hR1 : Rel F1) (h9 : ∀ c : Nat, 69 ≤ c → F1 c = F c) (hk : ∀ G, Rel G → R (some (0, frV (sm (fun j => (vS n ns na F (im : Int) (j + 2 ^ h) - vS n ns na F (im : Int) j) * dR (im : Int) (h : Int) (pBc (im : Int)) (j : Int)) (im + 1)) (fT (pBc (im : Int))) up)) (LAY, G)) : qW tb 173 (119, 1262) 0 [(3, 69), (0, (h : Int)), (0, up), (9, 0), (9, 0), (9, 0), (9, 0), (9, 0)] [] (LAY, F1) R := by
  have hD := hR.2.2.1
  have hn4 : n ≤ 4 := by have := hD.1; have := hd.1; omega
  have hna : na ≤ 12 := by have := hD.2.1; have := hd.2.2; omega
  have g2 : F 69 2 = (n : Int) := by rw [hD.1.1]; exact hd.1
  have h16 : 1 ≤ 2 ^ n ∧ 2 ^ n ≤ 16 := by
    have : n = 0 ∨ n = 1 ∨ n = 2 ∨ n = 3 ∨ n = 4 := by omega
    rcases this with rfl | rfl | rfl | rfl | rfl <;> decide
  obtain ⟨i1', i2', i3'⟩ := imK ⟨n, by omega⟩ ⟨o, ho16⟩
  have i3 := i3' ⟨h, by omega⟩ hh hb0
  dsimp only at i1' i2' i3
  rw [him] at i1' i2' i3
  have him16 : im < 16 := by omega
  have hA1 := shA ⟨im, him16⟩ ⟨h, by omega⟩ i3
  dsimp only at hA1
  have hbc := bcK ⟨im, him16⟩
  dsimp only at hbc
  have hfc := fT_r (a := pBc (im : Int)) (by omega)
  obtain ⟨fb, hfb⟩ : ∃ q : Nat, fT (pBc (im : Int)) = (q : Int) := ⟨(fT (pBc (im : Int))).toNat, by omega⟩
  have hs := sh_v n (by omega)
  have w0 : w32 (((2 ^ n : Nat) : Int) - 1) = ((2 ^ n : Nat) : Int) - 1 := w32_id ⟨by omega, by omega⟩
  have hvr : ∀ j, 0 ≤ vS n ns na F (im : Int) j ∧ vS n ns na F (im : Int) j ≤ 12 := fun j => by
    have := mT_r (pRunT n ns na 80 (trX F (tpS F n j) (wo n ns na F (im : Int) j), L0)).1 2 na
    unfold vS
    omega
  have hmul : ∀ j : Nat, j < 16 → -288 ≤ (vS n ns na F (im : Int) (j + 2 ^ h) - vS n ns na F (im : Int) j) * dR (im : Int) (h : Int) (pBc (im : Int)) (j : Int) ∧ (vS n ns na F (im : Int) (j + 2 ^ h) - vS n ns na F (im : Int) j) * dR (im : Int) (h : Int) (pBc (im : Int)) (j : Int) ≤ 288 := by
    intro j hj
    have q := (hA1.2 ⟨j, hj⟩).2.1
    dsimp only at q
    have v := hvr j
    have v2 := hvr (j + 2 ^ h)
    generalize dR (im : Int) (h : Int) (pBc (im : Int)) (j : Int) = c at *
    generalize vS n ns na F (im : Int) j = x at *
    generalize vS n ns na F (im : Int) (j + 2 ^ h) = y at *
    have t1 : -12 ≤ y - x := by omega
    have t2 : y - x ≤ 12 := by omega
    constructor
    · have := Int.mul_le_mul_of_nonneg_right t1 q.1
      omega
    · have := Int.mul_le_mul_of_nonneg_right t2 q.1
      omega
  have hfacts : ∀ G tp w, TRr F F1 G tp w → G 69 2 = (n : Int) := by
    intro G tp w hG
    rw [hG.1.2.2.1 2 (by decide) (by decide), layH_c (by decide), g2]
  -- the second turn
  have hsecond : ∀ (G : XT) (tp : Nat → Int), TRr F F1 G tp (wo n ns na F (im : Int) (im + 1)) → ∀ (m k : Nat) (v7 : qV), k + m = im + 1 → qW tb 173 (119, 1262) 131 [(3, 69), (0, (h : Int)), (0, up), (0, (im : Int)), (0, pBc (im : Int)), (0, sm (fun j => (vS n ns na F (im : Int) (j + 2 ^ h) - vS n ns na F (im : Int) j) * dR (im : Int) (h : Int) (pBc (im : Int)) (j : Int)) k), (0, (k : Int)), v7] [] (LAY, G) R := by
    intro G tp hG m
    have hr := Rf_k hG.1.1
    have hW := hG.2.2.1
    induction m with
    | zero =>
      intro k v7 hm
      have ek : k = im + 1 := by omega
      have b1 : ((im : Int) < (k : Int)) = True := eq_true (by omega)
      have hq := hk G (TRr_Rel hR1 h9 hG)
      have hsr := sm_r (f := fun j => (vS n ns na F (im : Int) (j + 2 ^ h) - vS n ns na F (im : Int) j) * dR (im : Int) (h : Int) (pBc (im : Int)) (j : Int)) (B := 288) k (fun j hj => hmul j (by omega))
      rw [← ek, hfb] at hq
      rw [h173_131]
      simp only [YK, c173, t173, cl108, tgK, lyK, rkK, wK, rfK, hr, qRes_eq, qNon_eq, qup_ap, vup_ap, vcpy_ap, kc8_0, kc8_1, kc8_2, lc_lt, lc_gt, lc_eq, Option.toList_some, Option.toList_none, List.cons_append, List.nil_append, lay_len, lay_sz, Nat.reduceAdd, Nat.reduceSub, Nat.reduceMul, Int.reduceToNat, Int.reduceLE, Int.reduceLT, Int.reduceEq, Int.reduceAdd, Int.reduceSub, Int.reduceMul, Int.reduceNeg, Nat.reduceLeDiff, Nat.reduceLT, true_and, and_true, false_and, and_false, qcat_0, qcat_1, qcat_3, qcat_9, Nat.reduceEqDiff, if_true, if_false, ite_self, or_true, true_or, or_false, false_or, forall_const, not_true_eq_false, not_false_eq_true, false_implies, implies_true, qtK0, qtK1, qtK2, qtK3, qtK4, List.getD_cons_zero, List.getD_cons_succ, Int.toNat_natCast, ne_eq, qcK, hbF, bsetF, bclrF, b1]
      refine r108 (pBc (im : Int)) (by omega) ?_
      rw [hfb]
      simp only [YK, c173, t173, cl110, tgK, lyK, rkK, wK, rfK, qRes_eq, qNon_eq, qup_ap, vup_ap, vcpy_ap, kc8_0, kc8_1, kc8_2, lc_lt, lc_gt, lc_eq, Option.toList_some, Option.toList_none, List.cons_append, List.nil_append, lay_len, lay_sz, Nat.reduceAdd, Nat.reduceSub, Nat.reduceMul, Int.reduceToNat, Int.reduceLE, Int.reduceLT, Int.reduceEq, Int.reduceAdd, Int.reduceSub, Int.reduceMul, Int.reduceNeg, Nat.reduceLeDiff, Nat.reduceLT, true_and, and_true, false_and, and_false, qcat_0, qcat_1, qcat_3, qcat_9, Nat.reduceEqDiff, if_true, if_false, ite_self, or_true, true_or, or_false, false_or, forall_const, not_true_eq_false, not_false_eq_true, false_implies, implies_true, qtK0, qtK1, qtK2, qtK3, qtK4, List.getD_cons_zero, List.getD_cons_succ, Int.toNat_natCast, ne_eq, qcK, hbF, bsetF, bclrF]
      refine r110 _ fb up (by omega) (by omega) ?_
      simp only [YK, c173, t173, tgK, lyK, rkK, wK, rfK, qRes_eq, qNon_eq, qup_ap, vup_ap, vcpy_ap, kc8_0, kc8_1, kc8_2, lc_lt, lc_gt, lc_eq, Option.toList_some, Option.toList_none, List.cons_append, List.nil_append, lay_len, lay_sz, Nat.reduceAdd, Nat.reduceSub, Nat.reduceMul, Int.reduceToNat, Int.reduceLE, Int.reduceLT, Int.reduceEq, Int.reduceAdd, Int.reduceSub, Int.reduceMul, Int.reduceNeg, Nat.reduceLeDiff, Nat.reduceLT, true_and, and_true, false_and, and_false, qcat_0, qcat_1, qcat_3, qcat_9, Nat.reduceEqDiff, if_true, if_false, ite_self, or_true, true_or, or_false, false_or, forall_const, not_true_eq_false, not_false_eq_true, false_implies, implies_true, qtK0, qtK1, qtK2, qtK3, qtK4, List.getD_cons_zero, List.getD_cons_succ, Int.toNat_natCast, ne_eq, qcK, hbF, bsetF, bclrF]
      exact hq
    | succ m ih =>
      intro k v7 hm
      have b1 : ((im : Int) < (k : Int)) = False := eq_false (by omega)
      have w1 : w32 ((k : Int) + 1) = ((k + 1 : Nat) : Int) := by rw [w32_id ⟨by omega, by omega⟩]; omega
      have q1 : (i1 (k : Int) &&& i1 (i1 (im : Int) ^^^ i1 (-1)).toInt).toInt = sb (im : Int) (k : Int) := rfl
      have hsr := sm_r (f := fun j => (vS n ns na F (im : Int) (j + 2 ^ h) - vS n ns na F (im : Int) j) * dR (im : Int) (h : Int) (pBc (im : Int)) (j : Int)) (B := 288) k (fun j hj => hmul j (by omega))
      have hmk := hmul k (by omega)
      have hi := fun v7 => ih (k + 1) v7 (by omega)
      unfold sm at hi
      rw [h173_131]
      by_cases c : sb (im : Int) (k : Int) = 0
      · by_cases cb : hbit (k : Int) (h : Int) = 1
        · have hd0 : dR (im : Int) (h : Int) (pBc (im : Int)) (k : Int) = 0 := by unfold dR; rw [if_neg (fun q => q.2 cb)]
          have hq := hi v7
          rw [hd0, Int.mul_zero, Int.add_zero] at hq
          simp only [YK, c173, t173, c105, t105, cl105, tgK, lyK, rkK, wK, rfK, hr, qRes_eq, qNon_eq, qup_ap, vup_ap, vcpy_ap, kc8_0, kc8_1, kc8_2, lc_lt, lc_gt, lc_eq, Option.toList_some, Option.toList_none, List.cons_append, List.nil_append, lay_len, lay_sz, Nat.reduceAdd, Nat.reduceSub, Nat.reduceMul, Int.reduceToNat, Int.reduceLE, Int.reduceLT, Int.reduceEq, Int.reduceAdd, Int.reduceSub, Int.reduceMul, Int.reduceNeg, Nat.reduceLeDiff, Nat.reduceLT, true_and, and_true, false_and, and_false, qcat_0, qcat_1, qcat_3, qcat_9, Nat.reduceEqDiff, if_true, if_false, ite_self, or_true, true_or, or_false, false_or, forall_const, not_true_eq_false, not_false_eq_true, false_implies, implies_true, qtK0, qtK1, qtK2, qtK3, qtK4, List.getD_cons_zero, List.getD_cons_succ, Int.toNat_natCast, ne_eq, qcK, hbF, bsetF, bclrF, b1, q1, c, cb, w1]
          exact hq
        · have hd0 : dR (im : Int) (h : Int) (pBc (im : Int)) (k : Int) = fT (pBc (k : Int)) * fT (pBc (im : Int) - 1 - pBc (k : Int)) := by unfold dR; rw [if_pos ⟨c, cb⟩]
          obtain ⟨x1, x2, x3, x4⟩ := (hA1.2 ⟨k, by omega⟩).2.2.2 c cb
          dsimp only at x1 x2 x3 x4
          have hbk := bcK ⟨k, by omega⟩
          dsimp only at hbk
          have y1 : wo n ns na F (im : Int) (im + 1) k = vS n ns na F (im : Int) k := wo_at c _ (by omega)
          have y2 : wo n ns na F (im : Int) (im + 1) (k + 2 ^ h) = vS n ns na F (im : Int) (k + 2 ^ h) := wo_at x2 _ (by omega)
          have b2 : (0 ≤ (k : Int) ∧ (k : Int) < 16) = True := eq_true (by omega)
          have b3 : (0 ≤ ((k + 2 ^ h : Nat) : Int) ∧ ((k + 2 ^ h : Nat) : Int) < 16) = True := eq_true ⟨Int.natCast_nonneg _, Int.ofNat_lt.mpr (show k + 2 ^ h < 16 by omega)⟩
          have f1 := fT_r (a := pBc (k : Int)) (by omega)
          have f2 := fT_r (a := pBc (im : Int) - 1 - pBc (k : Int)) (by omega)
          have u1 : w32 (pBc (im : Int) - 1) = pBc (im : Int) - 1 := w32_id ⟨by omega, by omega⟩
          have u2 : w32 (pBc (im : Int) - 1 - pBc (k : Int)) = pBc (im : Int) - 1 - pBc (k : Int) := w32_id ⟨by omega, by omega⟩
          have hq := hi (0, pBc (k : Int))
          have hdr := (hA1.2 ⟨k, by omega⟩).2.1
          dsimp only at hdr
          have u3 : w32 (fT (pBc (k : Int)) * fT (pBc (im : Int) - 1 - pBc (k : Int))) = dR (im : Int) (h : Int) (pBc (im : Int)) (k : Int) := by rw [← hd0]; exact w32_id ⟨by omega, by omega⟩
          have v1 := hvr k
          have v2 := hvr (k + 2 ^ h)
          have u4 : w32 (vS n ns na F (im : Int) (k + 2 ^ h) - vS n ns na F (im : Int) k) = vS n ns na F (im : Int) (k + 2 ^ h) - vS n ns na F (im : Int) k := w32_id ⟨by omega, by omega⟩
          have u5 : w32 (dR (im : Int) (h : Int) (pBc (im : Int)) (k : Int) * (vS n ns na F (im : Int) (k + 2 ^ h) - vS n ns na F (im : Int) k)) = (vS n ns na F (im : Int) (k + 2 ^ h) - vS n ns na F (im : Int) k) * dR (im : Int) (h : Int) (pBc (im : Int)) (k : Int) := by rw [Int.mul_comm]; exact w32_id ⟨by omega, by omega⟩
          have u6 : w32 (sm (fun j => (vS n ns na F (im : Int) (j + 2 ^ h) - vS n ns na F (im : Int) j) * dR (im : Int) (h : Int) (pBc (im : Int)) (j : Int)) k + (vS n ns na F (im : Int) (k + 2 ^ h) - vS n ns na F (im : Int) k) * dR (im : Int) (h : Int) (pBc (im : Int)) (k : Int)) = sm (fun j => (vS n ns na F (im : Int) (j + 2 ^ h) - vS n ns na F (im : Int) j) * dR (im : Int) (h : Int) (pBc (im : Int)) (j : Int)) k + (vS n ns na F (im : Int) (k + 2 ^ h) - vS n ns na F (im : Int) k) * dR (im : Int) (h : Int) (pBc (im : Int)) (k : Int) := w32_id ⟨by omega, by omega⟩
          simp only [YK, c173, t173, c105, t105, cl105, cl106, tgK, lyK, rkK, wK, rfK, hr, qRes_eq, qNon_eq, qup_ap, vup_ap, vcpy_ap, kc8_0, kc8_1, kc8_2, lc_lt, lc_gt, lc_eq, Option.toList_some, Option.toList_none, List.cons_append, List.nil_append, lay_len, lay_sz, Nat.reduceAdd, Nat.reduceSub, Nat.reduceMul, Int.reduceToNat, Int.reduceLE, Int.reduceLT, Int.reduceEq, Int.reduceAdd, Int.reduceSub, Int.reduceMul, Int.reduceNeg, Nat.reduceLeDiff, Nat.reduceLT, true_and, and_true, false_and, and_false, qcat_0, qcat_1, qcat_3, qcat_9, Nat.reduceEqDiff, if_true, if_false, ite_self, or_true, true_or, or_false, false_or, forall_const, not_true_eq_false, not_false_eq_true, false_implies, implies_true, qtK0, qtK1, qtK2, qtK3, qtK4, List.getD_cons_zero, List.getD_cons_succ, Int.toNat_natCast, ne_eq, qcK, hbF, bclrF, b1, q1, c, cb]
          refine r106 (k : Int) ?_
          rw [hbk.2]
          simp only [YK, c173, t173, cl108, tgK, lyK, rkK, wK, rfK, qRes_eq, qNon_eq, qup_ap, vup_ap, vcpy_ap, kc8_0, kc8_1, kc8_2, lc_lt, lc_gt, lc_eq, Option.toList_some, Option.toList_none, List.cons_append, List.nil_append, lay_len, lay_sz, Nat.reduceAdd, Nat.reduceSub, Nat.reduceMul, Int.reduceToNat, Int.reduceLE, Int.reduceLT, Int.reduceEq, Int.reduceAdd, Int.reduceSub, Int.reduceMul, Int.reduceNeg, Nat.reduceLeDiff, Nat.reduceLT, true_and, and_true, false_and, and_false, qcat_0, qcat_1, qcat_3, qcat_9, Nat.reduceEqDiff, if_true, if_false, ite_self, or_true, true_or, or_false, false_or, forall_const, not_true_eq_false, not_false_eq_true, false_implies, implies_true, qtK0, qtK1, qtK2, qtK3, qtK4, List.getD_cons_zero, List.getD_cons_succ, Int.toNat_natCast, ne_eq, qcK, hbF, bsetF, bclrF]
          refine r108 (pBc (k : Int)) (by omega) ?_
          simp only [YK, c173, t173, cl108, tgK, lyK, rkK, wK, rfK, qRes_eq, qNon_eq, qup_ap, vup_ap, vcpy_ap, kc8_0, kc8_1, kc8_2, lc_lt, lc_gt, lc_eq, Option.toList_some, Option.toList_none, List.cons_append, List.nil_append, lay_len, lay_sz, Nat.reduceAdd, Nat.reduceSub, Nat.reduceMul, Int.reduceToNat, Int.reduceLE, Int.reduceLT, Int.reduceEq, Int.reduceAdd, Int.reduceSub, Int.reduceMul, Int.reduceNeg, Nat.reduceLeDiff, Nat.reduceLT, true_and, and_true, false_and, and_false, qcat_0, qcat_1, qcat_3, qcat_9, Nat.reduceEqDiff, if_true, if_false, ite_self, or_true, true_or, or_false, false_or, forall_const, not_true_eq_false, not_false_eq_true, false_implies, implies_true, qtK0, qtK1, qtK2, qtK3, qtK4, List.getD_cons_zero, List.getD_cons_succ, Int.toNat_natCast, ne_eq, qcK, hbF, bsetF, bclrF, u1, u2]
          refine r108 (pBc (im : Int) - 1 - pBc (k : Int)) (by omega) ?_
          simp only [YK, c173, t173, tgK, lyK, rkK, wK, rfK, hr, qRes_eq, qNon_eq, qup_ap, vup_ap, vcpy_ap, kc8_0, kc8_1, kc8_2, lc_lt, lc_gt, lc_eq, Option.toList_some, Option.toList_none, List.cons_append, List.nil_append, lay_len, lay_sz, Nat.reduceAdd, Nat.reduceSub, Nat.reduceMul, Int.reduceToNat, Int.reduceLE, Int.reduceLT, Int.reduceEq, Int.reduceAdd, Int.reduceSub, Int.reduceMul, Int.reduceNeg, Nat.reduceLeDiff, Nat.reduceLT, true_and, and_true, false_and, and_false, qcat_0, qcat_1, qcat_3, qcat_9, Nat.reduceEqDiff, if_true, if_false, ite_self, or_true, true_or, or_false, false_or, forall_const, not_true_eq_false, not_false_eq_true, false_implies, implies_true, qtK0, qtK1, qtK2, qtK3, qtK4, List.getD_cons_zero, List.getD_cons_succ, Int.toNat_natCast, ne_eq, qcK, hbF, bclrF, u3, shF, bsetS, x1, hW, y1, y2, b2, b3, u4, u5, u6, w1]
          exact hq
      · have hd0 : dR (im : Int) (h : Int) (pBc (im : Int)) (k : Int) = 0 := by unfold dR; rw [if_neg (fun q => c q.1)]
        have hq := hi v7
        rw [hd0, Int.mul_zero, Int.add_zero] at hq
        simp only [YK, c173, t173, tgK, lyK, rkK, wK, rfK, hr, qRes_eq, qNon_eq, qup_ap, vup_ap, vcpy_ap, kc8_0, kc8_1, kc8_2, lc_lt, lc_gt, lc_eq, Option.toList_some, Option.toList_none, List.cons_append, List.nil_append, lay_len, lay_sz, Nat.reduceAdd, Nat.reduceSub, Nat.reduceMul, Int.reduceToNat, Int.reduceLE, Int.reduceLT, Int.reduceEq, Int.reduceAdd, Int.reduceSub, Int.reduceMul, Int.reduceNeg, Nat.reduceLeDiff, Nat.reduceLT, true_and, and_true, false_and, and_false, qcat_0, qcat_1, qcat_3, qcat_9, Nat.reduceEqDiff, if_true, if_false, ite_self, or_true, true_or, or_false, false_or, forall_const, not_true_eq_false, not_false_eq_true, false_implies, implies_true, qtK0, qtK1, qtK2, qtK3, qtK4, List.getD_cons_zero, List.getD_cons_succ, Int.toNat_natCast, ne_eq, qcK, hbF, bsetF, bclrF, b1, q1, c, w1]
        exact hq
  -- the first turn
  have hfirst : ∀ (m k : Nat) (G : XT) (tp : Nat → Int), k + m = im + 1 → TRr F F1 G tp (wo n ns na F (im : Int) k) → (∀ j : Nat, j < 5 → tp j = F 89 j) → qW tb 173 (119, 1262) 55 [(3, 69), (0, (h : Int)), (0, up), (0, (im : Int)), (0, (k : Int)), (9, 0), (9, 0), (9, 0)] [] (LAY, G) R := by
    intro m
    induction m with
    | zero =>
      intro k G tp hm hG htp
      have ek : k = im + 1 := by omega
      have b1 : ((im : Int) < (k : Int)) = True := eq_true (by omega)
      rw [ek] at hG
      have hq := hsecond G tp hG (im + 1) 0 (9, 0) (by omega)
      rw [h173_55]
      simp only [YK, c173, t173, cl106, tgK, lyK, rkK, wK, rfK, qRes_eq, qNon_eq, qup_ap, vup_ap, vcpy_ap, kc8_0, kc8_1, kc8_2, lc_lt, lc_gt, lc_eq, Option.toList_some, Option.toList_none, List.cons_append, List.nil_append, lay_len, lay_sz, Nat.reduceAdd, Nat.reduceSub, Nat.reduceMul, Int.reduceToNat, Int.reduceLE, Int.reduceLT, Int.reduceEq, Int.reduceAdd, Int.reduceSub, Int.reduceMul, Int.reduceNeg, Nat.reduceLeDiff, Nat.reduceLT, true_and, and_true, false_and, and_false, qcat_0, qcat_1, qcat_3, qcat_9, Nat.reduceEqDiff, if_true, if_false, ite_self, or_true, true_or, or_false, false_or, forall_const, not_true_eq_false, not_false_eq_true, false_implies, implies_true, qtK0, qtK1, qtK2, qtK3, qtK4, List.getD_cons_zero, List.getD_cons_succ, Int.toNat_natCast, ne_eq, qcK, hbF, bsetF, bclrF, b1]
      refine r106 (im : Int) ?_
      rw [hbc.2]
      simp only [YK, c173, t173, tgK, lyK, rkK, wK, rfK, qRes_eq, qNon_eq, qup_ap, vup_ap, vcpy_ap, kc8_0, kc8_1, kc8_2, lc_lt, lc_gt, lc_eq, Option.toList_some, Option.toList_none, List.cons_append, List.nil_append, lay_len, lay_sz, Nat.reduceAdd, Nat.reduceSub, Nat.reduceMul, Int.reduceToNat, Int.reduceLE, Int.reduceLT, Int.reduceEq, Int.reduceAdd, Int.reduceSub, Int.reduceMul, Int.reduceNeg, Nat.reduceLeDiff, Nat.reduceLT, true_and, and_true, false_and, and_false, qcat_0, qcat_1, qcat_3, qcat_9, Nat.reduceEqDiff, if_true, if_false, ite_self, or_true, true_or, or_false, false_or, forall_const, not_true_eq_false, not_false_eq_true, false_implies, implies_true, qtK0, qtK1, qtK2, qtK3, qtK4, List.getD_cons_zero, List.getD_cons_succ, Int.toNat_natCast, ne_eq, qcK, hbF, bsetF, bclrF]
      exact hq
    | succ m ih =>
      intro k G tp hm hG htp
      have hr := Rf_k hG.1.1
      have f2 := hfacts G tp _ hG
      have b1 : ((im : Int) < (k : Int)) = False := eq_false (by omega)
      have b2 : (0 ≤ (k : Int) ∧ (k : Int) < 16) = True := eq_true (by omega)
      have w1 : w32 ((k : Int) + 1) = ((k + 1 : Nat) : Int) := by rw [w32_id ⟨by omega, by omega⟩]; omega
      have q1 : (i1 (k : Int) &&& i1 (i1 (im : Int) ^^^ i1 (-1)).toInt).toInt = sb (im : Int) (k : Int) := rfl
      have q2 : (i1 (((2 ^ n : Nat) : Int) - 1) &&& i1 (i1 (k : Int) ^^^ i1 (-1)).toInt).toInt = imF n k := rfl
      rw [h173_55]
      by_cases c : sb (im : Int) (k : Int) = 0
      · have hG1 : TRr F F1 (qup G 90 5 (imF n k)) (tpS F n k) (wo n ns na F (im : Int) k) := by
          refine TRr_eq (TRr_up hG (k := 5) (by decide) (imF n k)) ?_
          intro j hj
          show (if j = 5 then imF n k else tp j) = tpS F n k j
          unfold tpS
          by_cases cj : j = 5
          · rw [if_pos cj, if_pos cj]
          · rw [if_neg cj, if_neg cj]; exact htp j (by omega)
        have hI := tr_Inv (w := wo n ns na F (im : Int) k) hR hd (tpS_PB hR hn4 (k := k) (by omega))
        simp only [YK, c173, t173, cl148, tgK, lyK, rkK, wK, rfK, hr, qRes_eq, qNon_eq, qup_ap, vup_ap, vcpy_ap, kc8_0, kc8_1, kc8_2, lc_lt, lc_gt, lc_eq, Option.toList_some, Option.toList_none, List.cons_append, List.nil_append, lay_len, lay_sz, Nat.reduceAdd, Nat.reduceSub, Nat.reduceMul, Int.reduceToNat, Int.reduceLE, Int.reduceLT, Int.reduceEq, Int.reduceAdd, Int.reduceSub, Int.reduceMul, Int.reduceNeg, Nat.reduceLeDiff, Nat.reduceLT, true_and, and_true, false_and, and_false, qcat_0, qcat_1, qcat_3, qcat_9, Nat.reduceEqDiff, if_true, if_false, ite_self, or_true, true_or, or_false, false_or, forall_const, not_true_eq_false, not_false_eq_true, false_implies, implies_true, qtK0, qtK1, qtK2, qtK3, qtK4, List.getD_cons_zero, List.getD_cons_succ, Int.toNat_natCast, ne_eq, qcK, hbF, bsetF, bclrF, b1, q1, c, f2, shF, hs, w0, q2]
        refine r_tr hA hG1 hI ?_
        clear hr
        intro G2 hRR hG2
        have hr := Rf_k hG2.1.1
        have hKP := KP_run (n := n) (ns := ns) (na := na) (S := (trX F (tpS F n k) (wo n ns na F (im : Int) k), L0)) 80
        have hG3 := TRr_w hG2 k (vS n ns na F (im : Int) k)
        have ew : (fun j => if j = k then vS n ns na F (im : Int) k else wo n ns na F (im : Int) k j) = wo n ns na F (im : Int) (k + 1) := by
          have : wo n ns na F (im : Int) (k + 1) = if sb (im : Int) (k : Int) = 0 then (fun j => if j = k then vS n ns na F (im : Int) k else wo n ns na F (im : Int) k j) else wo n ns na F (im : Int) k := rfl
          rw [this, if_pos c]
        rw [ew] at hG3
        have hi := ih (k + 1) _ (tpS F n k) (by omega) hG3 (fun j hj => by unfold tpS; rw [if_neg (by omega)])
        simp only [YK, c173, t173, cl151, tgK, lyK, rkK, wK, rfK, hr, qRes_eq, qNon_eq, qup_ap, vup_ap, vcpy_ap, kc8_0, kc8_1, kc8_2, lc_lt, lc_gt, lc_eq, Option.toList_some, Option.toList_none, List.cons_append, List.nil_append, lay_len, lay_sz, Nat.reduceAdd, Nat.reduceSub, Nat.reduceMul, Int.reduceToNat, Int.reduceLE, Int.reduceLT, Int.reduceEq, Int.reduceAdd, Int.reduceSub, Int.reduceMul, Int.reduceNeg, Nat.reduceLeDiff, Nat.reduceLT, true_and, and_true, false_and, and_false, qcat_0, qcat_1, qcat_3, qcat_9, Nat.reduceEqDiff, if_true, if_false, ite_self, or_true, true_or, or_false, false_or, forall_const, not_true_eq_false, not_false_eq_true, false_implies, implies_true, qtK0, qtK1, qtK2, qtK3, qtK4, List.getD_cons_zero, List.getD_cons_succ, Int.toNat_natCast, ne_eq, qcK, hbF, bsetF, bclrF]
        refine r151 hRR 2 na (by rw [hKP.2 3 (by decide)]; exact hI.1.2.2.1.1) hna ?_
        have ev : mT (pRunT n ns na 80 (trX F (tpS F n k) (wo n ns na F (im : Int) k), L0)).1 2 na = vS n ns na F (im : Int) k := rfl
        rw [ev]
        simp only [YK, c173, t173, tgK, lyK, rkK, wK, rfK, hr, qRes_eq, qNon_eq, qup_ap, vup_ap, vcpy_ap, kc8_0, kc8_1, kc8_2, lc_lt, lc_gt, lc_eq, Option.toList_some, Option.toList_none, List.cons_append, List.nil_append, lay_len, lay_sz, Nat.reduceAdd, Nat.reduceSub, Nat.reduceMul, Int.reduceToNat, Int.reduceLE, Int.reduceLT, Int.reduceEq, Int.reduceAdd, Int.reduceSub, Int.reduceMul, Int.reduceNeg, Nat.reduceLeDiff, Nat.reduceLT, true_and, and_true, false_and, and_false, qcat_0, qcat_1, qcat_3, qcat_9, Nat.reduceEqDiff, if_true, if_false, ite_self, or_true, true_or, or_false, false_or, forall_const, not_true_eq_false, not_false_eq_true, false_implies, implies_true, qtK0, qtK1, qtK2, qtK3, qtK4, List.getD_cons_zero, List.getD_cons_succ, Int.toNat_natCast, ne_eq, qcK, hbF, bsetF, bclrF, b2, w1]
        exact hi
      · have ew : wo n ns na F (im : Int) (k + 1) = wo n ns na F (im : Int) k := by
          show (if sb (im : Int) (k : Int) = 0 then _ else _) = _
          rw [if_neg c]
        have hi := ih (k + 1) G tp (by omega) (by rw [ew]; exact hG) htp
        simp only [YK, c173, t173, tgK, lyK, rkK, wK, rfK, hr, qRes_eq, qNon_eq, qup_ap, vup_ap, vcpy_ap, kc8_0, kc8_1, kc8_2, lc_lt, lc_gt, lc_eq, Option.toList_some, Option.toList_none, List.cons_append, List.nil_append, lay_len, lay_sz, Nat.reduceAdd, Nat.reduceSub, Nat.reduceMul, Int.reduceToNat, Int.reduceLE, Int.reduceLT, Int.reduceEq, Int.reduceAdd, Int.reduceSub, Int.reduceMul, Int.reduceNeg, Nat.reduceLeDiff, Nat.reduceLT, true_and, and_true, false_and, and_false, qcat_0, qcat_1, qcat_3, qcat_9, Nat.reduceEqDiff, if_true, if_false, ite_self, or_true, true_or, or_false, false_or, forall_const, not_true_eq_false, not_false_eq_true, false_implies, implies_true, qtK0, qtK1, qtK2, qtK3, qtK4, List.getD_cons_zero, List.getD_cons_succ, Int.toNat_natCast, ne_eq, qcK, hbF, bsetF, bclrF, b1, q1, c, w1]
        exact hi
  have hr := Rf_k hR1.1
  have f2 : F1 69 2 = (n : Int) := by rw [h9 69 (by decide)]; exact g2
  have f89 : F1 89 5 = (o : Int) := by rw [h9 89 (by decide), hR.2.2.2.1.2.2]; exact ho
  have q3 : (i1 (((2 ^ n : Nat) : Int) - 1) &&& i1 (i1 (o : Int) ^^^ i1 (-1)).toInt).toInt = (im : Int) := him
  simp only [YK, c173, t173, cl157, tgK, lyK, rkK, wK, rfK, hr, qRes_eq, qNon_eq, qup_ap, vup_ap, vcpy_ap, kc8_0, kc8_1, kc8_2, lc_lt, lc_gt, lc_eq, Option.toList_some, Option.toList_none, List.cons_append, List.nil_append, lay_len, lay_sz, Nat.reduceAdd, Nat.reduceSub, Nat.reduceMul, Int.reduceToNat, Int.reduceLE, Int.reduceLT, Int.reduceEq, Int.reduceAdd, Int.reduceSub, Int.reduceMul, Int.reduceNeg, Nat.reduceLeDiff, Nat.reduceLT, true_and, and_true, false_and, and_false, qcat_0, qcat_1, qcat_3, qcat_9, Nat.reduceEqDiff, if_true, if_false, ite_self, or_true, true_or, or_false, false_or, forall_const, not_true_eq_false, not_false_eq_true, false_implies, implies_true, qtK0, qtK1, qtK2, qtK3, qtK4, List.getD_cons_zero, List.getD_cons_succ, Int.toNat_natCast, ne_eq, qcK, hbF, bsetF, bclrF]
  refine r157 hR1.1 (h : Int) n f2 hn4 ?_
  rw [b01_t (by omega)]
  simp only [YK, c173, t173, c105, t105, cl105, cl165, tgK, lyK, rkK, wK, rfK, hr, qRes_eq, qNon_eq, qup_ap, vup_ap, vcpy_ap, kc8_0, kc8_1, kc8_2, lc_lt, lc_gt, lc_eq, Option.toList_some, Option.toList_none, List.cons_append, List.nil_append, lay_len, lay_sz, Nat.reduceAdd, Nat.reduceSub, Nat.reduceMul, Int.reduceToNat, Int.reduceLE, Int.reduceLT, Int.reduceEq, Int.reduceAdd, Int.reduceSub, Int.reduceMul, Int.reduceNeg, Nat.reduceLeDiff, Nat.reduceLT, true_and, and_true, false_and, and_false, qcat_0, qcat_1, qcat_3, qcat_9, Nat.reduceEqDiff, if_true, if_false, ite_self, or_true, true_or, or_false, false_or, forall_const, not_true_eq_false, not_false_eq_true, false_implies, implies_true, qtK0, qtK1, qtK2, qtK3, qtK4, List.getD_cons_zero, List.getD_cons_succ, Int.toNat_natCast, ne_eq, qcK, hbF, bsetF, bclrF, f89, hb0, f2, shF, hs, w0, q3]
  refine r165 hR1.1 ?_
  simp only [YK, c173, t173, cl150, tgK, lyK, rkK, wK, rfK, qRes_eq, qNon_eq, qup_ap, vup_ap, vcpy_ap, kc8_0, kc8_1, kc8_2, lc_lt, lc_gt, lc_eq, Option.toList_some, Option.toList_none, List.cons_append, List.nil_append, lay_len, lay_sz, Nat.reduceAdd, Nat.reduceSub, Nat.reduceMul, Int.reduceToNat, Int.reduceLE, Int.reduceLT, Int.reduceEq, Int.reduceAdd, Int.reduceSub, Int.reduceMul, Int.reduceNeg, Nat.reduceLeDiff, Nat.reduceLT, true_and, and_true, false_and, and_false, qcat_0, qcat_1, qcat_3, qcat_9, Nat.reduceEqDiff, if_true, if_false, ite_self, or_true, true_or, or_false, false_or, forall_const, not_true_eq_false, not_false_eq_true, false_implies, implies_true, qtK0, qtK1, qtK2, qtK3, qtK4, List.getD_cons_zero, List.getD_cons_succ, Int.toNat_natCast, ne_eq, qcK, hbF, bsetF, bclrF]
  refine r150 (layT_Rf hR1.1) ?_
  have hq := hfirst (im + 1) 0 (layH (layT F1)) (F 89) (by omega) (TRr_lay hR1.1 h9) (fun _ _ => rfl)
  simp only [YK, c173, t173, tgK, lyK, rkK, wK, rfK, qRes_eq, qNon_eq, qup_ap, vup_ap, vcpy_ap, kc8_0, kc8_1, kc8_2, lc_lt, lc_gt, lc_eq, Option.toList_some, Option.toList_none, List.cons_append, List.nil_append, lay_len, lay_sz, Nat.reduceAdd, Nat.reduceSub, Nat.reduceMul, Int.reduceToNat, Int.reduceLE, Int.reduceLT, Int.reduceEq, Int.reduceAdd, Int.reduceSub, Int.reduceMul, Int.reduceNeg, Nat.reduceLeDiff, Nat.reduceLT, true_and, and_true, false_and, and_false, qcat_0, qcat_1, qcat_3, qcat_9, Nat.reduceEqDiff, if_true, if_false, ite_self, or_true, true_or, or_false, false_or, forall_const, not_true_eq_false, not_false_eq_true, false_implies, implies_true, qtK0, qtK1, qtK2, qtK3, qtK4, List.getD_cons_zero, List.getD_cons_succ, Int.toNat_natCast, ne_eq, qcK, hbF, bsetF, bclrF]
  exact hq
theorem H_share {L : Nat} {xs : Nat → Int} (hA : FA) (F : Nat → Nat → Int) (h up : Int) (hR : Rel F) : qPair (qtab L xs) Rel 0 87 173 [(3, 0), (0, h), (0, up), (9, 0), (9, 0), (9, 0), (9, 0), (9, 0)] [(3, 69), (0, h), (0, up), (9, 0), (9, 0), (9, 0), (9, 0), (9, 0)] F := by
  apply qPair_of
  obtain ⟨n, ns, na, hd⟩ := DN_of hR
  have hn4 : n ≤ 4 := by have := hR.2.2.1.1; have := hd.1; omega
  have hna : na ≤ 12 := by have := hR.2.2.1.2.1; have := hd.2.2; omega
  have hr := Rf_k hR.1
  have g2 : F 69 2 = (n : Int) := by rw [hR.2.2.1.1.1]; exact hd.1
  have hpo := hR.2.2.2.1.1.2.2.2.2.2
  obtain ⟨o, ho⟩ : ∃ q : Nat, F 23 1 = (q : Int) := ⟨(F 23 1).toNat, by omega⟩
  have f89 : F 89 5 = (o : Int) := by rw [hR.2.2.2.1.2.2]; exact ho
  by_cases c : 0 ≤ h ∧ h < (n : Int)
  · obtain ⟨h, rfl⟩ : ∃ q : Nat, h = (q : Int) := ⟨h.toNat, by omega⟩
    by_cases cb : hbit (o : Int) (h : Int) = 1
    · simp only [YK, c87, t87, cl64, tgK, lyK, rkK, wK, rfK, hr, qRes_eq, qNon_eq, qup_ap, vup_ap, vcpy_ap, kc8_0, kc8_1, kc8_2, lc_lt, lc_gt, lc_eq, Option.toList_some, Option.toList_none, List.cons_append, List.nil_append, lay_len, lay_sz, Nat.reduceAdd, Nat.reduceSub, Nat.reduceMul, Int.reduceToNat, Int.reduceLE, Int.reduceLT, Int.reduceEq, Int.reduceAdd, Int.reduceSub, Int.reduceMul, Int.reduceNeg, Nat.reduceLeDiff, Nat.reduceLT, true_and, and_true, false_and, and_false, qcat_0, qcat_1, qcat_3, qcat_9, Nat.reduceEqDiff, if_true, if_false, ite_self, or_true, true_or, or_false, false_or, forall_const, not_true_eq_false, not_false_eq_true, false_implies, implies_true, qtK0, qtK1, qtK2, qtK4, List.getD_cons_zero, List.getD_cons_succ, Int.toNat_natCast, ne_eq, qcK, hbF, bsetF, bclrF]
      refine k64 hR.1 (h : Int) n hd.1 ?_
      rw [b01_t c]
      simp only [YK, c87, t87, c57, t57, c173, t173, cl57, cl157, tgK, lyK, rkK, wK, rfK, hr, qRes_eq, qNon_eq, qup_ap, vup_ap, vcpy_ap, kc8_0, kc8_1, kc8_2, lc_lt, lc_gt, lc_eq, Option.toList_some, Option.toList_none, List.cons_append, List.nil_append, lay_len, lay_sz, Nat.reduceAdd, Nat.reduceSub, Nat.reduceMul, Int.reduceToNat, Int.reduceLE, Int.reduceLT, Int.reduceEq, Int.reduceAdd, Int.reduceSub, Int.reduceMul, Int.reduceNeg, Nat.reduceLeDiff, Nat.reduceLT, true_and, and_true, false_and, and_false, qcat_0, qcat_1, qcat_3, qcat_9, Nat.reduceEqDiff, if_true, if_false, ite_self, or_true, true_or, or_false, false_or, forall_const, not_true_eq_false, not_false_eq_true, false_implies, implies_true, qtK0, qtK1, qtK2, qtK4, List.getD_cons_zero, List.getD_cons_succ, Int.toNat_natCast, ne_eq, qcK, hbF, bsetF, bclrF, ho, cb]
      refine r157 hR.1 (h : Int) n g2 hn4 ?_
      rw [b01_t c]
      simp only [YK, c173, t173, c105, t105, cl105, tgK, lyK, rkK, wK, rfK, hr, qRes_eq, qNon_eq, qup_ap, vup_ap, vcpy_ap, kc8_0, kc8_1, kc8_2, lc_lt, lc_gt, lc_eq, Option.toList_some, Option.toList_none, List.cons_append, List.nil_append, lay_len, lay_sz, Nat.reduceAdd, Nat.reduceSub, Nat.reduceMul, Int.reduceToNat, Int.reduceLE, Int.reduceLT, Int.reduceEq, Int.reduceAdd, Int.reduceSub, Int.reduceMul, Int.reduceNeg, Nat.reduceLeDiff, Nat.reduceLT, true_and, and_true, false_and, and_false, qcat_0, qcat_1, qcat_3, qcat_9, Nat.reduceEqDiff, if_true, if_false, ite_self, or_true, true_or, or_false, false_or, forall_const, not_true_eq_false, not_false_eq_true, false_implies, implies_true, qtK0, qtK1, qtK2, qtK3, qtK4, List.getD_cons_zero, List.getD_cons_succ, Int.toNat_natCast, ne_eq, qcK, hbF, bsetF, bclrF, f89, cb]
      exact hR
    · have hb0 : hbit (o : Int) (h : Int) = 0 := by have := hbit_r (o : Int) h (by omega); omega
      obtain ⟨j1, j2, j3⟩ := imK ⟨n, by omega⟩ ⟨o, by omega⟩
      have j3 := j3 ⟨h, by omega⟩ (by dsimp only; omega) hb0
      dsimp only at j1 j2 j3
      have h16 : 1 ≤ 2 ^ n ∧ 2 ^ n ≤ 16 := by
        have : n = 0 ∨ n = 1 ∨ n = 2 ∨ n = 3 ∨ n = 4 := by omega
        rcases this with rfl | rfl | rfl | rfl | rfl <;> decide
      obtain ⟨im, him⟩ : ∃ q : Nat, imF n o = (q : Int) := ⟨(imF n o).toNat, by omega⟩
      rw [him] at j1 j2 j3
      have him16 : im < 16 := by omega
      have hA1 := shA ⟨im, him16⟩ ⟨h, by omega⟩ j3
      dsimp only at hA1
      have es := sh_sum him16 (by omega : h < 4) j3 (vS n ns na F (im : Int))
      have e1 := sm_z (f := fun j => vS n ns na F (im : Int) j * cC (im : Int) (h : Int) (pBc (im : Int)) (j : Int)) (k := 2 ^ n) (16 - 2 ^ n) (fun j a1 a2 => by
        have q := (hA1.2 ⟨j, by omega⟩).2.2.1
        dsimp only at q
        have : ¬ sb (im : Int) (j : Int) = 0 := fun hs => by have := q hs; omega
        unfold cC
        rw [if_neg this, Int.mul_zero])
      have e2 := sm_z (f := fun j => (vS n ns na F (im : Int) (j + 2 ^ h) - vS n ns na F (im : Int) j) * dR (im : Int) (h : Int) (pBc (im : Int)) (j : Int)) (k := im + 1) (16 - (im + 1)) (fun j a1 a2 => by
        have q := (hA1.2 ⟨j, by omega⟩).2.2.1
        dsimp only at q
        have : ¬ sb (im : Int) (j : Int) = 0 := fun hs => by have := q hs; omega
        unfold dR
        rw [if_neg (fun r => this r.1), Int.mul_zero])
      have n1 : 2 ^ n + (16 - 2 ^ n) = 16 := by omega
      have n2 : im + 1 + (16 - (im + 1)) = 16 := by omega
      rw [n1] at e1
      rw [n2] at e2
      refine k87 (fun a => rfl) rfl hA hR hd hn4 hna (by omega) ho (by omega) hb0 him ?_
      intro G hG
      rw [qRes_eq]
      refine r173 hA hR hd (by omega) ho (by omega) hb0 him (TFr_Rel hR hG) (TFr_69 hG) ?_
      intro G2 hG2
      rw [qRes_eq]
      refine ⟨?_, hG2⟩
      rw [← e1, ← e2, es]
  · simp only [YK, c87, t87, cl64, tgK, lyK, rkK, wK, rfK, hr, qRes_eq, qNon_eq, qup_ap, vup_ap, vcpy_ap, kc8_0, kc8_1, kc8_2, lc_lt, lc_gt, lc_eq, Option.toList_some, Option.toList_none, List.cons_append, List.nil_append, lay_len, lay_sz, Nat.reduceAdd, Nat.reduceSub, Nat.reduceMul, Int.reduceToNat, Int.reduceLE, Int.reduceLT, Int.reduceEq, Int.reduceAdd, Int.reduceSub, Int.reduceMul, Int.reduceNeg, Nat.reduceLeDiff, Nat.reduceLT, true_and, and_true, false_and, and_false, qcat_0, qcat_1, qcat_3, qcat_9, Nat.reduceEqDiff, if_true, if_false, ite_self, or_true, true_or, or_false, false_or, forall_const, not_true_eq_false, not_false_eq_true, false_implies, implies_true, qtK0, qtK1, qtK2, qtK4, List.getD_cons_zero, List.getD_cons_succ, Int.toNat_natCast, ne_eq, qcK, hbF, bsetF, bclrF]
    refine k64 hR.1 h n hd.1 ?_
    rw [b01_f c]
    simp only [YK, c87, t87, c173, t173, cl157, tgK, lyK, rkK, wK, rfK, hr, qRes_eq, qNon_eq, qup_ap, vup_ap, vcpy_ap, kc8_0, kc8_1, kc8_2, lc_lt, lc_gt, lc_eq, Option.toList_some, Option.toList_none, List.cons_append, List.nil_append, lay_len, lay_sz, Nat.reduceAdd, Nat.reduceSub, Nat.reduceMul, Int.reduceToNat, Int.reduceLE, Int.reduceLT, Int.reduceEq, Int.reduceAdd, Int.reduceSub, Int.reduceMul, Int.reduceNeg, Nat.reduceLeDiff, Nat.reduceLT, true_and, and_true, false_and, and_false, qcat_0, qcat_1, qcat_3, qcat_9, Nat.reduceEqDiff, if_true, if_false, ite_self, or_true, true_or, or_false, false_or, forall_const, not_true_eq_false, not_false_eq_true, false_implies, implies_true, qtK0, qtK1, qtK2, qtK4, List.getD_cons_zero, List.getD_cons_succ, Int.toNat_natCast, ne_eq, qcK, hbF, bsetF, bclrF]
    refine r157 hR.1 h n g2 hn4 ?_
    rw [b01_f c]
    simp only [YK, c173, t173, tgK, lyK, rkK, wK, rfK, qRes_eq, qNon_eq, qup_ap, vup_ap, vcpy_ap, kc8_0, kc8_1, kc8_2, lc_lt, lc_gt, lc_eq, Option.toList_some, Option.toList_none, List.cons_append, List.nil_append, lay_len, lay_sz, Nat.reduceAdd, Nat.reduceSub, Nat.reduceMul, Int.reduceToNat, Int.reduceLE, Int.reduceLT, Int.reduceEq, Int.reduceAdd, Int.reduceSub, Int.reduceMul, Int.reduceNeg, Nat.reduceLeDiff, Nat.reduceLT, true_and, and_true, false_and, and_false, qcat_0, qcat_1, qcat_3, qcat_9, Nat.reduceEqDiff, if_true, if_false, ite_self, or_true, true_or, or_false, false_or, forall_const, not_true_eq_false, not_false_eq_true, false_implies, implies_true, qtK0, qtK1, qtK2, qtK3, qtK4, List.getD_cons_zero, List.getD_cons_succ, Int.toNat_natCast, ne_eq, qcK, hbF, bsetF, bclrF]
    exact hR
