/-! the reference: second copies, works that begin -/
/-- whether a number is more than so many times a float -/
def isF (v k b : Int) : Bool := decide (0 < (Op.cmpValue (FP.fcmp (FP.i2f (i1 v)) (FP.fmul (FP.i2f (i1 k)) (f1 b))) .l).toInt)
def ISOK (v k b : Int) : Prop := ∀ (tb : qTb) (F : XT) (R : Option qV → qM → Prop), R (some (0, bi (isF v k b))) (LAY, F) → qW tb 116 (119, 1262) 0 [(0, v), (0, k), (0, b), (9, 0)] [] (LAY, F) R
def pHed (n : Nat) (t : Int) (a : Nat) (S : XT × LT) : XT × LT := if S.1 98 a = 1 ∧ cpTo S.2 (a : Int) n = 1 ∧ S.1 102 a = 0 ∧ isF (w32 (t - S.1 96 a)) (S.1 97 2) (S.1 69 63) = true ∧ 8 ≤ S.1 69 62 then pSend n (qup (qup (qup S.1 69 62 (w32 (S.1 69 62 - 8))) 102 a 1) 69 66 (w32 (S.1 69 66 + 1)), S.2) (a : Int) t else S
def pHeds (n na : Nat) (t : Int) (S : XT × LT) : XT × LT := if 0 < S.1 97 2 then itr (pHed n t) na S else S
theorem r146 {tb : qTb} {C X F : XT} {L : LT} {R : Option qV → qM → Prop} (hR : RR C X L F) (n na : Nat) (t : Int) (P : XT × LT → Prop) (hPS : P (X, L)) (hP : ∀ a S, a < na → P S → P (pHed n t a S)) (hc : ∀ S, P S → SendC n na S ∧ S.1 97 2 = X 97 2 ∧ ∀ a : Nat, a < na → S.1 98 a = 1 → ISOK (w32 (t - S.1 96 a)) (S.1 97 2) (S.1 69 63)) (hk : ∀ F2, RR C (pHeds n na t (X, L)).1 (pHeds n na t (X, L)).2 F2 → P (pHeds n na t (X, L)) → R none (LAY, F2)) : qW tb 146 (119, 1262) 0 [(3, 69), (0, t), (9, 0), (9, 0)] [] (LAY, F) R := by
  have hr := Rf_k hR.rf
  have hx := hR.k
  by_cases c0 : 0 < X 97 2
  · unfold pHeds at hk
    simp only [if_pos c0] at hk
    have hloop : ∀ (m a : Nat) (F : XT) (v3 : qV), a + m = na → RR C (itr (pHed n t) a (X, L)).1 (itr (pHed n t) a (X, L)).2 F → P (itr (pHed n t) a (X, L)) → qW tb 146 (119, 1262) 2 [(3, 69), (0, t), (0, (a : Int)), v3] [] (LAY, F) R := by
      intro m
      induction m with
      | zero =>
        intro a F v3 he hR hPa
        have hr := Rf_k hR.rf
        have hx := hR.k
        obtain ⟨⟨g1, g2, g3, g4, g5, g6⟩, g7, g8⟩ := hc _ hPa
        have b1 : ((a : Int) < (na : Int)) = False := eq_false (by omega)
        have e : a = na := by omega
        subst e
        have hq := hk F hR hPa
        rw [h146_2]
        simp only [YK, c146, t146, tgK, lyK, rkK, wK, rfK, hr, qRes_eq, qNon_eq, qup_ap, vup_ap, vcpy_ap, kc8_0, kc8_1, kc8_2, lc_lt, lc_gt, lc_eq, Option.toList_some, Option.toList_none, List.cons_append, List.nil_append, lay_len, lay_sz, Nat.reduceAdd, Nat.reduceSub, Nat.reduceMul, Int.reduceToNat, Int.reduceLE, Int.reduceLT, Int.reduceEq, Int.reduceAdd, Int.reduceSub, Int.reduceMul, Int.reduceNeg, Nat.reduceLeDiff, Nat.reduceLT, true_and, and_true, false_and, and_false, qcat_0, qcat_1, qcat_3, qcat_9, Nat.reduceEqDiff, if_true, if_false, ite_self, or_true, true_or, or_false, false_or, forall_const, not_true_eq_false, not_false_eq_true, false_implies, implies_true, qtK0, qtK1, qtK2, qtK3, qtK4, List.getD_cons_zero, List.getD_cons_succ, hx, Int.toNat_natCast, ne_eq, qcK, g3, b1]
        exact hq
      | succ m ih =>
        intro a F v3 he hR hPa
        have hr := Rf_k hR.rf
        have hx := hR.k
        obtain ⟨⟨g1, g2, g3, g4, g5, g6⟩, g7, g8⟩ := hc _ hPa
        have b1 : ((a : Int) < (na : Int)) = True := eq_true (by omega)
        have b2 : (0 ≤ (a : Int) ∧ (a : Int) < 12) = True := eq_true (by omega)
        have w1 : w32 ((a : Int) + 1) = ((a + 1 : Nat) : Int) := by rw [w32_id ⟨by omega, by omega⟩]; omega
        have hn := hP a _ (by omega) hPa
        have hi := fun F2 v h => ih (a + 1) F2 (0, v) (by omega) h hn
        unfold itr at hi
        generalize hSS : itr (pHed n t) a (X, L) = S at *
        unfold pHed at hi
        have c0' : (0 < S.1 97 2) = True := eq_true (by omega)
        rw [h146_2]
        by_cases c1 : S.1 98 a = 1
        · simp only [YK, c146, t146, cl129, tgK, lyK, rkK, wK, rfK, hr, qRes_eq, qNon_eq, qup_ap, vup_ap, vcpy_ap, kc8_0, kc8_1, kc8_2, lc_lt, lc_gt, lc_eq, Option.toList_some, Option.toList_none, List.cons_append, List.nil_append, lay_len, lay_sz, Nat.reduceAdd, Nat.reduceSub, Nat.reduceMul, Int.reduceToNat, Int.reduceLE, Int.reduceLT, Int.reduceEq, Int.reduceAdd, Int.reduceSub, Int.reduceMul, Int.reduceNeg, Nat.reduceLeDiff, Nat.reduceLT, true_and, and_true, false_and, and_false, qcat_0, qcat_1, qcat_3, qcat_9, Nat.reduceEqDiff, if_true, if_false, ite_self, or_true, true_or, or_false, false_or, forall_const, not_true_eq_false, not_false_eq_true, false_implies, implies_true, qtK0, qtK1, qtK2, qtK3, qtK4, List.getD_cons_zero, List.getD_cons_succ, hx, Int.toNat_natCast, ne_eq, qcK, g3, b1, b2, c1, c0', w1]
          refine r129 hR (a : Int) n g1 g2 ?_
          by_cases c2 : cpTo S.2 (a : Int) n = 1
          · by_cases c3 : S.1 102 a = 0
            · simp only [YK, c146, t146, cl116, tgK, lyK, rkK, wK, rfK, hr, qRes_eq, qNon_eq, qup_ap, vup_ap, vcpy_ap, kc8_0, kc8_1, kc8_2, lc_lt, lc_gt, lc_eq, Option.toList_some, Option.toList_none, List.cons_append, List.nil_append, lay_len, lay_sz, Nat.reduceAdd, Nat.reduceSub, Nat.reduceMul, Int.reduceToNat, Int.reduceLE, Int.reduceLT, Int.reduceEq, Int.reduceAdd, Int.reduceSub, Int.reduceMul, Int.reduceNeg, Nat.reduceLeDiff, Nat.reduceLT, true_and, and_true, false_and, and_false, qcat_0, qcat_1, qcat_3, qcat_9, Nat.reduceEqDiff, if_true, if_false, ite_self, or_true, true_or, or_false, false_or, forall_const, not_true_eq_false, not_false_eq_true, false_implies, implies_true, qtK0, qtK1, qtK2, qtK3, qtK4, List.getD_cons_zero, List.getD_cons_succ, hx, Int.toNat_natCast, ne_eq, qcK, b2, c2, c3, w1]
              refine g8 a (by omega) c1 tb _ _ ?_
              cases hb : isF (w32 (t - S.1 96 a)) (S.1 97 2) (S.1 69 63)
              · rw [bi_f]
                rw [hb, if_neg (fun q => Bool.noConfusion q.2.2.2.1)] at hi
                have hq := hi F 0 hR
                simp only [YK, c146, t146, cl116, tgK, lyK, rkK, wK, rfK, hr, qRes_eq, qNon_eq, qup_ap, vup_ap, vcpy_ap, kc8_0, kc8_1, kc8_2, lc_lt, lc_gt, lc_eq, Option.toList_some, Option.toList_none, List.cons_append, List.nil_append, lay_len, lay_sz, Nat.reduceAdd, Nat.reduceSub, Nat.reduceMul, Int.reduceToNat, Int.reduceLE, Int.reduceLT, Int.reduceEq, Int.reduceAdd, Int.reduceSub, Int.reduceMul, Int.reduceNeg, Nat.reduceLeDiff, Nat.reduceLT, true_and, and_true, false_and, and_false, qcat_0, qcat_1, qcat_3, qcat_9, Nat.reduceEqDiff, if_true, if_false, ite_self, or_true, true_or, or_false, false_or, forall_const, not_true_eq_false, not_false_eq_true, false_implies, implies_true, qtK0, qtK1, qtK2, qtK3, qtK4, List.getD_cons_zero, List.getD_cons_succ, hx, Int.toNat_natCast, ne_eq, qcK, b2, c2, c3, w1]
                exact hq
              · rw [bi_t]
                by_cases c4 : S.1 69 62 < 8
                · rw [if_neg (fun q => absurd q.2.2.2.2 (by omega))] at hi
                  have hq := hi F 1 hR
                  simp only [YK, c146, t146, cl136, tgK, lyK, rkK, wK, rfK, hr, qRes_eq, qNon_eq, qup_ap, vup_ap, vcpy_ap, kc8_0, kc8_1, kc8_2, lc_lt, lc_gt, lc_eq, Option.toList_some, Option.toList_none, List.cons_append, List.nil_append, lay_len, lay_sz, Nat.reduceAdd, Nat.reduceSub, Nat.reduceMul, Int.reduceToNat, Int.reduceLE, Int.reduceLT, Int.reduceEq, Int.reduceAdd, Int.reduceSub, Int.reduceMul, Int.reduceNeg, Nat.reduceLeDiff, Nat.reduceLT, true_and, and_true, false_and, and_false, qcat_0, qcat_1, qcat_3, qcat_9, Nat.reduceEqDiff, if_true, if_false, ite_self, or_true, true_or, or_false, false_or, forall_const, not_true_eq_false, not_false_eq_true, false_implies, implies_true, qtK0, qtK1, qtK2, qtK3, qtK4, List.getD_cons_zero, List.getD_cons_succ, hx, Int.toNat_natCast, ne_eq, qcK, b2, c2, c3, c4, w1]
                  exact hq
                · rw [if_pos ⟨c1, c2, c3, hb, by omega⟩] at hi
                  simp only [YK, c146, t146, cl136, tgK, lyK, rkK, wK, rfK, hr, qRes_eq, qNon_eq, qup_ap, vup_ap, vcpy_ap, kc8_0, kc8_1, kc8_2, lc_lt, lc_gt, lc_eq, Option.toList_some, Option.toList_none, List.cons_append, List.nil_append, lay_len, lay_sz, Nat.reduceAdd, Nat.reduceSub, Nat.reduceMul, Int.reduceToNat, Int.reduceLE, Int.reduceLT, Int.reduceEq, Int.reduceAdd, Int.reduceSub, Int.reduceMul, Int.reduceNeg, Nat.reduceLeDiff, Nat.reduceLT, true_and, and_true, false_and, and_false, qcat_0, qcat_1, qcat_3, qcat_9, Nat.reduceEqDiff, if_true, if_false, ite_self, or_true, true_or, or_false, false_or, forall_const, not_true_eq_false, not_false_eq_true, false_implies, implies_true, qtK0, qtK1, qtK2, qtK3, qtK4, List.getD_cons_zero, List.getD_cons_succ, hx, Int.toNat_natCast, ne_eq, qcK, b2, c2, c3, c4, w1]
                  refine r136 (((hR.up (w32 (S.1 69 62 - 8)) (c := 69) (j := 62) (by unfold nl; decide) (by decide)).upA a 1 (c := 102) (by unfold nl; decide) (by decide)).up (w32 (S.1 69 66 + 1)) (c := 69) (j := 66) (by unfold nl; decide) (by decide)) (a : Int) t n g1 g2 ⟨by omega, by omega⟩ g5 g6 ?_
                  intro F2 hF2
                  have hq := hi F2 1 hF2
                  simp only [YK, c146, t146, tgK, lyK, rkK, wK, rfK, qRes_eq, qNon_eq, qup_ap, vup_ap, vcpy_ap, kc8_0, kc8_1, kc8_2, lc_lt, lc_gt, lc_eq, Option.toList_some, Option.toList_none, List.cons_append, List.nil_append, lay_len, lay_sz, Nat.reduceAdd, Nat.reduceSub, Nat.reduceMul, Int.reduceToNat, Int.reduceLE, Int.reduceLT, Int.reduceEq, Int.reduceAdd, Int.reduceSub, Int.reduceMul, Int.reduceNeg, Nat.reduceLeDiff, Nat.reduceLT, true_and, and_true, false_and, and_false, qcat_0, qcat_1, qcat_3, qcat_9, Nat.reduceEqDiff, if_true, if_false, ite_self, or_true, true_or, or_false, false_or, forall_const, not_true_eq_false, not_false_eq_true, false_implies, implies_true, qtK0, qtK1, qtK2, qtK3, qtK4, List.getD_cons_zero, List.getD_cons_succ, Int.toNat_natCast, ne_eq, qcK, w1]
                  exact hq
            · rw [if_neg (fun q => c3 q.2.2.1)] at hi
              have hq := hi F 0 hR
              simp only [YK, c146, t146, cl116, tgK, lyK, rkK, wK, rfK, hr, qRes_eq, qNon_eq, qup_ap, vup_ap, vcpy_ap, kc8_0, kc8_1, kc8_2, lc_lt, lc_gt, lc_eq, Option.toList_some, Option.toList_none, List.cons_append, List.nil_append, lay_len, lay_sz, Nat.reduceAdd, Nat.reduceSub, Nat.reduceMul, Int.reduceToNat, Int.reduceLE, Int.reduceLT, Int.reduceEq, Int.reduceAdd, Int.reduceSub, Int.reduceMul, Int.reduceNeg, Nat.reduceLeDiff, Nat.reduceLT, true_and, and_true, false_and, and_false, qcat_0, qcat_1, qcat_3, qcat_9, Nat.reduceEqDiff, if_true, if_false, ite_self, or_true, true_or, or_false, false_or, forall_const, not_true_eq_false, not_false_eq_true, false_implies, implies_true, qtK0, qtK1, qtK2, qtK3, qtK4, List.getD_cons_zero, List.getD_cons_succ, hx, Int.toNat_natCast, ne_eq, qcK, b2, c2, c3, w1]
              exact hq
          · rw [if_neg (fun q => c2 q.2.1)] at hi
            have hq := hi F 0 hR
            simp only [YK, c146, t146, tgK, lyK, rkK, wK, rfK, hr, qRes_eq, qNon_eq, qup_ap, vup_ap, vcpy_ap, kc8_0, kc8_1, kc8_2, lc_lt, lc_gt, lc_eq, Option.toList_some, Option.toList_none, List.cons_append, List.nil_append, lay_len, lay_sz, Nat.reduceAdd, Nat.reduceSub, Nat.reduceMul, Int.reduceToNat, Int.reduceLE, Int.reduceLT, Int.reduceEq, Int.reduceAdd, Int.reduceSub, Int.reduceMul, Int.reduceNeg, Nat.reduceLeDiff, Nat.reduceLT, true_and, and_true, false_and, and_false, qcat_0, qcat_1, qcat_3, qcat_9, Nat.reduceEqDiff, if_true, if_false, ite_self, or_true, true_or, or_false, false_or, forall_const, not_true_eq_false, not_false_eq_true, false_implies, implies_true, qtK0, qtK1, qtK2, qtK3, qtK4, List.getD_cons_zero, List.getD_cons_succ, hx, Int.toNat_natCast, ne_eq, qcK, b2, c2, w1]
            exact hq
        · rw [if_neg (fun q => c1 q.1)] at hi
          have hq := hi F 0 hR
          simp only [YK, c146, t146, cl129, tgK, lyK, rkK, wK, rfK, hr, qRes_eq, qNon_eq, qup_ap, vup_ap, vcpy_ap, kc8_0, kc8_1, kc8_2, lc_lt, lc_gt, lc_eq, Option.toList_some, Option.toList_none, List.cons_append, List.nil_append, lay_len, lay_sz, Nat.reduceAdd, Nat.reduceSub, Nat.reduceMul, Int.reduceToNat, Int.reduceLE, Int.reduceLT, Int.reduceEq, Int.reduceAdd, Int.reduceSub, Int.reduceMul, Int.reduceNeg, Nat.reduceLeDiff, Nat.reduceLT, true_and, and_true, false_and, and_false, qcat_0, qcat_1, qcat_3, qcat_9, Nat.reduceEqDiff, if_true, if_false, ite_self, or_true, true_or, or_false, false_or, forall_const, not_true_eq_false, not_false_eq_true, false_implies, implies_true, qtK0, qtK1, qtK2, qtK3, qtK4, List.getD_cons_zero, List.getD_cons_succ, hx, Int.toNat_natCast, ne_eq, qcK, g3, b1, b2, c1, c0', w1]
          exact hq
    simp only [YK, c146, t146, tgK, lyK, rkK, wK, rfK, hr, qRes_eq, qNon_eq, qup_ap, vup_ap, vcpy_ap, kc8_0, kc8_1, kc8_2, lc_lt, lc_gt, lc_eq, Option.toList_some, Option.toList_none, List.cons_append, List.nil_append, lay_len, lay_sz, Nat.reduceAdd, Nat.reduceSub, Nat.reduceMul, Int.reduceToNat, Int.reduceLE, Int.reduceLT, Int.reduceEq, Int.reduceAdd, Int.reduceSub, Int.reduceMul, Int.reduceNeg, Nat.reduceLeDiff, Nat.reduceLT, true_and, and_true, false_and, and_false, qcat_0, qcat_1, qcat_3, qcat_9, Nat.reduceEqDiff, if_true, if_false, ite_self, or_true, true_or, or_false, false_or, forall_const, not_true_eq_false, not_false_eq_true, false_implies, implies_true, qtK0, qtK1, qtK2, qtK3, qtK4, List.getD_cons_zero, List.getD_cons_succ, hx, Int.toNat_natCast, ne_eq, qcK]
    exact hloop na 0 F _ (by omega) hR hPS
  · unfold pHeds at hk
    simp only [if_neg c0] at hk
    have hq := hk F hR hPS
    obtain ⟨⟨g1, g2, g3, g4, g5, g6⟩, g7, g8⟩ := hc _ hPS
    dsimp only at g3
    simp only [YK, c146, t146, tgK, lyK, rkK, wK, rfK, hr, qRes_eq, qNon_eq, qup_ap, vup_ap, vcpy_ap, kc8_0, kc8_1, kc8_2, lc_lt, lc_gt, lc_eq, Option.toList_some, Option.toList_none, List.cons_append, List.nil_append, lay_len, lay_sz, Nat.reduceAdd, Nat.reduceSub, Nat.reduceMul, Int.reduceToNat, Int.reduceLE, Int.reduceLT, Int.reduceEq, Int.reduceAdd, Int.reduceSub, Int.reduceMul, Int.reduceNeg, Nat.reduceLeDiff, Nat.reduceLT, true_and, and_true, false_and, and_false, qcat_0, qcat_1, qcat_3, qcat_9, Nat.reduceEqDiff, if_true, if_false, ite_self, or_true, true_or, or_false, false_or, forall_const, not_true_eq_false, not_false_eq_true, false_implies, implies_true, qtK0, qtK1, qtK2, qtK3, qtK4, List.getD_cons_zero, List.getD_cons_succ, hx, Int.toNat_natCast, ne_eq, qcK]
    rw [h146_2]
    by_cases b1 : 0 < (na : Int)
    · simp only [YK, c146, t146, tgK, lyK, rkK, wK, rfK, hr, qRes_eq, qNon_eq, qup_ap, vup_ap, vcpy_ap, kc8_0, kc8_1, kc8_2, lc_lt, lc_gt, lc_eq, Option.toList_some, Option.toList_none, List.cons_append, List.nil_append, lay_len, lay_sz, Nat.reduceAdd, Nat.reduceSub, Nat.reduceMul, Int.reduceToNat, Int.reduceLE, Int.reduceLT, Int.reduceEq, Int.reduceAdd, Int.reduceSub, Int.reduceMul, Int.reduceNeg, Nat.reduceLeDiff, Nat.reduceLT, true_and, and_true, false_and, and_false, qcat_0, qcat_1, qcat_3, qcat_9, Nat.reduceEqDiff, if_true, if_false, ite_self, or_true, true_or, or_false, false_or, forall_const, not_true_eq_false, not_false_eq_true, false_implies, implies_true, qtK0, qtK1, qtK2, qtK3, qtK4, List.getD_cons_zero, List.getD_cons_succ, hx, Int.toNat_natCast, ne_eq, qcK, g3, b1, c0]
      exact hq
    · simp only [YK, c146, t146, tgK, lyK, rkK, wK, rfK, hr, qRes_eq, qNon_eq, qup_ap, vup_ap, vcpy_ap, kc8_0, kc8_1, kc8_2, lc_lt, lc_gt, lc_eq, Option.toList_some, Option.toList_none, List.cons_append, List.nil_append, lay_len, lay_sz, Nat.reduceAdd, Nat.reduceSub, Nat.reduceMul, Int.reduceToNat, Int.reduceLE, Int.reduceLT, Int.reduceEq, Int.reduceAdd, Int.reduceSub, Int.reduceMul, Int.reduceNeg, Nat.reduceLeDiff, Nat.reduceLT, true_and, and_true, false_and, and_false, qcat_0, qcat_1, qcat_3, qcat_9, Nat.reduceEqDiff, if_true, if_false, ite_self, or_true, true_or, or_false, false_or, forall_const, not_true_eq_false, not_false_eq_true, false_implies, implies_true, qtK0, qtK1, qtK2, qtK3, qtK4, List.getD_cons_zero, List.getD_cons_succ, hx, Int.toNat_natCast, ne_eq, qcK, g3, b1, c0]
      exact hq
def pBeg1 (S : XT × LT) (h : Nat) (t : Int) : XT × LT := (S.1, lset (lset (lset S.2 1 h (S.2 1 h ++ [(S.2 0 h).getD 0 0])) 2 h (S.2 2 h ++ [w32 (t + S.1 72 h)])) 0 h ((S.2 0 h).eraseIdx 0))
def pBegH (h : Nat) (t : Int) : Nat → XT × LT → XT × LT
  | 0, S => S
  | f + 1, S => if ((S.2 1 h).length : Int) < S.1 71 h ∧ 0 < (S.2 0 h).length then pBegH h t f (pBeg1 S h t) else S
def pBegs (n : Nat) (t : Int) (S : XT × LT) : XT × LT := itr (fun h S => pBegH h t 3 S) n S
theorem getD_snoc (l : List Int) (a : Int) (j : Nat) : (l ++ [a]).getD j 0 = if j = l.length then a else l.getD j 0 := by
  rw [List.getD_eq_getElem?_getD, List.getD_eq_getElem?_getD]
  by_cases h : j = l.length
  · rw [if_pos h, List.getElem?_append_right (by omega), h, Nat.sub_self]; rfl
  · rw [if_neg h]
    by_cases h2 : j < l.length
    · rw [List.getElem?_append_left h2]
    · rw [List.getElem?_append_right (by omega), List.getElem?_eq_none (l := l) (by omega), List.getElem?_eq_none (by rw [List.length_singleton]; omega)]
theorem RR_wrk {C X F : XT} {L : LT} (hR : RR C X L F) (h : Nat) (hh : h < 4) (a e : Int) (hl : (L 1 h).length < 3) : RR C X (lset (lset L 1 h (L 1 h ++ [a])) 2 h (L 2 h ++ [e])) (qup (qup (qup F 105 (3 * h + (L 1 h).length) a) 106 (3 * h + (L 1 h).length) e) 107 h (((L 1 h).length + 1 : Nat) : Int)) := by
  obtain ⟨h1, h2, h3, h4⟩ := hR
  refine ⟨((h1.upA _ _ (by decide)).upA _ _ (by decide)).upA _ _ (by decide), ?_, ?_, ?_⟩
  · intro c hc
    rw [qup_c (by omega), qup_c (by omega), qup_c (by omega)]
    exact h2 c hc
  · intro c hc
    unfold nl at hc
    rw [qup_c (by omega), qup_c (by omega), qup_c (by omega)]
    exact h3 c hc
  · intro g hg
    obtain ⟨q1, q2, q3, q4, q5, q6, q7, q8⟩ := h4 g hg
    have hq8 := (h4 h hh).2.2.2.2.2.2.2
    have e3 : (qup (qup (qup F 105 (3 * h + (L 1 h).length) a) 106 (3 * h + (L 1 h).length) e) 107 h (((L 1 h).length + 1 : Nat) : Int)) 103 = F 103 := by rw [qup_c (by decide), qup_c (by decide), qup_c (by decide)]
    have e4 : (qup (qup (qup F 105 (3 * h + (L 1 h).length) a) 106 (3 * h + (L 1 h).length) e) 107 h (((L 1 h).length + 1 : Nat) : Int)) 104 = F 104 := by rw [qup_c (by decide), qup_c (by decide), qup_c (by decide)]
    have e5 : ∀ j, (qup (qup (qup F 105 (3 * h + (L 1 h).length) a) 106 (3 * h + (L 1 h).length) e) 107 h (((L 1 h).length + 1 : Nat) : Int)) 105 j = if j = 3 * h + (L 1 h).length then a else F 105 j := by
      intro j
      rw [qup_c (by decide), qup_c (by decide), qup_ap, if_pos rfl]
    have e6 : ∀ j, (qup (qup (qup F 105 (3 * h + (L 1 h).length) a) 106 (3 * h + (L 1 h).length) e) 107 h (((L 1 h).length + 1 : Nat) : Int)) 106 j = if j = 3 * h + (L 1 h).length then e else F 106 j := by
      intro j
      rw [qup_c (by decide), qup_ap, if_pos rfl]
      by_cases hj : j = 3 * h + (L 1 h).length
      · rw [if_pos hj, if_pos hj]
      · rw [if_neg hj, if_neg hj, qup_c (by decide)]
    have e7 : ∀ j, (qup (qup (qup F 105 (3 * h + (L 1 h).length) a) 106 (3 * h + (L 1 h).length) e) 107 h (((L 1 h).length + 1 : Nat) : Int)) 107 j = if j = h then (((L 1 h).length + 1 : Nat) : Int) else F 107 j := by
      intro j
      rw [qup_ap, if_pos rfl]
      by_cases hj : j = h
      · rw [if_pos hj, if_pos hj]
      · rw [if_neg hj, if_neg hj, qup_c (by decide), qup_c (by decide)]
    by_cases hgh : g = h
    · subst hgh
      have l1 : lset (lset L 1 g (L 1 g ++ [a])) 2 g (L 2 g ++ [e]) 1 g = L 1 g ++ [a] := by rw [lset_ne (Or.inl (by decide)), lset_self]
      have l0 : lset (lset L 1 g (L 1 g ++ [a])) 2 g (L 2 g ++ [e]) 0 g = L 0 g := by rw [lset_ne (Or.inl (by decide)), lset_ne (Or.inl (by decide))]
      have l2 : lset (lset L 1 g (L 1 g ++ [a])) 2 g (L 2 g ++ [e]) 2 g = L 2 g ++ [e] := by rw [lset_self]
      unfold RRh
      rw [l0, l1, l2]
      refine ⟨?_, ?_, ?_, ?_, ?_, q6, ?_, ?_⟩
      · rw [e3]; exact q1
      · rw [e4]; exact q2
      · intro j hj
        rw [List.length_append, List.length_singleton] at hj
        rw [e5, getD_snoc]
        by_cases hjl : j = (L 1 g).length
        · rw [if_pos hjl, if_pos (by omega)]
        · rw [if_neg hjl, if_neg (by omega), q3 j (by omega)]
      · intro j hj
        rw [List.length_append, List.length_singleton] at hj
        rw [e6, getD_snoc]
        by_cases hjl : j = (L 1 g).length
        · rw [if_pos (by omega), if_pos (by omega)]
        · rw [if_neg (by omega), if_neg (by omega), q4 j (by omega)]
      · rw [e7, if_pos rfl, List.length_append, List.length_singleton]
      · rw [List.length_append, List.length_singleton]; omega
      · rw [List.length_append, List.length_singleton, List.length_append, List.length_singleton]; omega
    · have l1 : lset (lset L 1 h (L 1 h ++ [a])) 2 h (L 2 h ++ [e]) 1 g = L 1 g := by rw [lset_ne (Or.inr hgh), lset_ne (Or.inr hgh)]
      have l0 : lset (lset L 1 h (L 1 h ++ [a])) 2 h (L 2 h ++ [e]) 0 g = L 0 g := by rw [lset_ne (Or.inr hgh), lset_ne (Or.inr hgh)]
      have l2 : lset (lset L 1 h (L 1 h ++ [a])) 2 h (L 2 h ++ [e]) 2 g = L 2 g := by rw [lset_ne (Or.inr hgh), lset_ne (Or.inr hgh)]
      unfold RRh
      rw [l0, l1, l2]
      refine ⟨?_, ?_, ?_, ?_, ?_, q6, q7, q8⟩
      · rw [e3]; exact q1
      · rw [e4]; exact q2
      · intro j hj
        rw [e5, if_neg (by omega)]
        exact q3 j hj
      · intro j hj
        rw [e6, if_neg (by omega)]
        exact q4 j hj
      · rw [e7, if_neg hgh]; exact q5
theorem r147h {tb : qTb} {C : XT} {R : Option qV → qM → Prop} (h : Nat) (hh : h < 4) (t : Int) : ∀ (f : Nat) (S : XT × LT) (F : XT), RR C S.1 S.2 F → S.1 71 h ≤ 3 → 3 ≤ (S.2 1 h).length + f → (∀ F2, RR C (pBegH h t f S).1 (pBegH h t f S).2 F2 → qW tb 147 (119, 1262) 2 [(3, 69), (0, t), (0, ((h + 1 : Nat) : Int))] [] (LAY, F2) R) → qW tb 147 (119, 1262) 10 [(3, 69), (0, t), (0, (h : Int))] [] (LAY, F) R := by
  intro f
  induction f with
  | zero =>
    intro S F hR hw hf hk
    have hr := Rf_k hR.rf
    have hx := hR.k
    obtain ⟨q1, q2, q3, q4, q5, q6, q7, q8⟩ := hR.2.2.2 h hh
    have b1 : (0 ≤ (h : Int) ∧ (h : Int) < 4) = True := eq_true (by omega)
    have b2 : (((S.2 1 h).length : Int) < S.1 71 h) = False := eq_false (by omega)
    have w1 : w32 ((h : Int) + 1) = ((h + 1 : Nat) : Int) := by rw [w32_id ⟨by omega, by omega⟩]; omega
    have hq := hk F hR
    rw [h147_10]
    simp only [YK, c147, t147, tgK, lyK, rkK, wK, rfK, hr, qRes_eq, qNon_eq, qup_ap, vup_ap, vcpy_ap, kc8_0, kc8_1, kc8_2, lc_lt, lc_gt, lc_eq, Option.toList_some, Option.toList_none, List.cons_append, List.nil_append, lay_len, lay_sz, Nat.reduceAdd, Nat.reduceSub, Nat.reduceMul, Int.reduceToNat, Int.reduceLE, Int.reduceLT, Int.reduceEq, Int.reduceAdd, Int.reduceSub, Int.reduceMul, Int.reduceNeg, Nat.reduceLeDiff, Nat.reduceLT, true_and, and_true, false_and, and_false, qcat_0, qcat_1, qcat_3, qcat_9, Nat.reduceEqDiff, if_true, if_false, ite_self, or_true, true_or, or_false, false_or, forall_const, not_true_eq_false, not_false_eq_true, false_implies, implies_true, qtK0, qtK1, qtK2, qtK3, qtK4, List.getD_cons_zero, List.getD_cons_succ, hx, Int.toNat_natCast, ne_eq, qcK, b1, b2, q5, w1]
    exact hq
  | succ f ih =>
    intro S F hR hw hf hk
    have hr := Rf_k hR.rf
    have hx := hR.k
    obtain ⟨q1, q2, q3, q4, q5, q6, q7, q8⟩ := hR.2.2.2 h hh
    have b1 : (0 ≤ (h : Int) ∧ (h : Int) < 4) = True := eq_true (by omega)
    have w1 : w32 ((h : Int) + 1) = ((h + 1 : Nat) : Int) := by rw [w32_id ⟨by omega, by omega⟩]; omega
    unfold pBegH at hk
    rw [h147_10]
    by_cases c1 : ((S.2 1 h).length : Int) < S.1 71 h
    · by_cases c2 : 0 < (S.2 0 h).length
      · rw [if_pos ⟨c1, c2⟩] at hk
        have c2' : (0 < ((S.2 0 h).length : Int)) = True := eq_true (by omega)
        have w2 : w32 (3 * (h : Int)) = ((3 * h : Nat) : Int) := by rw [w32_id ⟨by omega, by omega⟩]; omega
        have w3 : w32 (((3 * h : Nat) : Int) + ((S.2 1 h).length : Int)) = ((3 * h + (S.2 1 h).length : Nat) : Int) := by rw [w32_id ⟨by omega, by omega⟩]; omega
        have w4 : w32 (16 * (h : Int)) = ((16 * h + 0 : Nat) : Int) := by rw [w32_id ⟨by omega, by omega⟩]; omega
        have w5 : w32 (((S.2 1 h).length : Int) + 1) = (((S.2 1 h).length + 1 : Nat) : Int) := by rw [w32_id ⟨by omega, by omega⟩]; omega
        have b3 : (0 ≤ ((3 * h + (S.2 1 h).length : Nat) : Int) ∧ ((3 * h + (S.2 1 h).length : Nat) : Int) < 12) = True := eq_true (by omega)
        have b4 : (0 ≤ ((16 * h + 0 : Nat) : Int) ∧ ((16 * h + 0 : Nat) : Int) < 64) = True := eq_true (by omega)
        have e3 : F 103 (16 * h + 0) = (S.2 0 h).getD 0 0 := q1 0 c2
        have hY := RR_wrk hR h hh ((S.2 0 h).getD 0 0) (w32 (t + S.1 72 h)) (by omega)
        have hl0 : lset (lset S.2 1 h (S.2 1 h ++ [(S.2 0 h).getD 0 0])) 2 h (S.2 2 h ++ [w32 (t + S.1 72 h)]) 0 h = S.2 0 h := by rw [lset_ne (Or.inl (by decide)), lset_ne (Or.inl (by decide))]
        simp only [YK, c147, t147, cl130, tgK, lyK, rkK, wK, rfK, hr, qRes_eq, qNon_eq, qup_ap, vup_ap, vcpy_ap, kc8_0, kc8_1, kc8_2, lc_lt, lc_gt, lc_eq, Option.toList_some, Option.toList_none, List.cons_append, List.nil_append, lay_len, lay_sz, Nat.reduceAdd, Nat.reduceSub, Nat.reduceMul, Int.reduceToNat, Int.reduceLE, Int.reduceLT, Int.reduceEq, Int.reduceAdd, Int.reduceSub, Int.reduceMul, Int.reduceNeg, Nat.reduceLeDiff, Nat.reduceLT, true_and, and_true, false_and, and_false, qcat_0, qcat_1, qcat_3, qcat_9, Nat.reduceEqDiff, if_true, if_false, ite_self, or_true, true_or, or_false, false_or, forall_const, not_true_eq_false, not_false_eq_true, false_implies, implies_true, qtK0, qtK1, qtK2, qtK3, qtK4, List.getD_cons_zero, List.getD_cons_succ, hx, Int.toNat_natCast, ne_eq, qcK, b1, c1, c2', q2, q5, w2, w3, w4, w5, b3, b4, e3]
        refine r130 hY h 0 hh (by rw [hl0]; exact c2) ?_
        intro F2 hF2
        rw [hl0] at hF2
        have hl1 : ((pBeg1 S h t).2 1 h) = S.2 1 h ++ [(S.2 0 h).getD 0 0] := by
          unfold pBeg1
          dsimp only
          rw [lset_ne (Or.inl (by decide)), lset_ne (Or.inl (by decide)), lset_self]
        have hq := ih (pBeg1 S h t) F2 hF2 hw (by rw [hl1, List.length_append, List.length_singleton]; omega) hk
        simp only [YK, c147, t147, tgK, lyK, rkK, wK, rfK, qRes_eq, qNon_eq, qup_ap, vup_ap, vcpy_ap, kc8_0, kc8_1, kc8_2, lc_lt, lc_gt, lc_eq, Option.toList_some, Option.toList_none, List.cons_append, List.nil_append, lay_len, lay_sz, Nat.reduceAdd, Nat.reduceSub, Nat.reduceMul, Int.reduceToNat, Int.reduceLE, Int.reduceLT, Int.reduceEq, Int.reduceAdd, Int.reduceSub, Int.reduceMul, Int.reduceNeg, Nat.reduceLeDiff, Nat.reduceLT, true_and, and_true, false_and, and_false, qcat_0, qcat_1, qcat_3, qcat_9, Nat.reduceEqDiff, if_true, if_false, ite_self, or_true, true_or, or_false, false_or, forall_const, not_true_eq_false, not_false_eq_true, false_implies, implies_true, qtK0, qtK1, qtK2, qtK3, qtK4, List.getD_cons_zero, List.getD_cons_succ, Int.toNat_natCast, ne_eq, qcK]
        exact hq
      · rw [if_neg (fun q => c2 q.2)] at hk
        have c2' : (0 < ((S.2 0 h).length : Int)) = False := eq_false (by omega)
        have hq := hk F hR
        simp only [YK, c147, t147, tgK, lyK, rkK, wK, rfK, hr, qRes_eq, qNon_eq, qup_ap, vup_ap, vcpy_ap, kc8_0, kc8_1, kc8_2, lc_lt, lc_gt, lc_eq, Option.toList_some, Option.toList_none, List.cons_append, List.nil_append, lay_len, lay_sz, Nat.reduceAdd, Nat.reduceSub, Nat.reduceMul, Int.reduceToNat, Int.reduceLE, Int.reduceLT, Int.reduceEq, Int.reduceAdd, Int.reduceSub, Int.reduceMul, Int.reduceNeg, Nat.reduceLeDiff, Nat.reduceLT, true_and, and_true, false_and, and_false, qcat_0, qcat_1, qcat_3, qcat_9, Nat.reduceEqDiff, if_true, if_false, ite_self, or_true, true_or, or_false, false_or, forall_const, not_true_eq_false, not_false_eq_true, false_implies, implies_true, qtK0, qtK1, qtK2, qtK3, qtK4, List.getD_cons_zero, List.getD_cons_succ, hx, Int.toNat_natCast, ne_eq, qcK, b1, c1, c2', q2, q5, w1]
        exact hq
    · rw [if_neg (fun q => c1 q.1)] at hk
      have hq := hk F hR
      simp only [YK, c147, t147, tgK, lyK, rkK, wK, rfK, hr, qRes_eq, qNon_eq, qup_ap, vup_ap, vcpy_ap, kc8_0, kc8_1, kc8_2, lc_lt, lc_gt, lc_eq, Option.toList_some, Option.toList_none, List.cons_append, List.nil_append, lay_len, lay_sz, Nat.reduceAdd, Nat.reduceSub, Nat.reduceMul, Int.reduceToNat, Int.reduceLE, Int.reduceLT, Int.reduceEq, Int.reduceAdd, Int.reduceSub, Int.reduceMul, Int.reduceNeg, Nat.reduceLeDiff, Nat.reduceLT, true_and, and_true, false_and, and_false, qcat_0, qcat_1, qcat_3, qcat_9, Nat.reduceEqDiff, if_true, if_false, ite_self, or_true, true_or, or_false, false_or, forall_const, not_true_eq_false, not_false_eq_true, false_implies, implies_true, qtK0, qtK1, qtK2, qtK3, qtK4, List.getD_cons_zero, List.getD_cons_succ, hx, Int.toNat_natCast, ne_eq, qcK, b1, c1, q5, w1]
      exact hq
theorem r147 {tb : qTb} {C X F : XT} {L : LT} {R : Option qV → qM → Prop} (hR : RR C X L F) (n : Nat) (t : Int) (P : XT × LT → Prop) (hPS : P (X, L)) (hP : ∀ h S, h < n → P S → P (pBegH h t 3 S)) (hc : ∀ S, P S → S.1 69 2 = (n : Int) ∧ n ≤ 4 ∧ ∀ h : Nat, h < n → S.1 71 h ≤ 3) (hk : ∀ F2, RR C (pBegs n t (X, L)).1 (pBegs n t (X, L)).2 F2 → P (pBegs n t (X, L)) → R none (LAY, F2)) : qW tb 147 (119, 1262) 0 [(3, 69), (0, t), (9, 0)] [] (LAY, F) R := by
  have hr := Rf_k hR.rf
  have hx := hR.k
  have hloop : ∀ (m h : Nat) (F : XT), h + m = n → RR C (itr (fun h S => pBegH h t 3 S) h (X, L)).1 (itr (fun h S => pBegH h t 3 S) h (X, L)).2 F → P (itr (fun h S => pBegH h t 3 S) h (X, L)) → qW tb 147 (119, 1262) 2 [(3, 69), (0, t), (0, (h : Int))] [] (LAY, F) R := by
    intro m
    induction m with
    | zero =>
      intro h F he hR hPh
      have hr := Rf_k hR.rf
      have hx := hR.k
      obtain ⟨g1, g2, g3⟩ := hc _ hPh
      have b1 : ((h : Int) < (n : Int)) = False := eq_false (by omega)
      have e : h = n := by omega
      subst e
      have hq := hk F hR hPh
      rw [h147_2]
      simp only [YK, c147, t147, tgK, lyK, rkK, wK, rfK, hr, qRes_eq, qNon_eq, qup_ap, vup_ap, vcpy_ap, kc8_0, kc8_1, kc8_2, lc_lt, lc_gt, lc_eq, Option.toList_some, Option.toList_none, List.cons_append, List.nil_append, lay_len, lay_sz, Nat.reduceAdd, Nat.reduceSub, Nat.reduceMul, Int.reduceToNat, Int.reduceLE, Int.reduceLT, Int.reduceEq, Int.reduceAdd, Int.reduceSub, Int.reduceMul, Int.reduceNeg, Nat.reduceLeDiff, Nat.reduceLT, true_and, and_true, false_and, and_false, qcat_0, qcat_1, qcat_3, qcat_9, Nat.reduceEqDiff, if_true, if_false, ite_self, or_true, true_or, or_false, false_or, forall_const, not_true_eq_false, not_false_eq_true, false_implies, implies_true, qtK0, qtK1, qtK2, qtK3, qtK4, List.getD_cons_zero, List.getD_cons_succ, hx, Int.toNat_natCast, ne_eq, qcK, g1, b1]
      exact hq
    | succ m ih =>
      intro h F he hR hPh
      have hr := Rf_k hR.rf
      have hx := hR.k
      obtain ⟨g1, g2, g3⟩ := hc _ hPh
      have hh : h < 4 := by omega
      have b1 : ((h : Int) < (n : Int)) = True := eq_true (by omega)
      rw [h147_2]
      simp only [YK, c147, t147, tgK, lyK, rkK, wK, rfK, hr, qRes_eq, qNon_eq, qup_ap, vup_ap, vcpy_ap, kc8_0, kc8_1, kc8_2, lc_lt, lc_gt, lc_eq, Option.toList_some, Option.toList_none, List.cons_append, List.nil_append, lay_len, lay_sz, Nat.reduceAdd, Nat.reduceSub, Nat.reduceMul, Int.reduceToNat, Int.reduceLE, Int.reduceLT, Int.reduceEq, Int.reduceAdd, Int.reduceSub, Int.reduceMul, Int.reduceNeg, Nat.reduceLeDiff, Nat.reduceLT, true_and, and_true, false_and, and_false, qcat_0, qcat_1, qcat_3, qcat_9, Nat.reduceEqDiff, if_true, if_false, ite_self, or_true, true_or, or_false, false_or, forall_const, not_true_eq_false, not_false_eq_true, false_implies, implies_true, qtK0, qtK1, qtK2, qtK3, qtK4, List.getD_cons_zero, List.getD_cons_succ, hx, Int.toNat_natCast, ne_eq, qcK, g1, b1]
      refine r147h h hh t 3 _ F hR (g3 h (by omega)) (by omega) ?_
      intro F2 hF2
      exact ih (h + 1) F2 (by omega) hF2 (hP h _ (by omega) hPh)
  simp only [YK, c147, t147, tgK, lyK, rkK, wK, rfK, hr, qRes_eq, qNon_eq, qup_ap, vup_ap, vcpy_ap, kc8_0, kc8_1, kc8_2, lc_lt, lc_gt, lc_eq, Option.toList_some, Option.toList_none, List.cons_append, List.nil_append, lay_len, lay_sz, Nat.reduceAdd, Nat.reduceSub, Nat.reduceMul, Int.reduceToNat, Int.reduceLE, Int.reduceLT, Int.reduceEq, Int.reduceAdd, Int.reduceSub, Int.reduceMul, Int.reduceNeg, Nat.reduceLeDiff, Nat.reduceLT, true_and, and_true, false_and, and_false, qcat_0, qcat_1, qcat_3, qcat_9, Nat.reduceEqDiff, if_true, if_false, ite_self, or_true, true_or, or_false, false_or, forall_const, not_true_eq_false, not_false_eq_true, false_implies, implies_true, qtK0, qtK1, qtK2, qtK3, qtK4, List.getD_cons_zero, List.getD_cons_succ, hx, Int.toNat_natCast, ne_eq, qcK]
  exact hloop n 0 F (by omega) hR hPS
