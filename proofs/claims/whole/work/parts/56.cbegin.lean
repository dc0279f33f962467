/-! the class: second copies, works that begin -/
theorem k19 {tb : qTb} {n ns na p s u : Nat} {sp : Int} {C X F : XT} {L : LT} {e b : Int} {R : Option qV → qM → Prop} (hR : CR p u sp C X L e b F) (hST : ST n ns na p s u sp C X) (a : Nat) (ha : a < na) (t k : Int) (hdj : ∀ h : Nat, h < n → ∀ c ∈ L 0 h, c ∉ L 1 h) (hg0 : vf_n32 (FP.fmul (FP.i2f (i1 k)) (f1 (X 69 63)))) (hk : R (some (0, b01 (X 98 a = 1 ∧ X 102 a = 0 ∧ cpTo L (a : Int) n = 1 ∧ isF (w32 (t - X 96 a)) k (X 69 63) = true))) (LAY, F)) : qW tb 19 (119, 1262) 0 [(3, 35), (0, (a : Int)), (0, t), (0, k)] [] (LAY, F) R := by
  have hST0 := hST
  have hr := Rf_k hR.rf
  have hx := hR.k
  unfold CD at hx
  obtain ⟨hPS, ⟨t1, t1b⟩, ⟨t2, t2b⟩, ⟨t3, t3b⟩, t4, t5, t6, ⟨t7, t8, t9⟩, t10⟩ := hST
  have hp0 := psK hPS
  have hps := hR.ps hPS
  have b2 : (0 ≤ (a : Int) ∧ (a : Int) < 12) = True := eq_true (by omega)
  have e37 := (hR.2.2.2.2.1 a (by omega)).1
  have e41 := (hR.2.2.2.2.1 a (by omega)).2.2.2.2
  obtain ⟨-, -, e96⟩ := t6 a ha
  by_cases c1 : X 98 a = 1
  · by_cases c2 : X 102 a = 0
    · simp only [YK, c19, t19, cl21, tgK, lyK, rkK, wK, rfK, hr, qRes_eq, qNon_eq, qup_ap, vup_ap, vcpy_ap, kc8_0, kc8_1, kc8_2, lc_lt, lc_gt, lc_eq, Option.toList_some, Option.toList_none, List.cons_append, List.nil_append, lay_len, lay_sz, Nat.reduceAdd, Nat.reduceSub, Nat.reduceMul, Int.reduceToNat, Int.reduceLE, Int.reduceLT, Int.reduceEq, Int.reduceAdd, Int.reduceSub, Int.reduceMul, Int.reduceNeg, Nat.reduceLeDiff, Nat.reduceLT, true_and, and_true, false_and, and_false, qcat_0, qcat_1, qcat_3, qcat_9, Nat.reduceEqDiff, if_true, if_false, ite_self, or_true, true_or, or_false, false_or, forall_const, not_true_eq_false, not_false_eq_true, false_implies, implies_true, qtK0, qtK1, qtK2, qtK3, qtK4, List.getD_cons_zero, List.getD_cons_succ, hx, Int.toNat_natCast, ne_eq, qcK, hbF, bsetF, bclrF, hp0, hps, t1, t2, t3, t7, b2, e37, e41, c1, c2]
      refine k21 hR hST0 a (by omega) hdj ?_
      by_cases c3 : cpTo L (a : Int) n = 1
      · rw [c3]
        by_cases c4 : 0 < (Op.cmpValue (FP.fcmp (FP.i2f (i1 (w32 (t - X 96 a)))) (FP.fmul (FP.i2f (i1 k)) (f1 (X 69 63)))) .l).toInt
        · rw [b01_t ⟨c1, c2, c3, decide_eq_true c4⟩] at hk
          simp only [YK, c19, t19, tgK, lyK, rkK, wK, rfK, hr, qRes_eq, qNon_eq, qup_ap, vup_ap, vcpy_ap, kc8_0, kc8_1, kc8_2, lc_lt, lc_gt, lc_eq, Option.toList_some, Option.toList_none, List.cons_append, List.nil_append, lay_len, lay_sz, Nat.reduceAdd, Nat.reduceSub, Nat.reduceMul, Int.reduceToNat, Int.reduceLE, Int.reduceLT, Int.reduceEq, Int.reduceAdd, Int.reduceSub, Int.reduceMul, Int.reduceNeg, Nat.reduceLeDiff, Nat.reduceLT, true_and, and_true, false_and, and_false, qcat_0, qcat_1, qcat_3, qcat_9, Nat.reduceEqDiff, if_true, if_false, ite_self, or_true, true_or, or_false, false_or, forall_const, not_true_eq_false, not_false_eq_true, false_implies, implies_true, qtK0, qtK1, qtK2, qtK3, qtK4, List.getD_cons_zero, List.getD_cons_succ, hx, Int.toNat_natCast, ne_eq, qcK, hbF, bsetF, bclrF, hp0, hps, t1, t2, t3, t7, b2, e96, f1N, hg0, c4]
          exact hk
        · rw [b01_f (fun q => c4 (of_decide_eq_true q.2.2.2))] at hk
          simp only [YK, c19, t19, tgK, lyK, rkK, wK, rfK, hr, qRes_eq, qNon_eq, qup_ap, vup_ap, vcpy_ap, kc8_0, kc8_1, kc8_2, lc_lt, lc_gt, lc_eq, Option.toList_some, Option.toList_none, List.cons_append, List.nil_append, lay_len, lay_sz, Nat.reduceAdd, Nat.reduceSub, Nat.reduceMul, Int.reduceToNat, Int.reduceLE, Int.reduceLT, Int.reduceEq, Int.reduceAdd, Int.reduceSub, Int.reduceMul, Int.reduceNeg, Nat.reduceLeDiff, Nat.reduceLT, true_and, and_true, false_and, and_false, qcat_0, qcat_1, qcat_3, qcat_9, Nat.reduceEqDiff, if_true, if_false, ite_self, or_true, true_or, or_false, false_or, forall_const, not_true_eq_false, not_false_eq_true, false_implies, implies_true, qtK0, qtK1, qtK2, qtK3, qtK4, List.getD_cons_zero, List.getD_cons_succ, hx, Int.toNat_natCast, ne_eq, qcK, hbF, bsetF, bclrF, hp0, hps, t1, t2, t3, t7, b2, e96, f1N, hg0, c4]
          exact hk
      · rw [b01_f (fun q => c3 q.2.2.1)] at hk
        simp only [YK, c19, t19, tgK, lyK, rkK, wK, rfK, qRes_eq, qNon_eq, qup_ap, vup_ap, vcpy_ap, kc8_0, kc8_1, kc8_2, lc_lt, lc_gt, lc_eq, Option.toList_some, Option.toList_none, List.cons_append, List.nil_append, lay_len, lay_sz, Nat.reduceAdd, Nat.reduceSub, Nat.reduceMul, Int.reduceToNat, Int.reduceLE, Int.reduceLT, Int.reduceEq, Int.reduceAdd, Int.reduceSub, Int.reduceMul, Int.reduceNeg, Nat.reduceLeDiff, Nat.reduceLT, true_and, and_true, false_and, and_false, qcat_0, qcat_1, qcat_3, qcat_9, Nat.reduceEqDiff, if_true, if_false, ite_self, or_true, true_or, or_false, false_or, forall_const, not_true_eq_false, not_false_eq_true, false_implies, implies_true, qtK0, qtK1, qtK2, qtK3, qtK4, List.getD_cons_zero, List.getD_cons_succ, Int.toNat_natCast, ne_eq, qcK, hbF, bsetF, bclrF, c3]
        exact hk
    · rw [b01_f (fun q => c2 q.2.1)] at hk
      simp only [YK, c19, t19, cl21, tgK, lyK, rkK, wK, rfK, hr, qRes_eq, qNon_eq, qup_ap, vup_ap, vcpy_ap, kc8_0, kc8_1, kc8_2, lc_lt, lc_gt, lc_eq, Option.toList_some, Option.toList_none, List.cons_append, List.nil_append, lay_len, lay_sz, Nat.reduceAdd, Nat.reduceSub, Nat.reduceMul, Int.reduceToNat, Int.reduceLE, Int.reduceLT, Int.reduceEq, Int.reduceAdd, Int.reduceSub, Int.reduceMul, Int.reduceNeg, Nat.reduceLeDiff, Nat.reduceLT, true_and, and_true, false_and, and_false, qcat_0, qcat_1, qcat_3, qcat_9, Nat.reduceEqDiff, if_true, if_false, ite_self, or_true, true_or, or_false, false_or, forall_const, not_true_eq_false, not_false_eq_true, false_implies, implies_true, qtK0, qtK1, qtK2, qtK3, qtK4, List.getD_cons_zero, List.getD_cons_succ, hx, Int.toNat_natCast, ne_eq, qcK, hbF, bsetF, bclrF, hp0, hps, t1, t2, t3, t7, b2, e37, e41, c1, c2]
      exact hk
  · rw [b01_f (fun q => c1 q.1)] at hk
    simp only [YK, c19, t19, tgK, lyK, rkK, wK, rfK, hr, qRes_eq, qNon_eq, qup_ap, vup_ap, vcpy_ap, kc8_0, kc8_1, kc8_2, lc_lt, lc_gt, lc_eq, Option.toList_some, Option.toList_none, List.cons_append, List.nil_append, lay_len, lay_sz, Nat.reduceAdd, Nat.reduceSub, Nat.reduceMul, Int.reduceToNat, Int.reduceLE, Int.reduceLT, Int.reduceEq, Int.reduceAdd, Int.reduceSub, Int.reduceMul, Int.reduceNeg, Nat.reduceLeDiff, Nat.reduceLT, true_and, and_true, false_and, and_false, qcat_0, qcat_1, qcat_3, qcat_9, Nat.reduceEqDiff, if_true, if_false, ite_self, or_true, true_or, or_false, false_or, forall_const, not_true_eq_false, not_false_eq_true, false_implies, implies_true, qtK0, qtK1, qtK2, qtK3, qtK4, List.getD_cons_zero, List.getD_cons_succ, hx, Int.toNat_natCast, ne_eq, qcK, hbF, bsetF, bclrF, hp0, hps, t1, t2, t3, t7, b2, e37, c1]
    exact hk
theorem k18s {tb : qTb} {n ns na p s u : Nat} {sp : Int} {C F : XT} {S : XT × LT} {R : Option qV → qM → Prop} (hF2 : FLT2) (a : Nat) (ha : a < na) (t : Int) (ht : 0 ≤ t ∧ t ≤ 79) (hQ : Q1 n ns na 2 t p s u sp C S F) (hX2 : 0 < S.1 97 2) (hk : ∀ F2, Q1 n ns na 2 t p s u sp C (pHed n t a S) F2 → (pHed n t a S).1 97 = S.1 97 → qW tb 18 (119, 1262) 17 [(3, 35), (0, t), (0, S.1 97 2), (0, ((a + 1 : Nat) : Int))] [] (LAY, F2) R) : qW tb 18 (119, 1262) 17 [(3, 35), (0, t), (0, S.1 97 2), (0, (a : Int))] [] (LAY, F) R := by
  have hR := hQ.1
  have hR0 := hR
  unfold CC at hR
  obtain ⟨hInv, hST⟩ := hQ.2
  have hST0 := hST
  have hr := Rf_k hR.rf
  have hx := hR.k
  unfold CD at hx
  obtain ⟨hPS, ⟨t1, t1b⟩, ⟨t2, t2b⟩, ⟨t3, t3b⟩, t4, t5, t6, ⟨t7, t8, t9⟩, t10⟩ := hST
  have hp0 := psK hPS
  have hps := hR.ps hPS
  have b1 : ((a : Int) < (na : Int)) = True := eq_true (by omega)
  have b2 : (0 ≤ (a : Int) ∧ (a : Int) < 12) = True := eq_true (by omega)
  have w1 : w32 ((a : Int) + 1) = ((a + 1 : Nat) : Int) := by rw [w32_id ⟨by omega, by omega⟩]; omega
  have hInv2 := Inv_hed hInv ha
  have hpb := hInv.1.2.2.2.2.2
  unfold pHed at hk hInv2
  rw [h18_17]
  by_cases c5 : 8 ≤ S.1 69 62
  · have c5' : (S.1 69 62 < 8) = False := eq_false (by omega)
    simp only [YK, c18, t18, cl19, tgK, lyK, rkK, wK, rfK, hr, qRes_eq, qNon_eq, qup_ap, vup_ap, vcpy_ap, kc8_0, kc8_1, kc8_2, lc_lt, lc_gt, lc_eq, Option.toList_some, Option.toList_none, List.cons_append, List.nil_append, lay_len, lay_sz, Nat.reduceAdd, Nat.reduceSub, Nat.reduceMul, Int.reduceToNat, Int.reduceLE, Int.reduceLT, Int.reduceEq, Int.reduceAdd, Int.reduceSub, Int.reduceMul, Int.reduceNeg, Nat.reduceLeDiff, Nat.reduceLT, true_and, and_true, false_and, and_false, qcat_0, qcat_1, qcat_3, qcat_9, Nat.reduceEqDiff, if_true, if_false, ite_self, or_true, true_or, or_false, false_or, forall_const, not_true_eq_false, not_false_eq_true, false_implies, implies_true, qtK0, qtK1, qtK2, qtK3, qtK4, List.getD_cons_zero, List.getD_cons_succ, hx, Int.toNat_natCast, ne_eq, qcK, hbF, bsetF, bclrF, hp0, hps, t1, t2, t3, t7, b1, c5']
    refine k19 hR hST0 a ha t (S.1 97 2) (fun h hh => (hInv.2.1 h (by omega)).2.2.2.2.1) (hF2.2.2.2 _ _ hInv.2.2.2.2.1 (by have := hpb.2.2.1; omega)) ?_
    by_cases c : S.1 98 a = 1 ∧ S.1 102 a = 0 ∧ cpTo S.2 (a : Int) n = 1 ∧ isF (w32 (t - S.1 96 a)) (S.1 97 2) (S.1 69 63) = true
    · rw [b01_t c]
      obtain ⟨c1, c2, c3, c4⟩ := c
      rw [if_pos ⟨c1, c3, c2, c4, c5⟩] at hk hInv2
      have hR1 : CR p u sp C (qup (qup (qup S.1 69 62 (w32 (S.1 69 62 - 8))) 102 a 1) 69 66 (w32 (S.1 69 66 + 1))) S.2 (endC S.1 na) (wkC S.2 n) (qup (qup (qup F 35 10 (w32 (S.1 69 62 - 8))) 41 a 1) 35 14 (w32 (S.1 69 66 + 1))) := ((hR.day 10 (by decide) _).ask 4 (by decide) a 1).day 14 (by decide) _
      have hST1 : ST n ns na p s u sp C (qup (qup (qup S.1 69 62 (w32 (S.1 69 62 - 8))) 102 a 1) 69 66 (w32 (S.1 69 66 + 1))) := ST_69 (ST_up (ST_69 hST0 62 (by decide) _) 102 a (by decide) _) 66 (by decide) _
      have e98 : qup (qup (qup S.1 69 62 (w32 (S.1 69 62 - 8))) 102 a 1) 69 66 (w32 (S.1 69 66 + 1)) 98 = S.1 98 := by rw [qup_c (by decide), qup_c (by decide), qup_c (by decide)]
      simp only [YK, c18, t18, cl22, tgK, lyK, rkK, wK, rfK, hr, qRes_eq, qNon_eq, qup_ap, vup_ap, vcpy_ap, kc8_0, kc8_1, kc8_2, lc_lt, lc_gt, lc_eq, Option.toList_some, Option.toList_none, List.cons_append, List.nil_append, lay_len, lay_sz, Nat.reduceAdd, Nat.reduceSub, Nat.reduceMul, Int.reduceToNat, Int.reduceLE, Int.reduceLT, Int.reduceEq, Int.reduceAdd, Int.reduceSub, Int.reduceMul, Int.reduceNeg, Nat.reduceLeDiff, Nat.reduceLT, true_and, and_true, false_and, and_false, qcat_0, qcat_1, qcat_3, qcat_9, Nat.reduceEqDiff, if_true, if_false, ite_self, or_true, true_or, or_false, false_or, forall_const, not_true_eq_false, not_false_eq_true, false_implies, implies_true, qtK0, qtK1, qtK2, qtK3, qtK4, List.getD_cons_zero, List.getD_cons_succ, hx, Int.toNat_natCast, ne_eq, qcK, hbF, bsetF, bclrF, hp0, hps, t1, t2, t3, t7, b2]
      refine k22 hR1 hST1 a ha t (by omega) (fun h hh => OB_eq (OB_of hInv ht h hh) (by rw [qup_c (by decide), qup_c (by decide), qup_c (by decide)]) (by rw [qup_c (by decide), qup_c (by decide), qup_c (by decide)])) (by rw [qup_c (by decide), qup_c (by decide), qup_c (by decide)]; exact hInv.1.2.2.2.2.2.2.2.2.2.1) (RI_eq hInv.2.1 _ e98) ?_
      intro F2 hR2
      rw [← wkC_L1 (M := (pSend n (qup (qup (qup S.1 69 62 (w32 (S.1 69 62 - 8))) 102 a 1) 69 66 (w32 (S.1 69 66 + 1)), S.2) (a : Int) t).2) (fun g => pSend_i (by decide)) n, ← endC_same (Y := (pSend n (qup (qup (qup S.1 69 62 (w32 (S.1 69 62 - 8))) 102 a 1) 69 66 (w32 (S.1 69 66 + 1)), S.2) (a : Int) t).1) na (fun j _ => by
        rw [pSend_c (by decide) (by decide)]
        dsimp only
        rw [e98])] at hR2
      have hq := hk F2 ⟨hR2, hInv2, ST_send (S := (_, S.2)) hST1 _ t⟩ (by
        rw [pSend_c (by decide) (by decide)]
        dsimp only
        rw [qup_c (by decide), qup_c (by decide), qup_c (by decide)])
      simp only [YK, c18, t18, tgK, lyK, rkK, wK, rfK, qRes_eq, qNon_eq, qup_ap, vup_ap, vcpy_ap, kc8_0, kc8_1, kc8_2, lc_lt, lc_gt, lc_eq, Option.toList_some, Option.toList_none, List.cons_append, List.nil_append, lay_len, lay_sz, Nat.reduceAdd, Nat.reduceSub, Nat.reduceMul, Int.reduceToNat, Int.reduceLE, Int.reduceLT, Int.reduceEq, Int.reduceAdd, Int.reduceSub, Int.reduceMul, Int.reduceNeg, Nat.reduceLeDiff, Nat.reduceLT, true_and, and_true, false_and, and_false, qcat_0, qcat_1, qcat_3, qcat_9, Nat.reduceEqDiff, if_true, if_false, ite_self, or_true, true_or, or_false, false_or, forall_const, not_true_eq_false, not_false_eq_true, false_implies, implies_true, qtK0, qtK1, qtK2, qtK3, qtK4, List.getD_cons_zero, List.getD_cons_succ, Int.toNat_natCast, ne_eq, qcK, hbF, bsetF, bclrF, w1]
      exact hq
    · rw [b01_f c]
      rw [if_neg (fun q => c ⟨q.1, q.2.2.1, q.2.1, q.2.2.2.1⟩)] at hk
      have hq := hk F ⟨hR0, hInv, hST0⟩ rfl
      simp only [YK, c18, t18, tgK, lyK, rkK, wK, rfK, qRes_eq, qNon_eq, qup_ap, vup_ap, vcpy_ap, kc8_0, kc8_1, kc8_2, lc_lt, lc_gt, lc_eq, Option.toList_some, Option.toList_none, List.cons_append, List.nil_append, lay_len, lay_sz, Nat.reduceAdd, Nat.reduceSub, Nat.reduceMul, Int.reduceToNat, Int.reduceLE, Int.reduceLT, Int.reduceEq, Int.reduceAdd, Int.reduceSub, Int.reduceMul, Int.reduceNeg, Nat.reduceLeDiff, Nat.reduceLT, true_and, and_true, false_and, and_false, qcat_0, qcat_1, qcat_3, qcat_9, Nat.reduceEqDiff, if_true, if_false, ite_self, or_true, true_or, or_false, false_or, forall_const, not_true_eq_false, not_false_eq_true, false_implies, implies_true, qtK0, qtK1, qtK2, qtK3, qtK4, List.getD_cons_zero, List.getD_cons_succ, Int.toNat_natCast, ne_eq, qcK, hbF, bsetF, bclrF, w1]
      exact hq
  · have c5' : (S.1 69 62 < 8) = True := eq_true (by omega)
    rw [if_neg (fun q => c5 q.2.2.2.2)] at hk
    have hq := hk F ⟨hR0, hInv, hST0⟩ rfl
    simp only [YK, c18, t18, tgK, lyK, rkK, wK, rfK, hr, qRes_eq, qNon_eq, qup_ap, vup_ap, vcpy_ap, kc8_0, kc8_1, kc8_2, lc_lt, lc_gt, lc_eq, Option.toList_some, Option.toList_none, List.cons_append, List.nil_append, lay_len, lay_sz, Nat.reduceAdd, Nat.reduceSub, Nat.reduceMul, Int.reduceToNat, Int.reduceLE, Int.reduceLT, Int.reduceEq, Int.reduceAdd, Int.reduceSub, Int.reduceMul, Int.reduceNeg, Nat.reduceLeDiff, Nat.reduceLT, true_and, and_true, false_and, and_false, qcat_0, qcat_1, qcat_3, qcat_9, Nat.reduceEqDiff, if_true, if_false, ite_self, or_true, true_or, or_false, false_or, forall_const, not_true_eq_false, not_false_eq_true, false_implies, implies_true, qtK0, qtK1, qtK2, qtK3, qtK4, List.getD_cons_zero, List.getD_cons_succ, hx, Int.toNat_natCast, ne_eq, qcK, hbF, bsetF, bclrF, hp0, hps, t1, t2, t3, t7, b1, c5', w1]
    exact hq
theorem k18 {tb : qTb} {n ns na p s u : Nat} {sp : Int} {C F : XT} {S : XT × LT} {R : Option qV → qM → Prop} (hF2 : FLT2) (t : Int) (ht : 0 ≤ t ∧ t ≤ 79) (hQ : Q1 n ns na 2 t p s u sp C S F) (hk : ∀ F2, Q1 n ns na 2 t p s u sp C (pHeds n na t S) F2 → R none (LAY, F2)) : qW tb 18 (119, 1262) 0 [(3, 35), (0, t), (9, 0), (9, 0)] [] (LAY, F) R := by
  unfold pHeds at hk
  by_cases c : 0 < S.1 97 2
  · rw [if_pos c] at hk
    have hl := aloop (f := pHed n t) (Q := fun a S2 F => Q1 n ns na 2 t p s u sp C S2 F ∧ S2.1 97 = S.1 97) (W := fun a F => qW tb 18 (119, 1262) 17 [(3, 35), (0, t), (0, S.1 97 2), (0, (a : Int))] [] (LAY, F) R) (na := na) (S0 := S) (fun a S2 F ha hq hk2 => by
      have h97 := hq.2
      rw [← h97]
      refine k18s hF2 a ha t ht hq.1 (by rw [h97]; exact c) ?_
      intro F2 h1 h2
      rw [h97]
      exact hk2 F2 ⟨h1, h2.trans h97⟩) (fun F hQ2 => by
      have hq := hk F hQ2.1
      have hQ := hQ2.1
      have hR := hQ.1
      have hR0 := hR
      unfold CC at hR
      obtain ⟨hInv, hST⟩ := hQ.2
      have hST0 := hST
      have hr := Rf_k hR.rf
      have hx := hR.k
      unfold CD at hx
      obtain ⟨hPS, ⟨t1, t1b⟩, ⟨t2, t2b⟩, ⟨t3, t3b⟩, t4, t5, t6, ⟨t7, t8, t9⟩, t10⟩ := hST
      have hp0 := psK hPS
      have hps := hR.ps hPS
      have b1 : ((na : Int) < (na : Int)) = False := eq_false (by omega)
      rw [h18_17]
      simp only [YK, c18, t18, tgK, lyK, rkK, wK, rfK, hr, qRes_eq, qNon_eq, qup_ap, vup_ap, vcpy_ap, kc8_0, kc8_1, kc8_2, lc_lt, lc_gt, lc_eq, Option.toList_some, Option.toList_none, List.cons_append, List.nil_append, lay_len, lay_sz, Nat.reduceAdd, Nat.reduceSub, Nat.reduceMul, Int.reduceToNat, Int.reduceLE, Int.reduceLT, Int.reduceEq, Int.reduceAdd, Int.reduceSub, Int.reduceMul, Int.reduceNeg, Nat.reduceLeDiff, Nat.reduceLT, true_and, and_true, false_and, and_false, qcat_0, qcat_1, qcat_3, qcat_9, Nat.reduceEqDiff, if_true, if_false, ite_self, or_true, true_or, or_false, false_or, forall_const, not_true_eq_false, not_false_eq_true, false_implies, implies_true, qtK0, qtK1, qtK2, qtK3, qtK4, List.getD_cons_zero, List.getD_cons_succ, hx, Int.toNat_natCast, ne_eq, qcK, hbF, bsetF, bclrF, hp0, hps, t1, t2, t3, t7, b1]
      exact hq) F ⟨hQ, rfl⟩
    have hR := hQ.1
    have hR0 := hR
    unfold CC at hR
    obtain ⟨hInv, hST⟩ := hQ.2
    have hST0 := hST
    have hr := Rf_k hR.rf
    have hx := hR.k
    unfold CD at hx
    obtain ⟨hPS, ⟨t1, t1b⟩, ⟨t2, t2b⟩, ⟨t3, t3b⟩, t4, t5, t6, ⟨t7, t8, t9⟩, t10⟩ := hST
    have hp0 := psK hPS
    have hps := hR.ps hPS
    have s2 := t8 2 (by decide)
    have c' : (S.1 97 2 = 0) = False := eq_false (by omega)
    simp only [YK, c18, t18, tgK, lyK, rkK, wK, rfK, hr, qRes_eq, qNon_eq, qup_ap, vup_ap, vcpy_ap, kc8_0, kc8_1, kc8_2, lc_lt, lc_gt, lc_eq, Option.toList_some, Option.toList_none, List.cons_append, List.nil_append, lay_len, lay_sz, Nat.reduceAdd, Nat.reduceSub, Nat.reduceMul, Int.reduceToNat, Int.reduceLE, Int.reduceLT, Int.reduceEq, Int.reduceAdd, Int.reduceSub, Int.reduceMul, Int.reduceNeg, Nat.reduceLeDiff, Nat.reduceLT, true_and, and_true, false_and, and_false, qcat_0, qcat_1, qcat_3, qcat_9, Nat.reduceEqDiff, if_true, if_false, ite_self, or_true, true_or, or_false, false_or, forall_const, not_true_eq_false, not_false_eq_true, false_implies, implies_true, qtK0, qtK1, qtK2, qtK3, qtK4, List.getD_cons_zero, List.getD_cons_succ, hx, Int.toNat_natCast, ne_eq, qcK, hbF, bsetF, bclrF, hp0, hps, t1, t2, t3, t7, s2, c']
    exact hl
  · rw [if_neg c] at hk
    have hq := hk F hQ
    have hR := hQ.1
    have hR0 := hR
    unfold CC at hR
    obtain ⟨hInv, hST⟩ := hQ.2
    have hST0 := hST
    have hr := Rf_k hR.rf
    have hx := hR.k
    unfold CD at hx
    obtain ⟨hPS, ⟨t1, t1b⟩, ⟨t2, t2b⟩, ⟨t3, t3b⟩, t4, t5, t6, ⟨t7, t8, t9⟩, t10⟩ := hST
    have hp0 := psK hPS
    have hps := hR.ps hPS
    have s2 := t8 2 (by decide)
    have hpb := hInv.1.2.2.2.2.2
    have c' : S.1 97 2 = 0 := by have := hpb.2.2.1; omega
    simp only [YK, c18, t18, tgK, lyK, rkK, wK, rfK, hr, qRes_eq, qNon_eq, qup_ap, vup_ap, vcpy_ap, kc8_0, kc8_1, kc8_2, lc_lt, lc_gt, lc_eq, Option.toList_some, Option.toList_none, List.cons_append, List.nil_append, lay_len, lay_sz, Nat.reduceAdd, Nat.reduceSub, Nat.reduceMul, Int.reduceToNat, Int.reduceLE, Int.reduceLT, Int.reduceEq, Int.reduceAdd, Int.reduceSub, Int.reduceMul, Int.reduceNeg, Nat.reduceLeDiff, Nat.reduceLT, true_and, and_true, false_and, and_false, qcat_0, qcat_1, qcat_3, qcat_9, Nat.reduceEqDiff, if_true, if_false, ite_self, or_true, true_or, or_false, false_or, forall_const, not_true_eq_false, not_false_eq_true, false_implies, implies_true, qtK0, qtK1, qtK2, qtK3, qtK4, List.getD_cons_zero, List.getD_cons_succ, hx, Int.toNat_natCast, ne_eq, qcK, hbF, bsetF, bclrF, hp0, hps, t1, t2, t3, t7, s2, c']
    exact hq
theorem k20h {tb : qTb} {n ns na p s u : Nat} {sp : Int} {C : XT} {R : Option qV → qM → Prop} (t : Int) (ht : 0 ≤ t ∧ t ≤ 79) (h : Nat) (hh : h < n) : ∀ (f : Nat) (S : XT × LT) (F : XT) (i : Nat), i + f = 3 → Q1 n ns na 2 t p s u sp C S F → (∀ F2 v, Q1 n ns na 2 t p s u sp C (pBegH h t f S) F2 → qW tb 20 (119, 1262) 2 [(3, 35), (0, t), (0, ((h + 1 : Nat) : Int)), (3, ((hO h : Nat) : Int)), (0, v)] [] (LAY, F2) R) → qW tb 20 (119, 1262) 23 [(3, 35), (0, t), (0, (h : Int)), (3, ((hO h : Nat) : Int)), (0, (i : Int))] [] (LAY, F) R := by
  intro f
  induction f with
  | zero =>
    intro S F i hi hQ hk
    have hq := hk F 3 hQ
    have hR := hQ.1
    have hR0 := hR
    unfold CC at hR
    obtain ⟨hInv, hST⟩ := hQ.2
    have hST0 := hST
    have hr := Rf_k hR.rf
    have hx := hR.k
    unfold CD at hx
    obtain ⟨hPS, ⟨t1, t1b⟩, ⟨t2, t2b⟩, ⟨t3, t3b⟩, t4, t5, t6, ⟨t7, t8, t9⟩, t10⟩ := hST
    have hp0 := psK hPS
    have hps := hR.ps hPS
    have ei : i = 3 := by omega
    subst ei
    have e3 : ((3 : Nat) : Int) = 3 := rfl
    have w1 : w32 ((h : Int) + 1) = ((h + 1 : Nat) : Int) := by rw [w32_id ⟨by omega, by omega⟩]; omega
    rw [h20_23]
    simp only [YK, c20, t20, tgK, lyK, rkK, wK, rfK, hr, qRes_eq, qNon_eq, qup_ap, vup_ap, vcpy_ap, kc8_0, kc8_1, kc8_2, lc_lt, lc_gt, lc_eq, Option.toList_some, Option.toList_none, List.cons_append, List.nil_append, lay_len, lay_sz, Nat.reduceAdd, Nat.reduceSub, Nat.reduceMul, Int.reduceToNat, Int.reduceLE, Int.reduceLT, Int.reduceEq, Int.reduceAdd, Int.reduceSub, Int.reduceMul, Int.reduceNeg, Nat.reduceLeDiff, Nat.reduceLT, true_and, and_true, false_and, and_false, qcat_0, qcat_1, qcat_3, qcat_9, Nat.reduceEqDiff, if_true, if_false, ite_self, or_true, true_or, or_false, false_or, forall_const, not_true_eq_false, not_false_eq_true, false_implies, implies_true, qtK0, qtK1, qtK2, qtK3, qtK4, List.getD_cons_zero, List.getD_cons_succ, hx, Int.toNat_natCast, ne_eq, qcK, hbF, bsetF, bclrF, hp0, hps, t1, t2, t3, t7, e3, w1]
    exact hq
  | succ f ih =>
    intro S F i hi hQ hk
    have hR := hQ.1
    have hR0 := hR
    unfold CC at hR
    obtain ⟨hInv, hST⟩ := hQ.2
    have hST0 := hST
    have hr := Rf_k hR.rf
    have hx := hR.k
    unfold CD at hx
    obtain ⟨hPS, ⟨t1, t1b⟩, ⟨t2, t2b⟩, ⟨t3, t3b⟩, t4, t5, t6, ⟨t7, t8, t9⟩, t10⟩ := hST
    have hp0 := psK hPS
    have hps := hR.ps hPS
    have hh4 : h < 4 := by omega
    have hg := hR.h hh4
    have hc0 := hcK0 hh4
    have hc1 := hcK1 h
    have b1 : (0 ≤ (h : Int) ∧ (h : Int) < 4) = True := eq_true (by omega)
    have b2 : ((i : Int) < 3) = True := eq_true (by omega)
    have w1 : w32 ((h : Int) + 1) = ((h + 1 : Nat) : Int) := by rw [w32_id ⟨by omega, by omega⟩]; omega
    have w2 : w32 ((i : Int) + 1) = ((i + 1 : Nat) : Int) := by rw [w32_id ⟨by omega, by omega⟩]; omega
    obtain ⟨e1, e2, e3⟩ := t4 h hh
    have hhb := hInv.1.2.2.2.1 h hh
    unfold pBegH at hk
    rw [h20_23]
    by_cases c1 : ((S.2 1 h).length : Int) < S.1 71 h
    · by_cases c2 : 0 < (S.2 0 h).length
      · rw [if_pos ⟨c1, c2⟩] at hk
        have c2' : (0 < ((S.2 0 h).length : Int)) = True := eq_true (by omega)
        have hInv2 := Inv_beg1 ht hInv hh c1 c2
        have hwc := wkC_r (L := S.2) n (fun g hg => (hInv.2.1 g (by omega)).2.2.2.2.2.2.1)
        simp only [YK, c20, t20, cl41, tgK, lyK, rkK, wK, rfK, hr, qRes_eq, qNon_eq, qup_ap, vup_ap, vcpy_ap, kc8_0, kc8_1, kc8_2, lc_lt, lc_gt, lc_eq, Option.toList_some, Option.toList_none, List.cons_append, List.nil_append, lay_len, lay_sz, Nat.reduceAdd, Nat.reduceSub, Nat.reduceMul, Int.reduceToNat, Int.reduceLE, Int.reduceLT, Int.reduceEq, Int.reduceAdd, Int.reduceSub, Int.reduceMul, Int.reduceNeg, Nat.reduceLeDiff, Nat.reduceLT, true_and, and_true, false_and, and_false, qcat_0, qcat_1, qcat_3, qcat_9, Nat.reduceEqDiff, if_true, if_false, ite_self, or_true, true_or, or_false, false_or, forall_const, not_true_eq_false, not_false_eq_true, false_implies, implies_true, qtK0, qtK1, qtK2, qtK3, qtK4, List.getD_cons_zero, List.getD_cons_succ, hx, Int.toNat_natCast, ne_eq, qcK, hbF, bsetF, bclrF, hp0, hps, t1, t2, t3, t7, hg, hc0, hc1, b1, b2, e1, e2, c1, c2']
        refine k41 hR h hh4 (w32 (t + S.1 72 h)) (by omega) c2 (HI_of hInv.2.1 t3b hh4) ?_
        intro F2 hR2
        have hx2 := hR2.k
        unfold CD at hx2
        have hR3 := hR2.b (w32 (wkC S.2 n + 1))
        have ew : w32 (wkC S.2 n + 1) = wkC (pBeg1 S h t).2 n := by
          have hl : ∀ g, (pBeg1 S h t).2 1 g = if g = h then S.2 1 h ++ [(S.2 0 h).getD 0 0] else S.2 1 g := by
            intro g
            unfold pBeg1
            dsimp only
            rw [lset_ne (Or.inl (by decide)), lset_ne (Or.inl (by decide)), lset_ap]
            by_cases c : g = h
            · rw [if_pos ⟨rfl, c⟩, if_pos c]
            · rw [if_neg (fun q => c q.2), if_neg c]
          rw [wkC_ch (L := S.2) (M := (pBeg1 S h t).2) (h := h) (d := 1) (by rw [hl, if_pos rfl, List.length_append]; rfl) n hh (fun g _ hn => by rw [hl, if_neg hn]), w32_id ⟨by omega, by omega⟩]
        have hR4 : CC n na p u sp C (pBeg1 S h t) (qup F2 35 17 (w32 (wkC S.2 n + 1))) := by
          unfold CC
          rw [← ew]
          exact hR3
        have hq := ih (pBeg1 S h t) _ (i + 1) (by omega) ⟨hR4, hInv2, hST0⟩ hk
        simp only [YK, c20, t20, tgK, lyK, rkK, wK, rfK, qRes_eq, qNon_eq, qup_ap, vup_ap, vcpy_ap, kc8_0, kc8_1, kc8_2, lc_lt, lc_gt, lc_eq, Option.toList_some, Option.toList_none, List.cons_append, List.nil_append, lay_len, lay_sz, Nat.reduceAdd, Nat.reduceSub, Nat.reduceMul, Int.reduceToNat, Int.reduceLE, Int.reduceLT, Int.reduceEq, Int.reduceAdd, Int.reduceSub, Int.reduceMul, Int.reduceNeg, Nat.reduceLeDiff, Nat.reduceLT, true_and, and_true, false_and, and_false, qcat_0, qcat_1, qcat_3, qcat_9, Nat.reduceEqDiff, if_true, if_false, ite_self, or_true, true_or, or_false, false_or, forall_const, not_true_eq_false, not_false_eq_true, false_implies, implies_true, qtK0, qtK1, qtK2, qtK3, qtK4, List.getD_cons_zero, List.getD_cons_succ, Int.toNat_natCast, ne_eq, qcK, hbF, bsetF, bclrF, hx2, w2]
        exact hq
      · rw [if_neg (fun q => c2 q.2)] at hk
        have c2' : (0 < ((S.2 0 h).length : Int)) = False := eq_false (by omega)
        have hq := hk F (i : Int) ⟨hR0, hInv, hST0⟩
        simp only [YK, c20, t20, tgK, lyK, rkK, wK, rfK, hr, qRes_eq, qNon_eq, qup_ap, vup_ap, vcpy_ap, kc8_0, kc8_1, kc8_2, lc_lt, lc_gt, lc_eq, Option.toList_some, Option.toList_none, List.cons_append, List.nil_append, lay_len, lay_sz, Nat.reduceAdd, Nat.reduceSub, Nat.reduceMul, Int.reduceToNat, Int.reduceLE, Int.reduceLT, Int.reduceEq, Int.reduceAdd, Int.reduceSub, Int.reduceMul, Int.reduceNeg, Nat.reduceLeDiff, Nat.reduceLT, true_and, and_true, false_and, and_false, qcat_0, qcat_1, qcat_3, qcat_9, Nat.reduceEqDiff, if_true, if_false, ite_self, or_true, true_or, or_false, false_or, forall_const, not_true_eq_false, not_false_eq_true, false_implies, implies_true, qtK0, qtK1, qtK2, qtK3, qtK4, List.getD_cons_zero, List.getD_cons_succ, hx, Int.toNat_natCast, ne_eq, qcK, hbF, bsetF, bclrF, hp0, hps, t1, t2, t3, t7, hg, hc0, hc1, b1, b2, e1, c1, c2', w1]
        exact hq
    · rw [if_neg (fun q => c1 q.1)] at hk
      have hq := hk F (i : Int) ⟨hR0, hInv, hST0⟩
      simp only [YK, c20, t20, tgK, lyK, rkK, wK, rfK, hr, qRes_eq, qNon_eq, qup_ap, vup_ap, vcpy_ap, kc8_0, kc8_1, kc8_2, lc_lt, lc_gt, lc_eq, Option.toList_some, Option.toList_none, List.cons_append, List.nil_append, lay_len, lay_sz, Nat.reduceAdd, Nat.reduceSub, Nat.reduceMul, Int.reduceToNat, Int.reduceLE, Int.reduceLT, Int.reduceEq, Int.reduceAdd, Int.reduceSub, Int.reduceMul, Int.reduceNeg, Nat.reduceLeDiff, Nat.reduceLT, true_and, and_true, false_and, and_false, qcat_0, qcat_1, qcat_3, qcat_9, Nat.reduceEqDiff, if_true, if_false, ite_self, or_true, true_or, or_false, false_or, forall_const, not_true_eq_false, not_false_eq_true, false_implies, implies_true, qtK0, qtK1, qtK2, qtK3, qtK4, List.getD_cons_zero, List.getD_cons_succ, hx, Int.toNat_natCast, ne_eq, qcK, hbF, bsetF, bclrF, hp0, hps, t1, t2, t3, t7, hg, hc0, hc1, b1, b2, e1, c1, w1]
      exact hq
theorem k20 {tb : qTb} {n ns na p s u : Nat} {sp : Int} {C F : XT} {S : XT × LT} {R : Option qV → qM → Prop} (t : Int) (ht : 0 ≤ t ∧ t ≤ 79) (hQ : Q1 n ns na 2 t p s u sp C S F) (hk : ∀ F2, Q1 n ns na 2 t p s u sp C (pBegs n t S) F2 → R none (LAY, F2)) : qW tb 20 (119, 1262) 0 [(3, 35), (0, t), (9, 0), (9, 0), (9, 0)] [] (LAY, F) R := by
  have hl := aloop (f := fun h S => pBegH h t 3 S) (Q := fun a S F => Q1 n ns na 2 t p s u sp C S F) (W := fun h F => ∀ v3 v4 : qV, qW tb 20 (119, 1262) 2 [(3, 35), (0, t), (0, (h : Int)), v3, v4] [] (LAY, F) R) (na := n) (S0 := S) (fun h S F hh hQ hk2 v3 v4 => by
    have hR := hQ.1
    have hR0 := hR
    unfold CC at hR
    obtain ⟨hInv, hST⟩ := hQ.2
    have hST0 := hST
    have hr := Rf_k hR.rf
    have hx := hR.k
    unfold CD at hx
    obtain ⟨hPS, ⟨t1, t1b⟩, ⟨t2, t2b⟩, ⟨t3, t3b⟩, t4, t5, t6, ⟨t7, t8, t9⟩, t10⟩ := hST
    have hp0 := psK hPS
    have hps := hR.ps hPS
    have hh4 : h < 4 := by omega
    have hg := hR.h hh4
    have hc0 := hcK0 hh4
    have hc1 := hcK1 h
    have b1 : ((h : Int) < (n : Int)) = True := eq_true (by omega)
    have b2 : (0 ≤ (h : Int) ∧ (h : Int) < 4) = True := eq_true (by omega)
    rw [h20_2]
    simp only [YK, c20, t20, tgK, lyK, rkK, wK, rfK, hr, qRes_eq, qNon_eq, qup_ap, vup_ap, vcpy_ap, kc8_0, kc8_1, kc8_2, lc_lt, lc_gt, lc_eq, Option.toList_some, Option.toList_none, List.cons_append, List.nil_append, lay_len, lay_sz, Nat.reduceAdd, Nat.reduceSub, Nat.reduceMul, Int.reduceToNat, Int.reduceLE, Int.reduceLT, Int.reduceEq, Int.reduceAdd, Int.reduceSub, Int.reduceMul, Int.reduceNeg, Nat.reduceLeDiff, Nat.reduceLT, true_and, and_true, false_and, and_false, qcat_0, qcat_1, qcat_3, qcat_9, Nat.reduceEqDiff, if_true, if_false, ite_self, or_true, true_or, or_false, false_or, forall_const, not_true_eq_false, not_false_eq_true, false_implies, implies_true, qtK0, qtK1, qtK2, qtK3, qtK4, List.getD_cons_zero, List.getD_cons_succ, hx, Int.toNat_natCast, ne_eq, qcK, hbF, bsetF, bclrF, hp0, hps, t1, t2, t3, t7, hg, hc0, hc1, b1, b2]
    exact k20h t ht h hh 3 S F 0 (by omega) hQ (fun F2 v h2 => hk2 F2 h2 _ _)) (fun F hQ v3 v4 => by
    have hq := hk F hQ
    have hR := hQ.1
    have hR0 := hR
    unfold CC at hR
    obtain ⟨hInv, hST⟩ := hQ.2
    have hST0 := hST
    have hr := Rf_k hR.rf
    have hx := hR.k
    unfold CD at hx
    obtain ⟨hPS, ⟨t1, t1b⟩, ⟨t2, t2b⟩, ⟨t3, t3b⟩, t4, t5, t6, ⟨t7, t8, t9⟩, t10⟩ := hST
    have hp0 := psK hPS
    have hps := hR.ps hPS
    have b1 : ((n : Int) < (n : Int)) = False := eq_false (by omega)
    rw [h20_2]
    simp only [YK, c20, t20, tgK, lyK, rkK, wK, rfK, hr, qRes_eq, qNon_eq, qup_ap, vup_ap, vcpy_ap, kc8_0, kc8_1, kc8_2, lc_lt, lc_gt, lc_eq, Option.toList_some, Option.toList_none, List.cons_append, List.nil_append, lay_len, lay_sz, Nat.reduceAdd, Nat.reduceSub, Nat.reduceMul, Int.reduceToNat, Int.reduceLE, Int.reduceLT, Int.reduceEq, Int.reduceAdd, Int.reduceSub, Int.reduceMul, Int.reduceNeg, Nat.reduceLeDiff, Nat.reduceLT, true_and, and_true, false_and, and_false, qcat_0, qcat_1, qcat_3, qcat_9, Nat.reduceEqDiff, if_true, if_false, ite_self, or_true, true_or, or_false, false_or, forall_const, not_true_eq_false, not_false_eq_true, false_implies, implies_true, qtK0, qtK1, qtK2, qtK3, qtK4, List.getD_cons_zero, List.getD_cons_succ, hx, Int.toNat_natCast, ne_eq, qcK, hbF, bsetF, bclrF, hp0, hps, t1, t2, t3, t7, b1]
    exact hq) F hQ
  have hR := hQ.1
  have hR0 := hR
  unfold CC at hR
  obtain ⟨hInv, hST⟩ := hQ.2
  have hST0 := hST
  have hr := Rf_k hR.rf
  have hx := hR.k
  unfold CD at hx
  obtain ⟨hPS, ⟨t1, t1b⟩, ⟨t2, t2b⟩, ⟨t3, t3b⟩, t4, t5, t6, ⟨t7, t8, t9⟩, t10⟩ := hST
  have hp0 := psK hPS
  have hps := hR.ps hPS
  simp only [YK, c20, t20, tgK, lyK, rkK, wK, rfK, hr, qRes_eq, qNon_eq, qup_ap, vup_ap, vcpy_ap, kc8_0, kc8_1, kc8_2, lc_lt, lc_gt, lc_eq, Option.toList_some, Option.toList_none, List.cons_append, List.nil_append, lay_len, lay_sz, Nat.reduceAdd, Nat.reduceSub, Nat.reduceMul, Int.reduceToNat, Int.reduceLE, Int.reduceLT, Int.reduceEq, Int.reduceAdd, Int.reduceSub, Int.reduceMul, Int.reduceNeg, Nat.reduceLeDiff, Nat.reduceLT, true_and, and_true, false_and, and_false, qcat_0, qcat_1, qcat_3, qcat_9, Nat.reduceEqDiff, if_true, if_false, ite_self, or_true, true_or, or_false, false_or, forall_const, not_true_eq_false, not_false_eq_true, false_implies, implies_true, qtK0, qtK1, qtK2, qtK3, qtK4, List.getD_cons_zero, List.getD_cons_succ, hx, Int.toNat_natCast, ne_eq, qcK, hbF, bsetF, bclrF, hp0, hps, t1, t2, t3, t7]
  exact hl _ _
