/-! the reference: best; the pair best -/
theorem tdivN (x y : Nat) : Int.tdiv (x : Int) (y : Int) = ((x / y : Nat) : Int) := rfl
theorem r166 {tb : qTb} {F F1 : XT} {n ns na : Nat} {w : Int} {R : Option qV → qM → Prop} (hA : FA) (hR : Rel F) (hd : DN F n ns na) (hw : 0 ≤ w ∧ w ≤ 2) (hR1 : Rel F1) (h9 : ∀ c : Nat, 69 ≤ c → F1 c = F c) (hk : ∀ G, Rel G → R (some (0, bAns (bT n ns na F (-9) 48) w)) (LAY, G)) : qW tb 166 (119, 1262) 0 [(3, 69), (0, w), (9, 0), (9, 0), (9, 0), (9, 0), (9, 0), (9, 0)] [] (LAY, F1) R := by
  have hD := hR.2.2.1
  have hn4 : n ≤ 4 := by have := hD.1; have := hd.1; omega
  have hna : na ≤ 12 := by have := hD.2.1; have := hd.2.2; omega
  have hI : ∀ k : Nat, k < 48 → Inv n ns na 0 0 (trX F (tpB F k) (F 118), L0) := by
    intro k hk48
    refine (TFr_ok (G := va_up (qup F 25 1 (tpB F k 5)) 26 (tpB F k)) (tp := tpB F k) (w := F 118) hR hd ⟨Rf_vup (hR.1.up (by decide)) _ (by decide), fun c hc c1 c2 => ?_⟩ (fun j _ => by rw [vup_ap, if_pos rfl]) (by rw [vup_ap, if_neg (by decide), qup_ap, if_pos rfl, if_pos rfl]) (tpB_PB hR hk48)).1
    funext j
    rw [vup_ap, if_neg c2, qup_c c1]
  have hloop : ∀ (q k : Nat) (G : XT) (tp : Nat → Int) (v6 v7 : qV), k + q = 48 → TRr F F1 G tp (F 118) → (tp 1 = F 89 1 ∧ tp 4 = F 89 4 ∧ tp 5 = F 89 5) → qW tb 166 (119, 1262) 34 [(3, 69), (0, w), (0, (bT n ns na F (-9) k).1), (0, (bT n ns na F (-9) k).2.1), (0, (bT n ns na F (-9) k).2.2), (0, (k : Int)), v6, v7] [] (LAY, G) R := by
    intro q
    induction q with
    | zero =>
      intro k G tp v6 v7 hq hG htp
      have ek : k = 48 := by omega
      subst ek
      have e48 : ((48 : Nat) : Int) = 48 := rfl
      have hq2 := hk G (TRr_Rel hR1 h9 hG)
      unfold bAns at hq2
      rw [h166_34]
      simp only [YK, c166, t166, tgK, lyK, rkK, wK, rfK, qRes_eq, qNon_eq, qup_ap, vup_ap, vcpy_ap, kc8_0, kc8_1, kc8_2, lc_lt, lc_gt, lc_eq, Option.toList_some, Option.toList_none, List.cons_append, List.nil_append, lay_len, lay_sz, Nat.reduceAdd, Nat.reduceSub, Nat.reduceMul, Int.reduceToNat, Int.reduceLE, Int.reduceLT, Int.reduceEq, Int.reduceAdd, Int.reduceSub, Int.reduceMul, Int.reduceNeg, Nat.reduceLeDiff, Nat.reduceLT, true_and, and_true, false_and, and_false, qcat_0, qcat_1, qcat_3, qcat_9, Nat.reduceEqDiff, if_true, if_false, ite_self, or_true, true_or, or_false, false_or, forall_const, not_true_eq_false, not_false_eq_true, false_implies, implies_true, qtK0, qtK1, qtK2, qtK3, qtK4, List.getD_cons_zero, List.getD_cons_succ, Int.toNat_natCast, ne_eq, qcK, hbF, bsetF, bclrF, e48]
      refine ⟨fun c0 => ?_, fun c0 => ⟨fun c1 => ?_, fun c1 => ?_⟩⟩
      · rw [if_pos c0] at hq2; exact hq2
      · rw [if_neg c0, if_pos c1] at hq2; exact hq2
      · rw [if_neg c0, if_neg c1] at hq2; exact hq2
    | succ q ih =>
      intro k G tp v6 v7 hq hG htp
      have hr := Rf_k hG.1.1
      have b1 : ((k : Int) < 48) = True := eq_true (by omega)
      have w1 : w32 ((k : Int) + 1) = ((k + 1 : Nat) : Int) := by rw [w32_id ⟨by omega, by omega⟩]; omega
      have u1 : w32 (Int.tdiv (k : Int) 12) = ((k / 12 : Nat) : Int) := by
        have : Int.tdiv (k : Int) 12 = ((k / 12 : Nat) : Int) := rfl
        rw [this]; exact w32_id ⟨by omega, by omega⟩
      have u2 : w32 (1 + ((k / 12 : Nat) : Int)) = 1 + ((k / 12 : Nat) : Int) := w32_id ⟨by omega, by omega⟩
      have u3 : w32 (Int.tdiv (k : Int) 4) = ((k / 4 : Nat) : Int) := by
        have : Int.tdiv (k : Int) 4 = ((k / 4 : Nat) : Int) := rfl
        rw [this]; exact w32_id ⟨by omega, by omega⟩
      have u4 : w32 (Int.tmod ((k / 4 : Nat) : Int) 3) = ((k / 4 % 3 : Nat) : Int) := by
        have : Int.tmod ((k / 4 : Nat) : Int) 3 = ((k / 4 % 3 : Nat) : Int) := rfl
        rw [this]; exact w32_id ⟨by omega, by omega⟩
      have u5 : w32 (Int.tmod (k : Int) 4) = ((k % 4 : Nat) : Int) := by
        have : Int.tmod (k : Int) 4 = ((k % 4 : Nat) : Int) := rfl
        rw [this]; exact w32_id ⟨by omega, by omega⟩
      have hG1 : TRr F F1 (qup (qup (qup G 90 0 (1 + ((k / 12 : Nat) : Int))) 90 2 ((k / 4 % 3 : Nat) : Int)) 90 3 ((k % 4 : Nat) : Int)) (tpB F k) (F 118) := by
        refine TRr_eq (TRr_up (TRr_up (TRr_up hG (k := 0) (by decide) _) (k := 2) (by decide) _) (k := 3) (by decide) _) ?_
        intro j hj
        have hj6 : j = 0 ∨ j = 1 ∨ j = 2 ∨ j = 3 ∨ j = 4 ∨ j = 5 := by omega
        unfold tpB
        rcases hj6 with rfl | rfl | rfl | rfl | rfl | rfl <;> simp only [if_true, if_false, Nat.reduceEqDiff, htp]
      rw [h166_34]
      simp only [YK, c166, t166, cl148, tgK, lyK, rkK, wK, rfK, hr, qRes_eq, qNon_eq, qup_ap, vup_ap, vcpy_ap, kc8_0, kc8_1, kc8_2, lc_lt, lc_gt, lc_eq, Option.toList_some, Option.toList_none, List.cons_append, List.nil_append, lay_len, lay_sz, Nat.reduceAdd, Nat.reduceSub, Nat.reduceMul, Int.reduceToNat, Int.reduceLE, Int.reduceLT, Int.reduceEq, Int.reduceAdd, Int.reduceSub, Int.reduceMul, Int.reduceNeg, Nat.reduceLeDiff, Nat.reduceLT, true_and, and_true, false_and, and_false, qcat_0, qcat_1, qcat_3, qcat_9, Nat.reduceEqDiff, if_true, if_false, ite_self, or_true, true_or, or_false, false_or, forall_const, not_true_eq_false, not_false_eq_true, false_implies, implies_true, qtK0, qtK1, qtK2, qtK3, qtK4, List.getD_cons_zero, List.getD_cons_succ, Int.toNat_natCast, ne_eq, qcK, hbF, bsetF, bclrF, b1, u1, u2, u3, u4, u5]
      refine r_tr hA hG1 (hI k (by omega)) ?_
      clear hr
      intro G2 hRR hG2
      have hr := Rf_k hG2.1.1
      have hKP := KP_run (n := n) (ns := ns) (na := na) (S := (trX F (tpB F k) (F 118), L0)) 80
      have hIk := (hI k (by omega)).1
      simp only [YK, c166, t166, cl151, tgK, lyK, rkK, wK, rfK, hr, qRes_eq, qNon_eq, qup_ap, vup_ap, vcpy_ap, kc8_0, kc8_1, kc8_2, lc_lt, lc_gt, lc_eq, Option.toList_some, Option.toList_none, List.cons_append, List.nil_append, lay_len, lay_sz, Nat.reduceAdd, Nat.reduceSub, Nat.reduceMul, Int.reduceToNat, Int.reduceLE, Int.reduceLT, Int.reduceEq, Int.reduceAdd, Int.reduceSub, Int.reduceMul, Int.reduceNeg, Nat.reduceLeDiff, Nat.reduceLT, true_and, and_true, false_and, and_false, qcat_0, qcat_1, qcat_3, qcat_9, Nat.reduceEqDiff, if_true, if_false, ite_self, or_true, true_or, or_false, false_or, forall_const, not_true_eq_false, not_false_eq_true, false_implies, implies_true, qtK0, qtK1, qtK2, qtK3, qtK4, List.getD_cons_zero, List.getD_cons_succ, Int.toNat_natCast, ne_eq, qcK, hbF, bsetF, bclrF]
      refine r151 hRR 2 na (by rw [hKP.2 3 (by decide)]; exact hIk.2.2.1.1) hna ?_
      simp only [YK, c166, t166, cl152, tgK, lyK, rkK, wK, rfK, hr, qRes_eq, qNon_eq, qup_ap, vup_ap, vcpy_ap, kc8_0, kc8_1, kc8_2, lc_lt, lc_gt, lc_eq, Option.toList_some, Option.toList_none, List.cons_append, List.nil_append, lay_len, lay_sz, Nat.reduceAdd, Nat.reduceSub, Nat.reduceMul, Int.reduceToNat, Int.reduceLE, Int.reduceLT, Int.reduceEq, Int.reduceAdd, Int.reduceSub, Int.reduceMul, Int.reduceNeg, Nat.reduceLeDiff, Nat.reduceLT, true_and, and_true, false_and, and_false, qcat_0, qcat_1, qcat_3, qcat_9, Nat.reduceEqDiff, if_true, if_false, ite_self, or_true, true_or, or_false, false_or, forall_const, not_true_eq_false, not_false_eq_true, false_implies, implies_true, qtK0, qtK1, qtK2, qtK3, qtK4, List.getD_cons_zero, List.getD_cons_succ, Int.toNat_natCast, ne_eq, qcK, hbF, bsetF, bclrF]
      refine r152_115 hRR n (by rw [hKP.2 2 (by decide)]; exact hIk.1.1) hn4 ?_
      have t0 : G2 90 0 = 1 + ((k / 12 : Nat) : Int) := hG2.2.2.2.1 0 (by decide)
      have t2 : G2 90 2 = ((k / 4 % 3 : Nat) : Int) := hG2.2.2.2.1 2 (by decide)
      have t3 : G2 90 3 = ((k % 4 : Nat) : Int) := hG2.2.2.2.1 3 (by decide)
      have hi := ih (k + 1) G2 (tpB F k) (0, mT (bstS n ns na F k).1 2 na) (0, smT ((bstS n ns na F k).1 115) n) (by omega) hG2 ⟨rfl, rfl, rfl⟩
      unfold bT at hi
      have eS : pRunT n ns na 80 (trX F (tpB F k) (F 118), L0) = bstS n ns na F k := rfl
      rw [eS]
      clear hRR hKP
      generalize bstS n ns na F k = S at *
      generalize bT n ns na F (-9) k = B at *
      have x1 : w32 (100 * (1 + ((k / 12 : Nat) : Int))) = 100 * (1 + ((k / 12 : Nat) : Int)) := w32_id ⟨by omega, by omega⟩
      have x2 : w32 (10 * ((k / 4 % 3 : Nat) : Int)) = 10 * ((k / 4 % 3 : Nat) : Int) := w32_id ⟨by omega, by omega⟩
      have x3 : w32 (100 * (1 + ((k / 12 : Nat) : Int)) + 10 * ((k / 4 % 3 : Nat) : Int)) = 100 * (1 + ((k / 12 : Nat) : Int)) + 10 * ((k / 4 % 3 : Nat) : Int) := w32_id ⟨by omega, by omega⟩
      have x4 : w32 (100 * (1 + ((k / 12 : Nat) : Int)) + 10 * ((k / 4 % 3 : Nat) : Int) + ((k % 4 : Nat) : Int)) = 100 * (1 + ((k / 12 : Nat) : Int)) + 10 * ((k / 4 % 3 : Nat) : Int) + ((k % 4 : Nat) : Int) := w32_id ⟨by omega, by omega⟩
      by_cases c1 : B.1 < mT S.1 2 na
      · rw [if_pos (Or.inl c1)] at hi
        simp only [YK, c166, t166, tgK, lyK, rkK, wK, rfK, hr, qRes_eq, qNon_eq, qup_ap, vup_ap, vcpy_ap, kc8_0, kc8_1, kc8_2, lc_lt, lc_gt, lc_eq, Option.toList_some, Option.toList_none, List.cons_append, List.nil_append, lay_len, lay_sz, Nat.reduceAdd, Nat.reduceSub, Nat.reduceMul, Int.reduceToNat, Int.reduceLE, Int.reduceLT, Int.reduceEq, Int.reduceAdd, Int.reduceSub, Int.reduceMul, Int.reduceNeg, Nat.reduceLeDiff, Nat.reduceLT, true_and, and_true, false_and, and_false, qcat_0, qcat_1, qcat_3, qcat_9, Nat.reduceEqDiff, if_true, if_false, ite_self, or_true, true_or, or_false, false_or, forall_const, not_true_eq_false, not_false_eq_true, false_implies, implies_true, qtK0, qtK1, qtK2, qtK3, qtK4, List.getD_cons_zero, List.getD_cons_succ, Int.toNat_natCast, ne_eq, qcK, hbF, bsetF, bclrF, c1, t0, t2, t3, x1, x2, x3, x4, w1]
        exact hi
      · by_cases c2 : mT S.1 2 na = B.1
        · have c1' : (B.1 < B.1) = False := eq_false (by omega)
          by_cases c3 : smT (S.1 115) n < B.2.1
          · rw [if_pos (Or.inr ⟨c2, c3⟩)] at hi
            rw [c2] at hi ⊢
            simp only [YK, c166, t166, tgK, lyK, rkK, wK, rfK, hr, qRes_eq, qNon_eq, qup_ap, vup_ap, vcpy_ap, kc8_0, kc8_1, kc8_2, lc_lt, lc_gt, lc_eq, Option.toList_some, Option.toList_none, List.cons_append, List.nil_append, lay_len, lay_sz, Nat.reduceAdd, Nat.reduceSub, Nat.reduceMul, Int.reduceToNat, Int.reduceLE, Int.reduceLT, Int.reduceEq, Int.reduceAdd, Int.reduceSub, Int.reduceMul, Int.reduceNeg, Nat.reduceLeDiff, Nat.reduceLT, true_and, and_true, false_and, and_false, qcat_0, qcat_1, qcat_3, qcat_9, Nat.reduceEqDiff, if_true, if_false, ite_self, or_true, true_or, or_false, false_or, forall_const, not_true_eq_false, not_false_eq_true, false_implies, implies_true, qtK0, qtK1, qtK2, qtK3, qtK4, List.getD_cons_zero, List.getD_cons_succ, Int.toNat_natCast, ne_eq, qcK, hbF, bsetF, bclrF, c1', c3, t0, t2, t3, x1, x2, x3, x4, w1]
            exact hi
          · rw [if_neg (by omega)] at hi
            rw [c2] at hi ⊢
            simp only [YK, c166, t166, tgK, lyK, rkK, wK, rfK, hr, qRes_eq, qNon_eq, qup_ap, vup_ap, vcpy_ap, kc8_0, kc8_1, kc8_2, lc_lt, lc_gt, lc_eq, Option.toList_some, Option.toList_none, List.cons_append, List.nil_append, lay_len, lay_sz, Nat.reduceAdd, Nat.reduceSub, Nat.reduceMul, Int.reduceToNat, Int.reduceLE, Int.reduceLT, Int.reduceEq, Int.reduceAdd, Int.reduceSub, Int.reduceMul, Int.reduceNeg, Nat.reduceLeDiff, Nat.reduceLT, true_and, and_true, false_and, and_false, qcat_0, qcat_1, qcat_3, qcat_9, Nat.reduceEqDiff, if_true, if_false, ite_self, or_true, true_or, or_false, false_or, forall_const, not_true_eq_false, not_false_eq_true, false_implies, implies_true, qtK0, qtK1, qtK2, qtK3, qtK4, List.getD_cons_zero, List.getD_cons_succ, Int.toNat_natCast, ne_eq, qcK, hbF, bsetF, bclrF, c1', c3, t0, t2, t3, x1, x2, x3, x4, w1]
            exact hi
        · rw [if_neg (by omega)] at hi
          simp only [YK, c166, t166, tgK, lyK, rkK, wK, rfK, hr, qRes_eq, qNon_eq, qup_ap, vup_ap, vcpy_ap, kc8_0, kc8_1, kc8_2, lc_lt, lc_gt, lc_eq, Option.toList_some, Option.toList_none, List.cons_append, List.nil_append, lay_len, lay_sz, Nat.reduceAdd, Nat.reduceSub, Nat.reduceMul, Int.reduceToNat, Int.reduceLE, Int.reduceLT, Int.reduceEq, Int.reduceAdd, Int.reduceSub, Int.reduceMul, Int.reduceNeg, Nat.reduceLeDiff, Nat.reduceLT, true_and, and_true, false_and, and_false, qcat_0, qcat_1, qcat_3, qcat_9, Nat.reduceEqDiff, if_true, if_false, ite_self, or_true, true_or, or_false, false_or, forall_const, not_true_eq_false, not_false_eq_true, false_implies, implies_true, qtK0, qtK1, qtK2, qtK3, qtK4, List.getD_cons_zero, List.getD_cons_succ, Int.toNat_natCast, ne_eq, qcK, hbF, bsetF, bclrF, c1, c2, w1]
          exact hi
  have hr := Rf_k hR1.1
  have e0 : ((0 : Nat) : Int) = 0 := rfl
  simp only [YK, c166, t166, cl104, tgK, lyK, rkK, wK, rfK, hr, qRes_eq, qNon_eq, qup_ap, vup_ap, vcpy_ap, kc8_0, kc8_1, kc8_2, lc_lt, lc_gt, lc_eq, Option.toList_some, Option.toList_none, List.cons_append, List.nil_append, lay_len, lay_sz, Nat.reduceAdd, Nat.reduceSub, Nat.reduceMul, Int.reduceToNat, Int.reduceLE, Int.reduceLT, Int.reduceEq, Int.reduceAdd, Int.reduceSub, Int.reduceMul, Int.reduceNeg, Nat.reduceLeDiff, Nat.reduceLT, true_and, and_true, false_and, and_false, qcat_0, qcat_1, qcat_3, qcat_9, Nat.reduceEqDiff, if_true, if_false, ite_self, or_true, true_or, or_false, false_or, forall_const, not_true_eq_false, not_false_eq_true, false_implies, implies_true, qtK0, qtK1, qtK2, qtK3, qtK4, List.getD_cons_zero, List.getD_cons_succ, Int.toNat_natCast, ne_eq, qcK, hbF, bsetF, bclrF, e0]
  refine r104 w 0 2 ?_
  rw [b01_t hw]
  simp only [YK, c166, t166, cl165, tgK, lyK, rkK, wK, rfK, qRes_eq, qNon_eq, qup_ap, vup_ap, vcpy_ap, kc8_0, kc8_1, kc8_2, lc_lt, lc_gt, lc_eq, Option.toList_some, Option.toList_none, List.cons_append, List.nil_append, lay_len, lay_sz, Nat.reduceAdd, Nat.reduceSub, Nat.reduceMul, Int.reduceToNat, Int.reduceLE, Int.reduceLT, Int.reduceEq, Int.reduceAdd, Int.reduceSub, Int.reduceMul, Int.reduceNeg, Nat.reduceLeDiff, Nat.reduceLT, true_and, and_true, false_and, and_false, qcat_0, qcat_1, qcat_3, qcat_9, Nat.reduceEqDiff, if_true, if_false, ite_self, or_true, true_or, or_false, false_or, forall_const, not_true_eq_false, not_false_eq_true, false_implies, implies_true, qtK0, qtK1, qtK2, qtK3, qtK4, List.getD_cons_zero, List.getD_cons_succ, Int.toNat_natCast, ne_eq, qcK, hbF, bsetF, bclrF]
  refine r165 hR1.1 ?_
  simp only [YK, c166, t166, cl150, tgK, lyK, rkK, wK, rfK, qRes_eq, qNon_eq, qup_ap, vup_ap, vcpy_ap, kc8_0, kc8_1, kc8_2, lc_lt, lc_gt, lc_eq, Option.toList_some, Option.toList_none, List.cons_append, List.nil_append, lay_len, lay_sz, Nat.reduceAdd, Nat.reduceSub, Nat.reduceMul, Int.reduceToNat, Int.reduceLE, Int.reduceLT, Int.reduceEq, Int.reduceAdd, Int.reduceSub, Int.reduceMul, Int.reduceNeg, Nat.reduceLeDiff, Nat.reduceLT, true_and, and_true, false_and, and_false, qcat_0, qcat_1, qcat_3, qcat_9, Nat.reduceEqDiff, if_true, if_false, ite_self, or_true, true_or, or_false, false_or, forall_const, not_true_eq_false, not_false_eq_true, false_implies, implies_true, qtK0, qtK1, qtK2, qtK3, qtK4, List.getD_cons_zero, List.getD_cons_succ, Int.toNat_natCast, ne_eq, qcK, hbF, bsetF, bclrF]
  refine r150 (layT_Rf hR1.1) ?_
  have hq := hloop 48 0 (layH (layT F1)) (F 89) (9, 0) (9, 0) (by omega) (TRr_lay hR1.1 h9) ⟨rfl, rfl, rfl⟩
  simp only [YK, c166, t166, tgK, lyK, rkK, wK, rfK, qRes_eq, qNon_eq, qup_ap, vup_ap, vcpy_ap, kc8_0, kc8_1, kc8_2, lc_lt, lc_gt, lc_eq, Option.toList_some, Option.toList_none, List.cons_append, List.nil_append, lay_len, lay_sz, Nat.reduceAdd, Nat.reduceSub, Nat.reduceMul, Int.reduceToNat, Int.reduceLE, Int.reduceLT, Int.reduceEq, Int.reduceAdd, Int.reduceSub, Int.reduceMul, Int.reduceNeg, Nat.reduceLeDiff, Nat.reduceLT, true_and, and_true, false_and, and_false, qcat_0, qcat_1, qcat_3, qcat_9, Nat.reduceEqDiff, if_true, if_false, ite_self, or_true, true_or, or_false, false_or, forall_const, not_true_eq_false, not_false_eq_true, false_implies, implies_true, qtK0, qtK1, qtK2, qtK3, qtK4, List.getD_cons_zero, List.getD_cons_succ, Int.toNat_natCast, ne_eq, qcK, hbF, bsetF, bclrF]
  exact hq
theorem H_best {L : Nat} {xs : Nat → Int} (hA : FA) (F : Nat → Nat → Int) (w : Int) (hR : Rel F) : qPair (qtab L xs) Rel 0 82 166 [(3, 0), (0, w), (9, 0), (9, 0), (9, 0), (9, 0), (9, 0), (9, 0), (9, 0), (9, 0)] [(3, 69), (0, w), (9, 0), (9, 0), (9, 0), (9, 0), (9, 0), (9, 0)] F := by
  apply qPair_of
  obtain ⟨n, ns, na, hd⟩ := DN_of hR
  have hn4 : n ≤ 4 := by have := hR.2.2.1.1; have := hd.1; omega
  have hna : na ≤ 12 := by have := hR.2.2.1.2.1; have := hd.2.2; omega
  by_cases c : 0 ≤ w ∧ w ≤ 2
  · refine k82 (fun j => rfl) rfl (fun j => rfl) rfl hA hR hd hn4 hna c ?_
    intro G hG
    rw [qRes_eq]
    refine r166 hA hR hd c (TFr_Rel hR hG) (TFr_69 hG) ?_
    intro G2 hG2
    rw [qRes_eq, bT_eq n ns na F (by decide : (-9 : Int) < 0) (by decide : (-1 : Int) < 0) 48 (by decide)]
    exact ⟨rfl, hG2⟩
  · have hr := Rf_k hR.1
    have e0 : ((0 : Nat) : Int) = 0 := rfl
    by_cases c2 : w < 0
    · have d1 : (w < 0) = True := eq_true c2
      simp only [YK, c82, t82, c166, t166, cl104, tgK, lyK, rkK, wK, rfK, hr, qRes_eq, qNon_eq, qup_ap, vup_ap, vcpy_ap, kc8_0, kc8_1, kc8_2, lc_lt, lc_gt, lc_eq, Option.toList_some, Option.toList_none, List.cons_append, List.nil_append, lay_len, lay_sz, Nat.reduceAdd, Nat.reduceSub, Nat.reduceMul, Int.reduceToNat, Int.reduceLE, Int.reduceLT, Int.reduceEq, Int.reduceAdd, Int.reduceSub, Int.reduceMul, Int.reduceNeg, Nat.reduceLeDiff, Nat.reduceLT, true_and, and_true, false_and, and_false, qcat_0, qcat_1, qcat_3, qcat_9, Nat.reduceEqDiff, if_true, if_false, ite_self, or_true, true_or, or_false, false_or, forall_const, not_true_eq_false, not_false_eq_true, false_implies, implies_true, qtK0, qtK1, qtK2, qtK3, qtK4, List.getD_cons_zero, List.getD_cons_succ, Int.toNat_natCast, ne_eq, qcK, hbF, bsetF, bclrF, d1, e0]
      refine r104 w 0 2 ?_
      rw [b01_f c]
      simp only [YK, c166, t166, tgK, lyK, rkK, wK, rfK, qRes_eq, qNon_eq, qup_ap, vup_ap, vcpy_ap, kc8_0, kc8_1, kc8_2, lc_lt, lc_gt, lc_eq, Option.toList_some, Option.toList_none, List.cons_append, List.nil_append, lay_len, lay_sz, Nat.reduceAdd, Nat.reduceSub, Nat.reduceMul, Int.reduceToNat, Int.reduceLE, Int.reduceLT, Int.reduceEq, Int.reduceAdd, Int.reduceSub, Int.reduceMul, Int.reduceNeg, Nat.reduceLeDiff, Nat.reduceLT, true_and, and_true, false_and, and_false, qcat_0, qcat_1, qcat_3, qcat_9, Nat.reduceEqDiff, if_true, if_false, ite_self, or_true, true_or, or_false, false_or, forall_const, not_true_eq_false, not_false_eq_true, false_implies, implies_true, qtK0, qtK1, qtK2, qtK3, qtK4, List.getD_cons_zero, List.getD_cons_succ, Int.toNat_natCast, ne_eq, qcK, hbF, bsetF, bclrF]
      exact hR
    · have d1 : (w < 0) = False := eq_false c2
      have d2 : (2 < w) = True := eq_true (by omega)
      simp only [YK, c82, t82, c166, t166, cl104, tgK, lyK, rkK, wK, rfK, hr, qRes_eq, qNon_eq, qup_ap, vup_ap, vcpy_ap, kc8_0, kc8_1, kc8_2, lc_lt, lc_gt, lc_eq, Option.toList_some, Option.toList_none, List.cons_append, List.nil_append, lay_len, lay_sz, Nat.reduceAdd, Nat.reduceSub, Nat.reduceMul, Int.reduceToNat, Int.reduceLE, Int.reduceLT, Int.reduceEq, Int.reduceAdd, Int.reduceSub, Int.reduceMul, Int.reduceNeg, Nat.reduceLeDiff, Nat.reduceLT, true_and, and_true, false_and, and_false, qcat_0, qcat_1, qcat_3, qcat_9, Nat.reduceEqDiff, if_true, if_false, ite_self, or_true, true_or, or_false, false_or, forall_const, not_true_eq_false, not_false_eq_true, false_implies, implies_true, qtK0, qtK1, qtK2, qtK3, qtK4, List.getD_cons_zero, List.getD_cons_succ, Int.toNat_natCast, ne_eq, qcK, hbF, bsetF, bclrF, d1, d2, e0]
      refine r104 w 0 2 ?_
      rw [b01_f c]
      simp only [YK, c166, t166, tgK, lyK, rkK, wK, rfK, qRes_eq, qNon_eq, qup_ap, vup_ap, vcpy_ap, kc8_0, kc8_1, kc8_2, lc_lt, lc_gt, lc_eq, Option.toList_some, Option.toList_none, List.cons_append, List.nil_append, lay_len, lay_sz, Nat.reduceAdd, Nat.reduceSub, Nat.reduceMul, Int.reduceToNat, Int.reduceLE, Int.reduceLT, Int.reduceEq, Int.reduceAdd, Int.reduceSub, Int.reduceMul, Int.reduceNeg, Nat.reduceLeDiff, Nat.reduceLT, true_and, and_true, false_and, and_false, qcat_0, qcat_1, qcat_3, qcat_9, Nat.reduceEqDiff, if_true, if_false, ite_self, or_true, true_or, or_false, false_or, forall_const, not_true_eq_false, not_false_eq_true, false_implies, implies_true, qtK0, qtK1, qtK2, qtK3, qtK4, List.getD_cons_zero, List.getD_cons_succ, Int.toNat_natCast, ne_eq, qcK, hbF, bsetF, bclrF]
      exact hR
