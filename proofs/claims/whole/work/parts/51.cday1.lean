/-! the class: what a day looks up -/
/-- what stays so in a run: the day that is told, the policy, the hours, what is spoilt -/
def ST (n ns na p s u : Nat) (sp : Int) (C X : XT) : Prop := PSH p s u ∧ (C 3 0 = (n : Int) ∧ n ≤ 4) ∧ (C 3 1 = (ns : Int) ∧ ns ≤ 4) ∧ (C 3 2 = (na : Int) ∧ na ≤ 12) ∧ (∀ h : Nat, h < n → C 4 h = X 71 h ∧ C 5 h = X 72 h ∧ C 6 h = X 73 h) ∧ (∀ k : Nat, k < ns → C 7 k = X 74 k ∧ C 8 k = X 75 k ∧ C 9 k = X 76 k) ∧ (∀ a : Nat, a < na → C 11 a = X 78 a ∧ C 12 a = X 79 a ∧ C u a = X 96 a) ∧ (C p 0 = (s : Int) ∧ (∀ k : Nat, k < 5 → C s k = X 97 k) ∧ C p 1 = X 97 5) ∧ ((X 69 41 = -9 ∧ sp = -1) ∨ (0 ≤ X 69 41 ∧ sp = X 69 41))
theorem ST_eq {n ns na p s u : Nat} {sp : Int} {C X Y : XT} (h : ST n ns na p s u sp C X) (e41 : Y 69 41 = X 69 41) (e71 : Y 71 = X 71) (e72 : Y 72 = X 72) (e73 : Y 73 = X 73) (e74 : Y 74 = X 74) (e75 : Y 75 = X 75) (e76 : Y 76 = X 76) (e78 : Y 78 = X 78) (e79 : Y 79 = X 79) (e96 : Y 96 = X 96) (e97 : Y 97 = X 97) : ST n ns na p s u sp C Y := by
  unfold ST at h ⊢
  rw [e41, e71, e72, e73, e74, e75, e76, e78, e79, e96, e97]
  exact h
theorem spTo_mono (X : XT) (h t : Int) {k : Nat} (hk : spTo X h t k = true) : ∀ m, k ≤ m → spTo X h t m = true := by
  intro m
  induction m with
  | zero =>
    intro hm
    have : k = 0 := by omega
    rw [← this]; exact hk
  | succ m ih =>
    intro hm
    by_cases c : k = m + 1
    · rw [← c]; exact hk
    · unfold spTo
      rw [ih (by omega), Bool.true_or]
theorem k68 {tb : qTb} {n ns na p s u : Nat} {sp : Int} {C X F : XT} {L : LT} {e b : Int} {R : Option qV → qM → Prop} (hR : CR p u sp C X L e b F) (hST : ST n ns na p s u sp C X) (h t : Int) (hk : R (some (0, bi (spTo X h t ns))) (LAY, F)) : qW tb 68 (119, 1262) 0 [(3, 3), (0, h), (0, t), (9, 0)] [] (LAY, F) R := by
  have hr := Rf_k hR.rf
  have hx := hR.k
  unfold CD at hx
  obtain ⟨hPS, ⟨t1, t1b⟩, ⟨t2, t2b⟩, ⟨t3, t3b⟩, t4, t5, t6, ⟨t7, t8, t9⟩, t10⟩ := hST
  have hp0 := psK hPS
  have hps := hR.ps hPS
  have hloop : ∀ (m k : Nat), k + m = ns → spTo X h t k = false → qW tb 68 (119, 1262) 2 [(3, 3), (0, h), (0, t), (0, (k : Int))] [] (LAY, F) R := by
    intro m
    induction m with
    | zero =>
      intro k hkm hs
      have b1 : ((k : Int) < (ns : Int)) = False := eq_false (by omega)
      have ek : k = ns := by omega
      rw [ek] at hs
      rw [hs, bi_f] at hk
      rw [h68_2]
      simp only [YK, c68, t68, tgK, lyK, rkK, wK, rfK, hr, qRes_eq, qNon_eq, qup_ap, vup_ap, vcpy_ap, kc8_0, kc8_1, kc8_2, lc_lt, lc_gt, lc_eq, Option.toList_some, Option.toList_none, List.cons_append, List.nil_append, lay_len, lay_sz, Nat.reduceAdd, Nat.reduceSub, Nat.reduceMul, Int.reduceToNat, Int.reduceLE, Int.reduceLT, Int.reduceEq, Int.reduceAdd, Int.reduceSub, Int.reduceMul, Int.reduceNeg, Nat.reduceLeDiff, Nat.reduceLT, true_and, and_true, false_and, and_false, qcat_0, qcat_1, qcat_3, qcat_9, Nat.reduceEqDiff, if_true, if_false, ite_self, or_true, true_or, or_false, false_or, forall_const, not_true_eq_false, not_false_eq_true, false_implies, implies_true, qtK0, qtK1, qtK2, qtK3, qtK4, List.getD_cons_zero, List.getD_cons_succ, hx, Int.toNat_natCast, ne_eq, qcK, hbF, bsetF, bclrF, hp0, hps, t1, t2, t3, t7, b1]
      exact hk
    | succ m ih =>
      intro k hkm hs
      have b1 : ((k : Int) < (ns : Int)) = True := eq_true (by omega)
      have b2 : (0 ≤ (k : Int) ∧ (k : Int) < 4) = True := eq_true (by omega)
      have w1 : w32 ((k : Int) + 1) = ((k + 1 : Nat) : Int) := by rw [w32_id ⟨by omega, by omega⟩]; omega
      obtain ⟨e1, e2, e3⟩ := t5 k (by omega)
      by_cases c : X 74 k = h ∧ X 75 k ≤ t ∧ t ≤ X 76 k
      · have hT := spTo_mono X h t (k := k + 1) (by unfold spTo; rw [decide_eq_true c, Bool.or_true]) ns (by omega)
        rw [hT, bi_t] at hk
        obtain ⟨c1, c2, c3⟩ := c
        have d2 : (t < X 75 k) = False := eq_false (by omega)
        have d3 : (X 76 k < t) = False := eq_false (by omega)
        rw [h68_2]
        simp only [YK, c68, t68, tgK, lyK, rkK, wK, rfK, hr, qRes_eq, qNon_eq, qup_ap, vup_ap, vcpy_ap, kc8_0, kc8_1, kc8_2, lc_lt, lc_gt, lc_eq, Option.toList_some, Option.toList_none, List.cons_append, List.nil_append, lay_len, lay_sz, Nat.reduceAdd, Nat.reduceSub, Nat.reduceMul, Int.reduceToNat, Int.reduceLE, Int.reduceLT, Int.reduceEq, Int.reduceAdd, Int.reduceSub, Int.reduceMul, Int.reduceNeg, Nat.reduceLeDiff, Nat.reduceLT, true_and, and_true, false_and, and_false, qcat_0, qcat_1, qcat_3, qcat_9, Nat.reduceEqDiff, if_true, if_false, ite_self, or_true, true_or, or_false, false_or, forall_const, not_true_eq_false, not_false_eq_true, false_implies, implies_true, qtK0, qtK1, qtK2, qtK3, qtK4, List.getD_cons_zero, List.getD_cons_succ, hx, Int.toNat_natCast, ne_eq, qcK, hbF, bsetF, bclrF, hp0, hps, t1, t2, t3, t7, b1, b2, w1, e1, e2, e3, c1, d2, d3]
        exact hk
      · have hi := ih (k + 1) (by omega) (by unfold spTo; rw [decide_eq_false c, hs]; rfl)
        rw [h68_2]
        by_cases c1 : X 74 k = h
        · by_cases c2 : X 75 k ≤ t
          · have d2 : (t < X 75 k) = False := eq_false (by omega)
            have d3 : (X 76 k < t) = True := eq_true (by omega)
            simp only [YK, c68, t68, tgK, lyK, rkK, wK, rfK, hr, qRes_eq, qNon_eq, qup_ap, vup_ap, vcpy_ap, kc8_0, kc8_1, kc8_2, lc_lt, lc_gt, lc_eq, Option.toList_some, Option.toList_none, List.cons_append, List.nil_append, lay_len, lay_sz, Nat.reduceAdd, Nat.reduceSub, Nat.reduceMul, Int.reduceToNat, Int.reduceLE, Int.reduceLT, Int.reduceEq, Int.reduceAdd, Int.reduceSub, Int.reduceMul, Int.reduceNeg, Nat.reduceLeDiff, Nat.reduceLT, true_and, and_true, false_and, and_false, qcat_0, qcat_1, qcat_3, qcat_9, Nat.reduceEqDiff, if_true, if_false, ite_self, or_true, true_or, or_false, false_or, forall_const, not_true_eq_false, not_false_eq_true, false_implies, implies_true, qtK0, qtK1, qtK2, qtK3, qtK4, List.getD_cons_zero, List.getD_cons_succ, hx, Int.toNat_natCast, ne_eq, qcK, hbF, bsetF, bclrF, hp0, hps, t1, t2, t3, t7, b1, b2, w1, e1, e2, e3, c1, d2, d3]
            exact hi
          · have d2 : (t < X 75 k) = True := eq_true (by omega)
            simp only [YK, c68, t68, tgK, lyK, rkK, wK, rfK, hr, qRes_eq, qNon_eq, qup_ap, vup_ap, vcpy_ap, kc8_0, kc8_1, kc8_2, lc_lt, lc_gt, lc_eq, Option.toList_some, Option.toList_none, List.cons_append, List.nil_append, lay_len, lay_sz, Nat.reduceAdd, Nat.reduceSub, Nat.reduceMul, Int.reduceToNat, Int.reduceLE, Int.reduceLT, Int.reduceEq, Int.reduceAdd, Int.reduceSub, Int.reduceMul, Int.reduceNeg, Nat.reduceLeDiff, Nat.reduceLT, true_and, and_true, false_and, and_false, qcat_0, qcat_1, qcat_3, qcat_9, Nat.reduceEqDiff, if_true, if_false, ite_self, or_true, true_or, or_false, false_or, forall_const, not_true_eq_false, not_false_eq_true, false_implies, implies_true, qtK0, qtK1, qtK2, qtK3, qtK4, List.getD_cons_zero, List.getD_cons_succ, hx, Int.toNat_natCast, ne_eq, qcK, hbF, bsetF, bclrF, hp0, hps, t1, t2, t3, t7, b1, b2, w1, e1, e2, c1, d2]
            exact hi
        · simp only [YK, c68, t68, tgK, lyK, rkK, wK, rfK, hr, qRes_eq, qNon_eq, qup_ap, vup_ap, vcpy_ap, kc8_0, kc8_1, kc8_2, lc_lt, lc_gt, lc_eq, Option.toList_some, Option.toList_none, List.cons_append, List.nil_append, lay_len, lay_sz, Nat.reduceAdd, Nat.reduceSub, Nat.reduceMul, Int.reduceToNat, Int.reduceLE, Int.reduceLT, Int.reduceEq, Int.reduceAdd, Int.reduceSub, Int.reduceMul, Int.reduceNeg, Nat.reduceLeDiff, Nat.reduceLT, true_and, and_true, false_and, and_false, qcat_0, qcat_1, qcat_3, qcat_9, Nat.reduceEqDiff, if_true, if_false, ite_self, or_true, true_or, or_false, false_or, forall_const, not_true_eq_false, not_false_eq_true, false_implies, implies_true, qtK0, qtK1, qtK2, qtK3, qtK4, List.getD_cons_zero, List.getD_cons_succ, hx, Int.toNat_natCast, ne_eq, qcK, hbF, bsetF, bclrF, hp0, hps, t1, t2, t3, t7, b1, b2, w1, e1, c1]
          exact hi
  simp only [YK, c68, t68, tgK, lyK, rkK, wK, rfK, hr, qRes_eq, qNon_eq, qup_ap, vup_ap, vcpy_ap, kc8_0, kc8_1, kc8_2, lc_lt, lc_gt, lc_eq, Option.toList_some, Option.toList_none, List.cons_append, List.nil_append, lay_len, lay_sz, Nat.reduceAdd, Nat.reduceSub, Nat.reduceMul, Int.reduceToNat, Int.reduceLE, Int.reduceLT, Int.reduceEq, Int.reduceAdd, Int.reduceSub, Int.reduceMul, Int.reduceNeg, Nat.reduceLeDiff, Nat.reduceLT, true_and, and_true, false_and, and_false, qcat_0, qcat_1, qcat_3, qcat_9, Nat.reduceEqDiff, if_true, if_false, ite_self, or_true, true_or, or_false, false_or, forall_const, not_true_eq_false, not_false_eq_true, false_implies, implies_true, qtK0, qtK1, qtK2, qtK3, qtK4, List.getD_cons_zero, List.getD_cons_succ, hx, Int.toNat_natCast, ne_eq, qcK, hbF, bsetF, bclrF, hp0, hps, t1, t2, t3, t7]
  exact hloop ns 0 (by omega) rfl
theorem k13 {tb : qTb} {n ns na p s u : Nat} {sp : Int} {C X F : XT} {L : LT} {e b : Int} {R : Option qV → qM → Prop} (hR : CR p u sp C X L e b F) (hST : ST n ns na p s u sp C X) (h : Nat) (hh : h < 4) (t : Int) (hk : R (some (0, bi (pSp X ns (h : Int) t))) (LAY, F)) : qW tb 13 (119, 1262) 0 [(3, 35), (0, (h : Int)), (0, t)] [] (LAY, F) R := by
  have hST0 := hST
  have hr := Rf_k hR.rf
  have hx := hR.k
  unfold CD at hx
  obtain ⟨hPS, ⟨t1, t1b⟩, ⟨t2, t2b⟩, ⟨t3, t3b⟩, t4, t5, t6, ⟨t7, t8, t9⟩, t10⟩ := hST
  have hp0 := psK hPS
  have hps := hR.ps hPS
  unfold pSp at hk
  rcases t10 with ⟨c1, c2⟩ | ⟨c1, c2⟩
  · rw [if_pos c1] at hk
    simp only [YK, c13, t13, cl68, tgK, lyK, rkK, wK, rfK, hr, qRes_eq, qNon_eq, qup_ap, vup_ap, vcpy_ap, kc8_0, kc8_1, kc8_2, lc_lt, lc_gt, lc_eq, Option.toList_some, Option.toList_none, List.cons_append, List.nil_append, lay_len, lay_sz, Nat.reduceAdd, Nat.reduceSub, Nat.reduceMul, Int.reduceToNat, Int.reduceLE, Int.reduceLT, Int.reduceEq, Int.reduceAdd, Int.reduceSub, Int.reduceMul, Int.reduceNeg, Nat.reduceLeDiff, Nat.reduceLT, true_and, and_true, false_and, and_false, qcat_0, qcat_1, qcat_3, qcat_9, Nat.reduceEqDiff, if_true, if_false, ite_self, or_true, true_or, or_false, false_or, forall_const, not_true_eq_false, not_false_eq_true, false_implies, implies_true, qtK0, qtK1, qtK2, qtK3, qtK4, List.getD_cons_zero, List.getD_cons_succ, hx, Int.toNat_natCast, ne_eq, qcK, hbF, bsetF, bclrF, hp0, hps, t1, t2, t3, t7, c2]
    refine k68 hR hST0 (h : Int) t ?_
    cases hs : spTo X (h : Int) t ns with
    | true =>
      rw [hs, bi_t] at hk
      simp only [YK, c13, t13, tgK, lyK, rkK, wK, rfK, qRes_eq, qNon_eq, qup_ap, vup_ap, vcpy_ap, kc8_0, kc8_1, kc8_2, lc_lt, lc_gt, lc_eq, Option.toList_some, Option.toList_none, List.cons_append, List.nil_append, lay_len, lay_sz, Nat.reduceAdd, Nat.reduceSub, Nat.reduceMul, Int.reduceToNat, Int.reduceLE, Int.reduceLT, Int.reduceEq, Int.reduceAdd, Int.reduceSub, Int.reduceMul, Int.reduceNeg, Nat.reduceLeDiff, Nat.reduceLT, true_and, and_true, false_and, and_false, qcat_0, qcat_1, qcat_3, qcat_9, Nat.reduceEqDiff, if_true, if_false, ite_self, or_true, true_or, or_false, false_or, forall_const, not_true_eq_false, not_false_eq_true, false_implies, implies_true, qtK0, qtK1, qtK2, qtK3, qtK4, List.getD_cons_zero, List.getD_cons_succ, Int.toNat_natCast, ne_eq, qcK, hbF, bsetF, bclrF, bi_t, bi_f]
      exact hk
    | false =>
      rw [hs, bi_f] at hk
      simp only [YK, c13, t13, tgK, lyK, rkK, wK, rfK, qRes_eq, qNon_eq, qup_ap, vup_ap, vcpy_ap, kc8_0, kc8_1, kc8_2, lc_lt, lc_gt, lc_eq, Option.toList_some, Option.toList_none, List.cons_append, List.nil_append, lay_len, lay_sz, Nat.reduceAdd, Nat.reduceSub, Nat.reduceMul, Int.reduceToNat, Int.reduceLE, Int.reduceLT, Int.reduceEq, Int.reduceAdd, Int.reduceSub, Int.reduceMul, Int.reduceNeg, Nat.reduceLeDiff, Nat.reduceLT, true_and, and_true, false_and, and_false, qcat_0, qcat_1, qcat_3, qcat_9, Nat.reduceEqDiff, if_true, if_false, ite_self, or_true, true_or, or_false, false_or, forall_const, not_true_eq_false, not_false_eq_true, false_implies, implies_true, qtK0, qtK1, qtK2, qtK3, qtK4, List.getD_cons_zero, List.getD_cons_succ, Int.toNat_natCast, ne_eq, qcK, hbF, bsetF, bclrF, bi_t, bi_f]
      exact hk
  · have c3 : ¬ X 69 41 = -9 := by omega
    have c4 : (X 69 41 = -1) = False := eq_false (by omega)
    rw [if_neg c3] at hk
    have hd : hasB (X 69 41) (h : Int) = decide (hbit (X 69 41) (h : Int) = 1) := rfl
    rw [hd] at hk
    by_cases c : hbit (X 69 41) (h : Int) = 1
    · rw [decide_eq_true c, bi_t] at hk
      simp only [YK, c13, t13, tgK, lyK, rkK, wK, rfK, hr, qRes_eq, qNon_eq, qup_ap, vup_ap, vcpy_ap, kc8_0, kc8_1, kc8_2, lc_lt, lc_gt, lc_eq, Option.toList_some, Option.toList_none, List.cons_append, List.nil_append, lay_len, lay_sz, Nat.reduceAdd, Nat.reduceSub, Nat.reduceMul, Int.reduceToNat, Int.reduceLE, Int.reduceLT, Int.reduceEq, Int.reduceAdd, Int.reduceSub, Int.reduceMul, Int.reduceNeg, Nat.reduceLeDiff, Nat.reduceLT, true_and, and_true, false_and, and_false, qcat_0, qcat_1, qcat_3, qcat_9, Nat.reduceEqDiff, if_true, if_false, ite_self, or_true, true_or, or_false, false_or, forall_const, not_true_eq_false, not_false_eq_true, false_implies, implies_true, qtK0, qtK1, qtK2, qtK3, qtK4, List.getD_cons_zero, List.getD_cons_succ, hx, Int.toNat_natCast, ne_eq, qcK, hbF, bsetF, bclrF, hp0, hps, t1, t2, t3, t7, c2, c4, c]
      exact hk
    · rw [decide_eq_false c, bi_f] at hk
      simp only [YK, c13, t13, tgK, lyK, rkK, wK, rfK, hr, qRes_eq, qNon_eq, qup_ap, vup_ap, vcpy_ap, kc8_0, kc8_1, kc8_2, lc_lt, lc_gt, lc_eq, Option.toList_some, Option.toList_none, List.cons_append, List.nil_append, lay_len, lay_sz, Nat.reduceAdd, Nat.reduceSub, Nat.reduceMul, Int.reduceToNat, Int.reduceLE, Int.reduceLT, Int.reduceEq, Int.reduceAdd, Int.reduceSub, Int.reduceMul, Int.reduceNeg, Nat.reduceLeDiff, Nat.reduceLT, true_and, and_true, false_and, and_false, qcat_0, qcat_1, qcat_3, qcat_9, Nat.reduceEqDiff, if_true, if_false, ite_self, or_true, true_or, or_false, false_or, forall_const, not_true_eq_false, not_false_eq_true, false_implies, implies_true, qtK0, qtK1, qtK2, qtK3, qtK4, List.getD_cons_zero, List.getD_cons_succ, hx, Int.toNat_natCast, ne_eq, qcK, hbF, bsetF, bclrF, hp0, hps, t1, t2, t3, t7, c2, c4, c]
      exact hk
theorem lswK : Op.lookupswitch.offset ([(1, 27), (2, 37)] : List (Int × Int)) 54 0 = 54 ∧ Op.lookupswitch.offset ([(1, 27), (2, 37)] : List (Int × Int)) 54 1 = 27 ∧ Op.lookupswitch.offset ([(1, 27), (2, 37)] : List (Int × Int)) 54 2 = 37 := by decide +kernel
theorem k25 {tb : qTb} {n ns na p s u : Nat} {sp : Int} {C X F : XT} {L : LT} {e b : Int} {R : Option qV → qM → Prop} (hR : CR p u sp C X L e b F) (hST : ST n ns na p s u sp C X) (a : Nat) (ha : a < na) (hs4 : 0 ≤ X 97 4 ∧ X 97 4 ≤ 2) (hk : R (some (0, pWt X (a : Int))) (LAY, F)) : qW tb 25 (119, 1262) 0 [(3, 35), (0, (a : Int))] [] (LAY, F) R := by
  have hr := Rf_k hR.rf
  have hx := hR.k
  unfold CD at hx
  obtain ⟨hPS, ⟨t1, t1b⟩, ⟨t2, t2b⟩, ⟨t3, t3b⟩, t4, t5, t6, ⟨t7, t8, t9⟩, t10⟩ := hST
  have hp0 := psK hPS
  have hps := hR.ps hPS
  have b2 : (0 ≤ (a : Int) ∧ (a : Int) < 12) = True := eq_true (by omega)
  obtain ⟨e1, e2, e3⟩ := t6 a ha
  have s4 := t8 4 (by decide)
  unfold pWt at hk
  rw [Int.toNat_natCast] at hk
  have hc : X 97 4 = 0 ∨ X 97 4 = 1 ∨ X 97 4 = 2 := by omega
  rcases hc with c | c | c
  · rw [if_pos c] at hk
    simp only [YK, c25, t25, tgK, lyK, rkK, wK, rfK, hr, qRes_eq, qNon_eq, qup_ap, vup_ap, vcpy_ap, kc8_0, kc8_1, kc8_2, lc_lt, lc_gt, lc_eq, Option.toList_some, Option.toList_none, List.cons_append, List.nil_append, lay_len, lay_sz, Nat.reduceAdd, Nat.reduceSub, Nat.reduceMul, Int.reduceToNat, Int.reduceLE, Int.reduceLT, Int.reduceEq, Int.reduceAdd, Int.reduceSub, Int.reduceMul, Int.reduceNeg, Nat.reduceLeDiff, Nat.reduceLT, true_and, and_true, false_and, and_false, qcat_0, qcat_1, qcat_3, qcat_9, Nat.reduceEqDiff, if_true, if_false, ite_self, or_true, true_or, or_false, false_or, forall_const, not_true_eq_false, not_false_eq_true, false_implies, implies_true, qtK0, qtK1, qtK2, qtK3, qtK4, List.getD_cons_zero, List.getD_cons_succ, hx, Int.toNat_natCast, ne_eq, qcK, hbF, bsetF, bclrF, hp0, hps, t1, t2, t3, t7, b2, e1, e2, e3, s4, c, lswK]
    exact hk
  · rw [if_neg (by omega), if_pos c] at hk
    simp only [YK, c25, t25, tgK, lyK, rkK, wK, rfK, hr, qRes_eq, qNon_eq, qup_ap, vup_ap, vcpy_ap, kc8_0, kc8_1, kc8_2, lc_lt, lc_gt, lc_eq, Option.toList_some, Option.toList_none, List.cons_append, List.nil_append, lay_len, lay_sz, Nat.reduceAdd, Nat.reduceSub, Nat.reduceMul, Int.reduceToNat, Int.reduceLE, Int.reduceLT, Int.reduceEq, Int.reduceAdd, Int.reduceSub, Int.reduceMul, Int.reduceNeg, Nat.reduceLeDiff, Nat.reduceLT, true_and, and_true, false_and, and_false, qcat_0, qcat_1, qcat_3, qcat_9, Nat.reduceEqDiff, if_true, if_false, ite_self, or_true, true_or, or_false, false_or, forall_const, not_true_eq_false, not_false_eq_true, false_implies, implies_true, qtK0, qtK1, qtK2, qtK3, qtK4, List.getD_cons_zero, List.getD_cons_succ, hx, Int.toNat_natCast, ne_eq, qcK, hbF, bsetF, bclrF, hp0, hps, t1, t2, t3, t7, b2, e1, e2, e3, s4, c, lswK]
    exact hk
  · rw [if_neg (by omega), if_neg (by omega)] at hk
    simp only [YK, c25, t25, tgK, lyK, rkK, wK, rfK, hr, qRes_eq, qNon_eq, qup_ap, vup_ap, vcpy_ap, kc8_0, kc8_1, kc8_2, lc_lt, lc_gt, lc_eq, Option.toList_some, Option.toList_none, List.cons_append, List.nil_append, lay_len, lay_sz, Nat.reduceAdd, Nat.reduceSub, Nat.reduceMul, Int.reduceToNat, Int.reduceLE, Int.reduceLT, Int.reduceEq, Int.reduceAdd, Int.reduceSub, Int.reduceMul, Int.reduceNeg, Nat.reduceLeDiff, Nat.reduceLT, true_and, and_true, false_and, and_false, qcat_0, qcat_1, qcat_3, qcat_9, Nat.reduceEqDiff, if_true, if_false, ite_self, or_true, true_or, or_false, false_or, forall_const, not_true_eq_false, not_false_eq_true, false_implies, implies_true, qtK0, qtK1, qtK2, qtK3, qtK4, List.getD_cons_zero, List.getD_cons_succ, hx, Int.toNat_natCast, ne_eq, qcK, hbF, bsetF, bclrF, hp0, hps, t1, t2, t3, t7, b2, e1, e2, e3, s4, c, lswK]
    exact hk
/-- the last of the least -/
def LL (w : Int → Int) (l : List Int) (n m : Nat) : Prop := m < n ∧ (∀ j : Nat, j < n → w (l.getD m 0) ≤ w (l.getD j 0)) ∧ ∀ j : Nat, m < j → j < n → w (l.getD m 0) < w (l.getD j 0)
theorem LL_at (w : Int → Int) (l : List Int) : ∀ n : Nat, 0 < n → LL w l n (atTo w l n) := by
  intro n
  induction n with
  | zero => intro h; omega
  | succ n ih =>
    intro _
    unfold atTo
    by_cases h0 : n = 0
    · subst h0
      have : atTo w l 0 = 0 := rfl
      rw [this, ite_self]
      exact ⟨by omega, fun j hj => by have : j = 0 := by omega
                                      subst this; omega, fun j h1 h2 => by omega⟩
    · obtain ⟨i1, i2, i3⟩ := ih (by omega)
      by_cases c : w (l.getD n 0) ≤ w (l.getD (atTo w l n) 0)
      · rw [if_pos c]
        refine ⟨by omega, ?_, fun j h1 h2 => by omega⟩
        intro j hj
        by_cases hjn : j = n
        · subst hjn; omega
        · have := i2 j (by omega); omega
      · rw [if_neg c]
        refine ⟨by omega, ?_, ?_⟩
        · intro j hj
          by_cases hjn : j = n
          · subst hjn; omega
          · exact i2 j (by omega)
        · intro j h1 h2
          by_cases hjn : j = n
          · subst hjn; omega
          · exact i3 j h1 (by omega)
theorem LL_u {w : Int → Int} {l : List Int} {n m k : Nat} (h1 : LL w l n m) (h2 : LL w l n k) : m = k := by
  obtain ⟨a1, a2, a3⟩ := h1
  obtain ⟨b1, b2, b3⟩ := h2
  rcases Nat.lt_trichotomy m k with h | h | h
  · have := a3 k h b1; have := b2 m a1; omega
  · exact h
  · have := b3 m h a1; have := a2 k b1; omega
theorem k24 {tb : qTb} {n ns na p s u : Nat} {sp : Int} {C X F : XT} {L : LT} {e b : Int} {R : Option qV → qM → Prop} (hR : CR p u sp C X L e b F) (hST : ST n ns na p s u sp C X) (h : Nat) (hh : h < 4) (hs4 : 0 ≤ X 97 4 ∧ X 97 4 ≤ 2) (h0 : 0 < (L 0 h).length) (hel : ∀ c ∈ L 0 h, 0 ≤ c ∧ c < (na : Int)) (hk : R (some (0, ((atTo (pWt X) (L 0 h) (L 0 h).length : Nat) : Int))) (LAY, F)) : qW tb 24 (119, 1262) 0 [(3, 35), (3, ((hO h : Nat) : Int)), (9, 0), (9, 0)] [] (LAY, F) R := by
  have hST0 := hST
  have hr := Rf_k hR.rf
  have hx := hR.k
  unfold CD at hx
  obtain ⟨hPS, ⟨t1, t1b⟩, ⟨t2, t2b⟩, ⟨t3, t3b⟩, t4, t5, t6, ⟨t7, t8, t9⟩, t10⟩ := hST
  have hp0 := psK hPS
  have hps := hR.ps hPS
  have hg := hR.h hh
  have hc0 := hcK0 hh
  have hc1 := hcK1 h
  have hc2 := hcK2 h
  have q := hR.2.2.2.2.2 h hh
  have hl := q.2.1.2.2
  have hv : ∀ j : Nat, j < (L 0 h).length → ∃ c : Nat, c < na ∧ (L 0 h).getD j 0 = (c : Int) ∧ F (hW h) j = (c : Int) := by
    intro j hj
    have := hel _ (getD_mem hj)
    refine ⟨((L 0 h).getD j 0).toNat, by omega, by omega, ?_⟩
    rw [q.2.1.2.1 j hj]; omega
  have hloop : ∀ (i m : Nat), i ≤ m → m < (L 0 h).length → (∀ j : Nat, i ≤ j → j < (L 0 h).length → pWt X ((L 0 h).getD m 0) ≤ pWt X ((L 0 h).getD j 0)) → (∀ j : Nat, m < j → j < (L 0 h).length → pWt X ((L 0 h).getD m 0) < pWt X ((L 0 h).getD j 0)) → qW tb 24 (119, 1262) 11 [(3, 35), (3, ((hO h : Nat) : Int)), (0, (m : Int)), (0, (i : Int) - 1)] [] (LAY, F) R := by
    intro i
    induction i with
    | zero =>
      intro m _ hm p1 p2
      have hu := LL_u (LL_at (pWt X) (L 0 h) _ h0) (show LL (pWt X) (L 0 h) _ m from ⟨hm, fun j hj => p1 j (by omega) hj, p2⟩)
      rw [hu] at hk
      have b0 : (((0 : Nat) : Int) - 1 < 0) = True := eq_true (by omega)
      rw [h24_11]
      simp only [YK, c24, t24, tgK, lyK, rkK, wK, rfK, hr, qRes_eq, qNon_eq, qup_ap, vup_ap, vcpy_ap, kc8_0, kc8_1, kc8_2, lc_lt, lc_gt, lc_eq, Option.toList_some, Option.toList_none, List.cons_append, List.nil_append, lay_len, lay_sz, Nat.reduceAdd, Nat.reduceSub, Nat.reduceMul, Int.reduceToNat, Int.reduceLE, Int.reduceLT, Int.reduceEq, Int.reduceAdd, Int.reduceSub, Int.reduceMul, Int.reduceNeg, Nat.reduceLeDiff, Nat.reduceLT, true_and, and_true, false_and, and_false, qcat_0, qcat_1, qcat_3, qcat_9, Nat.reduceEqDiff, if_true, if_false, ite_self, or_true, true_or, or_false, false_or, forall_const, not_true_eq_false, not_false_eq_true, false_implies, implies_true, qtK0, qtK1, qtK2, qtK3, qtK4, List.getD_cons_zero, List.getD_cons_succ, hx, Int.toNat_natCast, ne_eq, qcK, hbF, bsetF, bclrF, hp0, hps, t1, t2, t3, t7, hg, hc0, hc1, hc2, b0]
      exact hk
    | succ i ih =>
      intro m hi hm p1 p2
      have b0 : (((i + 1 : Nat) : Int) - 1 < 0) = False := eq_false (by omega)
      have ei : ((i + 1 : Nat) : Int) - 1 = (i : Int) := by omega
      have b1 : (0 ≤ (i : Int) ∧ (i : Int) < 12) = True := eq_true (by omega)
      have b2 : (0 ≤ (m : Int) ∧ (m : Int) < 12) = True := eq_true (by omega)
      have b3 : ((i : Int) < 0) = False := eq_false (by omega)
      have w1 : w32 ((i : Int) + -1) = (i : Int) - 1 := by rw [w32_id ⟨by omega, by omega⟩]; omega
      obtain ⟨ci, hj1, hj2, hj3⟩ := hv i (by omega)
      obtain ⟨cm, hd1, hd2, hd3⟩ := hv m hm
      rw [ei, h24_11]
      simp only [YK, c24, t24, cl25, tgK, lyK, rkK, wK, rfK, hr, qRes_eq, qNon_eq, qup_ap, vup_ap, vcpy_ap, kc8_0, kc8_1, kc8_2, lc_lt, lc_gt, lc_eq, Option.toList_some, Option.toList_none, List.cons_append, List.nil_append, lay_len, lay_sz, Nat.reduceAdd, Nat.reduceSub, Nat.reduceMul, Int.reduceToNat, Int.reduceLE, Int.reduceLT, Int.reduceEq, Int.reduceAdd, Int.reduceSub, Int.reduceMul, Int.reduceNeg, Nat.reduceLeDiff, Nat.reduceLT, true_and, and_true, false_and, and_false, qcat_0, qcat_1, qcat_3, qcat_9, Nat.reduceEqDiff, if_true, if_false, ite_self, or_true, true_or, or_false, false_or, forall_const, not_true_eq_false, not_false_eq_true, false_implies, implies_true, qtK0, qtK1, qtK2, qtK3, qtK4, List.getD_cons_zero, List.getD_cons_succ, hx, Int.toNat_natCast, ne_eq, qcK, hbF, bsetF, bclrF, hp0, hps, t1, t2, t3, t7, hg, hc0, hc1, hc2, b1, b2, b3, hj3, hd3]
      refine k25 hR hST0 ci hj1 hs4 ?_
      simp only [YK, c24, t24, cl25, tgK, lyK, rkK, wK, rfK, hr, qRes_eq, qNon_eq, qup_ap, vup_ap, vcpy_ap, kc8_0, kc8_1, kc8_2, lc_lt, lc_gt, lc_eq, Option.toList_some, Option.toList_none, List.cons_append, List.nil_append, lay_len, lay_sz, Nat.reduceAdd, Nat.reduceSub, Nat.reduceMul, Int.reduceToNat, Int.reduceLE, Int.reduceLT, Int.reduceEq, Int.reduceAdd, Int.reduceSub, Int.reduceMul, Int.reduceNeg, Nat.reduceLeDiff, Nat.reduceLT, true_and, and_true, false_and, and_false, qcat_0, qcat_1, qcat_3, qcat_9, Nat.reduceEqDiff, if_true, if_false, ite_self, or_true, true_or, or_false, false_or, forall_const, not_true_eq_false, not_false_eq_true, false_implies, implies_true, qtK0, qtK1, qtK2, qtK3, qtK4, List.getD_cons_zero, List.getD_cons_succ, hx, Int.toNat_natCast, ne_eq, qcK, hbF, bsetF, bclrF, hp0, hps, t1, t2, t3, t7, hg, hc0, hc1, hc2, b1, b2, b3, hj3, hd3]
      refine k25 hR hST0 cm hd1 hs4 ?_
      by_cases c : pWt X (ci : Int) < pWt X (cm : Int)
      · have hi2 := ih i (by omega) (by omega) (fun j h1 h2 => by
          by_cases hji : j = i
          · subst hji; omega
          · have := p1 j (by omega) h2; rw [hd2] at this; rw [hj2]; omega) (fun j h1 h2 => by
          have := p1 j (by omega) h2; rw [hd2] at this; rw [hj2]; omega)
        simp only [YK, c24, t24, tgK, lyK, rkK, wK, rfK, qRes_eq, qNon_eq, qup_ap, vup_ap, vcpy_ap, kc8_0, kc8_1, kc8_2, lc_lt, lc_gt, lc_eq, Option.toList_some, Option.toList_none, List.cons_append, List.nil_append, lay_len, lay_sz, Nat.reduceAdd, Nat.reduceSub, Nat.reduceMul, Int.reduceToNat, Int.reduceLE, Int.reduceLT, Int.reduceEq, Int.reduceAdd, Int.reduceSub, Int.reduceMul, Int.reduceNeg, Nat.reduceLeDiff, Nat.reduceLT, true_and, and_true, false_and, and_false, qcat_0, qcat_1, qcat_3, qcat_9, Nat.reduceEqDiff, if_true, if_false, ite_self, or_true, true_or, or_false, false_or, forall_const, not_true_eq_false, not_false_eq_true, false_implies, implies_true, qtK0, qtK1, qtK2, qtK3, qtK4, List.getD_cons_zero, List.getD_cons_succ, Int.toNat_natCast, ne_eq, qcK, hbF, bsetF, bclrF, w1, c]
        exact hi2
      · have hi2 := ih m (by omega) hm (fun j h1 h2 => by
          by_cases hji : j = i
          · subst hji; rw [hj2, hd2]; omega
          · exact p1 j (by omega) h2) p2
        simp only [YK, c24, t24, tgK, lyK, rkK, wK, rfK, qRes_eq, qNon_eq, qup_ap, vup_ap, vcpy_ap, kc8_0, kc8_1, kc8_2, lc_lt, lc_gt, lc_eq, Option.toList_some, Option.toList_none, List.cons_append, List.nil_append, lay_len, lay_sz, Nat.reduceAdd, Nat.reduceSub, Nat.reduceMul, Int.reduceToNat, Int.reduceLE, Int.reduceLT, Int.reduceEq, Int.reduceAdd, Int.reduceSub, Int.reduceMul, Int.reduceNeg, Nat.reduceLeDiff, Nat.reduceLT, true_and, and_true, false_and, and_false, qcat_0, qcat_1, qcat_3, qcat_9, Nat.reduceEqDiff, if_true, if_false, ite_self, or_true, true_or, or_false, false_or, forall_const, not_true_eq_false, not_false_eq_true, false_implies, implies_true, qtK0, qtK1, qtK2, qtK3, qtK4, List.getD_cons_zero, List.getD_cons_succ, Int.toNat_natCast, ne_eq, qcK, hbF, bsetF, bclrF, w1, c]
        exact hi2
  have w0 : w32 (((L 0 h).length : Int) - 1) = (((L 0 h).length - 1 : Nat) : Int) := by rw [w32_id ⟨by omega, by omega⟩]; omega
  have w00 : w32 ((((L 0 h).length - 1 : Nat) : Int) - 1) = (((L 0 h).length - 1 : Nat) : Int) - 1 := by rw [w32_id ⟨by omega, by omega⟩]
  simp only [YK, c24, t24, tgK, lyK, rkK, wK, rfK, hr, qRes_eq, qNon_eq, qup_ap, vup_ap, vcpy_ap, kc8_0, kc8_1, kc8_2, lc_lt, lc_gt, lc_eq, Option.toList_some, Option.toList_none, List.cons_append, List.nil_append, lay_len, lay_sz, Nat.reduceAdd, Nat.reduceSub, Nat.reduceMul, Int.reduceToNat, Int.reduceLE, Int.reduceLT, Int.reduceEq, Int.reduceAdd, Int.reduceSub, Int.reduceMul, Int.reduceNeg, Nat.reduceLeDiff, Nat.reduceLT, true_and, and_true, false_and, and_false, qcat_0, qcat_1, qcat_3, qcat_9, Nat.reduceEqDiff, if_true, if_false, ite_self, or_true, true_or, or_false, false_or, forall_const, not_true_eq_false, not_false_eq_true, false_implies, implies_true, qtK0, qtK1, qtK2, qtK3, qtK4, List.getD_cons_zero, List.getD_cons_succ, hx, Int.toNat_natCast, ne_eq, qcK, hbF, bsetF, bclrF, hp0, hps, t1, t2, t3, t7, hg, hc0, hc1, hc2, w0, w00]
  exact hloop ((L 0 h).length - 1) ((L 0 h).length - 1) (Nat.le_refl _) (by omega) (fun j h1 h2 => by
    have : j = (L 0 h).length - 1 := by omega
    subst this; omega) (fun j h1 h2 => by omega)
theorem b01_or {p q : Prop} [Decidable p] [Decidable q] (h : p → ¬ q) : b01 (p ∨ q) = b01 p + b01 q := by
  by_cases hp : p
  · rw [b01_t (Or.inl hp), b01_t hp, b01_f (h hp)]; rfl
  · by_cases hq : q
    · rw [b01_t (Or.inr hq), b01_t hq, b01_f hp]; rfl
    · rw [b01_f (fun h => h.elim hp hq), b01_f hp, b01_f hq]; rfl
theorem k21 {tb : qTb} {n ns na p s u : Nat} {sp : Int} {C X F : XT} {L : LT} {e b : Int} {R : Option qV → qM → Prop} (hR : CR p u sp C X L e b F) (hST : ST n ns na p s u sp C X) (a : Nat) (ha : a < 12) (hdj : ∀ h : Nat, h < n → ∀ c ∈ L 0 h, c ∉ L 1 h) (hk : R (some (0, cpTo L (a : Int) n)) (LAY, F)) : qW tb 21 (119, 1262) 0 [(3, 35), (0, (a : Int)), (9, 0), (9, 0)] [] (LAY, F) R := by
  have hr := Rf_k hR.rf
  have hx := hR.k
  unfold CD at hx
  obtain ⟨hPS, ⟨t1, t1b⟩, ⟨t2, t2b⟩, ⟨t3, t3b⟩, t4, t5, t6, ⟨t7, t8, t9⟩, t10⟩ := hST
  have hp0 := psK hPS
  have hps := hR.ps hPS
  have hloop : ∀ (m h : Nat), h + m = n → qW tb 21 (119, 1262) 4 [(3, 35), (0, (a : Int)), (0, cpTo L (a : Int) h), (0, (h : Int))] [] (LAY, F) R := by
    intro m
    induction m with
    | zero =>
      intro h hm
      have eh : h = n := by omega
      have b1 : ((h : Int) < (n : Int)) = False := eq_false (by omega)
      rw [h21_4]
      rw [← eh] at hk
      simp only [YK, c21, t21, tgK, lyK, rkK, wK, rfK, hr, qRes_eq, qNon_eq, qup_ap, vup_ap, vcpy_ap, kc8_0, kc8_1, kc8_2, lc_lt, lc_gt, lc_eq, Option.toList_some, Option.toList_none, List.cons_append, List.nil_append, lay_len, lay_sz, Nat.reduceAdd, Nat.reduceSub, Nat.reduceMul, Int.reduceToNat, Int.reduceLE, Int.reduceLT, Int.reduceEq, Int.reduceAdd, Int.reduceSub, Int.reduceMul, Int.reduceNeg, Nat.reduceLeDiff, Nat.reduceLT, true_and, and_true, false_and, and_false, qcat_0, qcat_1, qcat_3, qcat_9, Nat.reduceEqDiff, if_true, if_false, ite_self, or_true, true_or, or_false, false_or, forall_const, not_true_eq_false, not_false_eq_true, false_implies, implies_true, qtK0, qtK1, qtK2, qtK3, qtK4, List.getD_cons_zero, List.getD_cons_succ, hx, Int.toNat_natCast, ne_eq, qcK, hbF, bsetF, bclrF, hp0, hps, t1, t2, t3, t7, b1]
      exact hk
    | succ m ih =>
      intro h hm
      have hh : h < 4 := by omega
      have hg := hR.h hh
      have hc0 := hcK0 hh
      have hc1 := hcK1 h
      have hc2 := hcK2 h
      have q := hR.2.2.2.2.2 h hh
      have b1 : ((h : Int) < (n : Int)) = True := eq_true (by omega)
      have b2 : (0 ≤ (h : Int) ∧ (h : Int) < 4) = True := eq_true (by omega)
      have w1 : w32 ((h : Int) + 1) = ((h + 1 : Nat) : Int) := by rw [w32_id ⟨by omega, by omega⟩]; omega
      have hi := ih (h + 1) (by omega)
      have hr2 := cpTo_r L (a : Int) h
      unfold cpTo at hi
      rw [← b01_or (hdj h (by omega) _)] at hi
      rw [h21_4]
      simp only [YK, c21, t21, cl36, tgK, lyK, rkK, wK, rfK, hr, qRes_eq, qNon_eq, qup_ap, vup_ap, vcpy_ap, kc8_0, kc8_1, kc8_2, lc_lt, lc_gt, lc_eq, Option.toList_some, Option.toList_none, List.cons_append, List.nil_append, lay_len, lay_sz, Nat.reduceAdd, Nat.reduceSub, Nat.reduceMul, Int.reduceToNat, Int.reduceLE, Int.reduceLT, Int.reduceEq, Int.reduceAdd, Int.reduceSub, Int.reduceMul, Int.reduceNeg, Nat.reduceLeDiff, Nat.reduceLT, true_and, and_true, false_and, and_false, qcat_0, qcat_1, qcat_3, qcat_9, Nat.reduceEqDiff, if_true, if_false, ite_self, or_true, true_or, or_false, false_or, forall_const, not_true_eq_false, not_false_eq_true, false_implies, implies_true, qtK0, qtK1, qtK2, qtK3, qtK4, List.getD_cons_zero, List.getD_cons_succ, hx, Int.toNat_natCast, ne_eq, qcK, hbF, bsetF, bclrF, hp0, hps, t1, t2, t3, t7, hg, hc0, hc1, hc2, b1, b2]
      refine k36 hR h hh a ha ?_
      by_cases c : (a : Int) ∈ L 0 h ∨ (a : Int) ∈ L 1 h
      · rw [b01_t c] at hi ⊢
        have w2 : w32 (cpTo L (a : Int) h + 1) = cpTo L (a : Int) h + 1 := w32_id ⟨by omega, by omega⟩
        simp only [YK, c21, t21, tgK, lyK, rkK, wK, rfK, qRes_eq, qNon_eq, qup_ap, vup_ap, vcpy_ap, kc8_0, kc8_1, kc8_2, lc_lt, lc_gt, lc_eq, Option.toList_some, Option.toList_none, List.cons_append, List.nil_append, lay_len, lay_sz, Nat.reduceAdd, Nat.reduceSub, Nat.reduceMul, Int.reduceToNat, Int.reduceLE, Int.reduceLT, Int.reduceEq, Int.reduceAdd, Int.reduceSub, Int.reduceMul, Int.reduceNeg, Nat.reduceLeDiff, Nat.reduceLT, true_and, and_true, false_and, and_false, qcat_0, qcat_1, qcat_3, qcat_9, Nat.reduceEqDiff, if_true, if_false, ite_self, or_true, true_or, or_false, false_or, forall_const, not_true_eq_false, not_false_eq_true, false_implies, implies_true, qtK0, qtK1, qtK2, qtK3, qtK4, List.getD_cons_zero, List.getD_cons_succ, Int.toNat_natCast, ne_eq, qcK, hbF, bsetF, bclrF, w1, w2]
        exact hi
      · rw [b01_f c] at hi ⊢
        have w2 : w32 (cpTo L (a : Int) h + 0) = cpTo L (a : Int) h + 0 := w32_id ⟨by omega, by omega⟩
        simp only [YK, c21, t21, tgK, lyK, rkK, wK, rfK, qRes_eq, qNon_eq, qup_ap, vup_ap, vcpy_ap, kc8_0, kc8_1, kc8_2, lc_lt, lc_gt, lc_eq, Option.toList_some, Option.toList_none, List.cons_append, List.nil_append, lay_len, lay_sz, Nat.reduceAdd, Nat.reduceSub, Nat.reduceMul, Int.reduceToNat, Int.reduceLE, Int.reduceLT, Int.reduceEq, Int.reduceAdd, Int.reduceSub, Int.reduceMul, Int.reduceNeg, Nat.reduceLeDiff, Nat.reduceLT, true_and, and_true, false_and, and_false, qcat_0, qcat_1, qcat_3, qcat_9, Nat.reduceEqDiff, if_true, if_false, ite_self, or_true, true_or, or_false, false_or, forall_const, not_true_eq_false, not_false_eq_true, false_implies, implies_true, qtK0, qtK1, qtK2, qtK3, qtK4, List.getD_cons_zero, List.getD_cons_succ, Int.toNat_natCast, ne_eq, qcK, hbF, bsetF, bclrF, w1, w2]
        exact hi
  simp only [YK, c21, t21, tgK, lyK, rkK, wK, rfK, hr, qRes_eq, qNon_eq, qup_ap, vup_ap, vcpy_ap, kc8_0, kc8_1, kc8_2, lc_lt, lc_gt, lc_eq, Option.toList_some, Option.toList_none, List.cons_append, List.nil_append, lay_len, lay_sz, Nat.reduceAdd, Nat.reduceSub, Nat.reduceMul, Int.reduceToNat, Int.reduceLE, Int.reduceLT, Int.reduceEq, Int.reduceAdd, Int.reduceSub, Int.reduceMul, Int.reduceNeg, Nat.reduceLeDiff, Nat.reduceLT, true_and, and_true, false_and, and_false, qcat_0, qcat_1, qcat_3, qcat_9, Nat.reduceEqDiff, if_true, if_false, ite_self, or_true, true_or, or_false, false_or, forall_const, not_true_eq_false, not_false_eq_true, false_implies, implies_true, qtK0, qtK1, qtK2, qtK3, qtK4, List.getD_cons_zero, List.getD_cons_succ, hx, Int.toNat_natCast, ne_eq, qcK, hbF, bsetF, bclrF, hp0, hps, t1, t2, t3, t7]
  exact hloop n 0 (by omega)
theorem k57 {tb : qTb} {n ns na p s u : Nat} {sp : Int} {C X F : XT} {L : LT} {e b : Int} {R : Option qV → qM → Prop} (hR : CR p u sp C X L e b F) (hST : ST n ns na p s u sp C X) (h : Nat) (hh : h < 4) (hk : R (some (0, bi (hasB (X 97 5) (h : Int)))) (LAY, F)) : qW tb 57 (119, 1262) 0 [(3, (p : Int)), (0, (h : Int))] [] (LAY, F) R := by
  have hr := Rf_k hR.rf
  have hx := hR.k
  unfold CD at hx
  obtain ⟨hPS, ⟨t1, t1b⟩, ⟨t2, t2b⟩, ⟨t3, t3b⟩, t4, t5, t6, ⟨t7, t8, t9⟩, t10⟩ := hST
  have hp0 := psK hPS
  have hps := hR.ps hPS
  have hd : hasB (X 97 5) (h : Int) = decide (hbit (X 97 5) (h : Int) = 1) := rfl
  rw [hd] at hk
  by_cases c : hbit (X 97 5) (h : Int) = 1
  · rw [decide_eq_true c, bi_t] at hk
    simp only [YK, c57, t57, tgK, lyK, rkK, wK, rfK, hr, qRes_eq, qNon_eq, qup_ap, vup_ap, vcpy_ap, kc8_0, kc8_1, kc8_2, lc_lt, lc_gt, lc_eq, Option.toList_some, Option.toList_none, List.cons_append, List.nil_append, lay_len, lay_sz, Nat.reduceAdd, Nat.reduceSub, Nat.reduceMul, Int.reduceToNat, Int.reduceLE, Int.reduceLT, Int.reduceEq, Int.reduceAdd, Int.reduceSub, Int.reduceMul, Int.reduceNeg, Nat.reduceLeDiff, Nat.reduceLT, true_and, and_true, false_and, and_false, qcat_0, qcat_1, qcat_3, qcat_9, Nat.reduceEqDiff, if_true, if_false, ite_self, or_true, true_or, or_false, false_or, forall_const, not_true_eq_false, not_false_eq_true, false_implies, implies_true, qtK0, qtK1, qtK2, qtK3, qtK4, List.getD_cons_zero, List.getD_cons_succ, hx, Int.toNat_natCast, ne_eq, qcK, hbF, bsetF, bclrF, hp0, hps, t1, t2, t3, t7, t9, c]
    exact hk
  · rw [decide_eq_false c, bi_f] at hk
    simp only [YK, c57, t57, tgK, lyK, rkK, wK, rfK, hr, qRes_eq, qNon_eq, qup_ap, vup_ap, vcpy_ap, kc8_0, kc8_1, kc8_2, lc_lt, lc_gt, lc_eq, Option.toList_some, Option.toList_none, List.cons_append, List.nil_append, lay_len, lay_sz, Nat.reduceAdd, Nat.reduceSub, Nat.reduceMul, Int.reduceToNat, Int.reduceLE, Int.reduceLT, Int.reduceEq, Int.reduceAdd, Int.reduceSub, Int.reduceMul, Int.reduceNeg, Nat.reduceLeDiff, Nat.reduceLT, true_and, and_true, false_and, and_false, qcat_0, qcat_1, qcat_3, qcat_9, Nat.reduceEqDiff, if_true, if_false, ite_self, or_true, true_or, or_false, false_or, forall_const, not_true_eq_false, not_false_eq_true, false_implies, implies_true, qtK0, qtK1, qtK2, qtK3, qtK4, List.getD_cons_zero, List.getD_cons_succ, hx, Int.toNat_natCast, ne_eq, qcK, hbF, bsetF, bclrF, hp0, hps, t1, t2, t3, t7, t9, c]
    exact hk
