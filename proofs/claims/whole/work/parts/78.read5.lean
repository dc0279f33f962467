/-! the reference reads a text -/
def CQ (G : XT) (h s a : Nat) (W : XT) : Prop := (h ≤ 4 ∧ s ≤ 4 ∧ a ≤ 12) ∧ (∀ i j : Nat, i < 3 → j < h → G (80 + i) j = W i j) ∧ (∀ i j : Nat, 3 ≤ i → i < 6 → j < s → G (80 + i) j = W i j) ∧ (∀ i j : Nat, 6 ≤ i → i < 9 → j < a → G (80 + i) j = W i j)
def ltr (T : Nat → Int) (k h s a : Nat) : Prop := (T k = 72 ∧ h < 4) ∨ (T k = 88 ∧ 0 < h ∧ s < 4) ∨ (T k = 65 ∧ a < 12)
theorem CQ_e {G G2 : XT} {h s a : Nat} {W : XT} (hQ : CQ G h s a W) (E : ∀ c : Nat, c ≠ 69 → G2 c = G c) : CQ G2 h s a W :=
  ⟨hQ.1, fun i j hi hj => by rw [E _ (by omega)]; exact hQ.2.1 i j hi hj, fun i j h1 hi hj => by rw [E _ (by omega)]; exact hQ.2.2.1 i j h1 hi hj, fun i j h1 hi hj => by rw [E _ (by omega)]; exact hQ.2.2.2 i j h1 hi hj⟩
theorem CQ_H {G : XT} {h s a : Nat} {W : XT} (hQ : CQ G h s a W) (hb : h < 4) (v1 v2 v3 : Int) : CQ (qup (qup (qup G 80 h v1) 81 h v2) 82 h v3) (h + 1) s a (qup (qup (qup W 0 h v1) 1 h v2) 2 h v3) := by
  obtain ⟨⟨q5, q6, q7⟩, q8, q9, q10⟩ := hQ
  refine ⟨⟨by omega, by omega, by omega⟩, ?_, ?_, ?_⟩
  · intro i j hi hj
    have hi3 : i = 0 ∨ i = 1 ∨ i = 2 := by omega
    by_cases c : j = h
    · subst c
      rcases hi3 with rfl | rfl | rfl <;> simp only [qup_ap, if_true, if_false, Nat.reduceEqDiff, Nat.reduceAdd]
    · rcases hi3 with rfl | rfl | rfl
      · simp only [qup_ap, if_true, if_false, Nat.reduceEqDiff, Nat.reduceAdd, c]
        exact q8 0 j (by omega) (by omega)
      · simp only [qup_ap, if_true, if_false, Nat.reduceEqDiff, Nat.reduceAdd, c]
        exact q8 1 j (by omega) (by omega)
      · simp only [qup_ap, if_true, if_false, Nat.reduceEqDiff, Nat.reduceAdd, c]
        exact q8 2 j (by omega) (by omega)
  · intro i j h1 hi hj
    rw [qup_c (by omega), qup_c (by omega), qup_c (by omega), qup_c (by omega), qup_c (by omega), qup_c (by omega)]
    exact q9 i j h1 hi hj
  · intro i j h1 hi hj
    rw [qup_c (by omega), qup_c (by omega), qup_c (by omega), qup_c (by omega), qup_c (by omega), qup_c (by omega)]
    exact q10 i j h1 hi hj
theorem CQ_X {G : XT} {h s a : Nat} {W : XT} (hQ : CQ G h s a W) (hb : s < 4) (v1 v2 v3 : Int) : CQ (qup (qup (qup G 83 s v1) 84 s v2) 85 s v3) h (s + 1) a (qup (qup (qup W 3 s v1) 4 s v2) 5 s v3) := by
  obtain ⟨⟨q5, q6, q7⟩, q8, q9, q10⟩ := hQ
  refine ⟨⟨by omega, by omega, by omega⟩, ?_, ?_, ?_⟩
  · intro i j hi hj
    rw [qup_c (by omega), qup_c (by omega), qup_c (by omega), qup_c (by omega), qup_c (by omega), qup_c (by omega)]
    exact q8 i j hi hj
  · intro i j h1 hi hj
    have hi3 : i = 3 ∨ i = 4 ∨ i = 5 := by omega
    by_cases c : j = s
    · subst c
      rcases hi3 with rfl | rfl | rfl <;> simp only [qup_ap, if_true, if_false, Nat.reduceEqDiff, Nat.reduceAdd]
    · rcases hi3 with rfl | rfl | rfl
      · simp only [qup_ap, if_true, if_false, Nat.reduceEqDiff, Nat.reduceAdd, c]
        exact q9 3 j (by omega) (by omega) (by omega)
      · simp only [qup_ap, if_true, if_false, Nat.reduceEqDiff, Nat.reduceAdd, c]
        exact q9 4 j (by omega) (by omega) (by omega)
      · simp only [qup_ap, if_true, if_false, Nat.reduceEqDiff, Nat.reduceAdd, c]
        exact q9 5 j (by omega) (by omega) (by omega)
  · intro i j h1 hi hj
    rw [qup_c (by omega), qup_c (by omega), qup_c (by omega), qup_c (by omega), qup_c (by omega), qup_c (by omega)]
    exact q10 i j h1 hi hj
theorem CQ_A {G : XT} {h s a : Nat} {W : XT} (hQ : CQ G h s a W) (hb : a < 12) (v1 v2 v3 : Int) : CQ (qup (qup (qup G 86 a v1) 87 a v2) 88 a v3) h s (a + 1) (qup (qup (qup W 6 a v1) 7 a v2) 8 a v3) := by
  obtain ⟨⟨q5, q6, q7⟩, q8, q9, q10⟩ := hQ
  refine ⟨⟨by omega, by omega, by omega⟩, ?_, ?_, ?_⟩
  · intro i j hi hj
    rw [qup_c (by omega), qup_c (by omega), qup_c (by omega), qup_c (by omega), qup_c (by omega), qup_c (by omega)]
    exact q8 i j hi hj
  · intro i j h1 hi hj
    rw [qup_c (by omega), qup_c (by omega), qup_c (by omega), qup_c (by omega), qup_c (by omega), qup_c (by omega)]
    exact q9 i j h1 hi hj
  · intro i j h1 hi hj
    have hi3 : i = 6 ∨ i = 7 ∨ i = 8 := by omega
    by_cases c : j = a
    · subst c
      rcases hi3 with rfl | rfl | rfl <;> simp only [qup_ap, if_true, if_false, Nat.reduceEqDiff, Nat.reduceAdd]
    · rcases hi3 with rfl | rfl | rfl
      · simp only [qup_ap, if_true, if_false, Nat.reduceEqDiff, Nat.reduceAdd, c]
        exact q10 6 j (by omega) (by omega) (by omega)
      · simp only [qup_ap, if_true, if_false, Nat.reduceEqDiff, Nat.reduceAdd, c]
        exact q10 7 j (by omega) (by omega) (by omega)
      · simp only [qup_ap, if_true, if_false, Nat.reduceEqDiff, Nat.reduceAdd, c]
        exact q10 8 j (by omega) (by omega) (by omega)
theorem s119 {tb : qTb} {F G : XT} {T : Nat → Int} {len j h s a : Nat} {pt : Int} {R : Option qV → qM → Prop} (hS : SG F G h s a pt 0) (hlen : len ≤ 120) (hT : ∀ j : Nat, j < len → F 70 j = T j ∧ 0 ≤ T j ∧ T j ≤ 255) (hL : F 69 1 = (len : Int)) (c : j < len) (hok : ltr T j h s a → ∀ G2 l2 l3, SG F G2 h s a (T j) 1 → (∀ c : Nat, c ≠ 69 → G2 c = G c) → qW tb 123 (119, 1262) 22 [(3, 69), (0, ((j + 1 : Nat) : Int)), l2, l3] [] (LAY, G2) R) (hbad : ¬ ltr T j h s a → ∀ G2, RFq F G2 → R (some (0, (j : Int))) (LAY, G2)) (l2 l3 : qV) : qW tb 123 (119, 1262) 22 [(3, 69), (0, (j : Int)), l2, l3] [] (LAY, G) R := by
  obtain ⟨f, s1, s2, s3, s4, s5⟩ := hS
  have r0 := Rf_k f.1
  have e1 : G 69 1 = (len : Int) := (f.2.2 1 (by decide) (by decide) (by decide) (by decide) (by decide)).trans hL
  rw [h123_22]
  have f1 : ((j : Int) < (len : Int)) = True := eq_true (by omega)
  have bj : (0 ≤ (j : Int) ∧ (j : Int) < 120) = True := eq_true (by omega)
  obtain ⟨t1, t2, t3⟩ := hT j c
  have e0 : G 70 j = T j := by rw [f.2.1 70 (by decide) (by decide)]; exact t1
  have w48 : w32 (T j - 48) = T j - 48 := w32_id ⟨by omega, by omega⟩
  have wj : w32 ((j : Int) + 1) = ((j + 1 : Nat) : Int) := by rw [w32_id ⟨by omega, by omega⟩]; omega
  have hgo : ltr T j h s a → ∀ l2 l3 t, t = T j → qW tb 123 (119, 1262) 22 [(3, 69), (0, ((j + 1 : Nat) : Int)), l2, l3] [] (LAY, qup (qup G 69 26 t) 69 27 1) R := fun hl l2 l3 t ht => hok hl _ l2 l3 ⟨RFq.b (RFq.b f _ (by decide)) _ (by decide), by simp only [qup_ap, Nat.reduceEqDiff, if_true, if_false, s1, s2, s3, s4, s5], by simp only [qup_ap, Nat.reduceEqDiff, if_true, if_false, s1, s2, s3, s4, s5], by simp only [qup_ap, Nat.reduceEqDiff, if_true, if_false, s1, s2, s3, s4, s5], by simp only [qup_ap, Nat.reduceEqDiff, if_true, if_false, ht], by simp only [qup_ap, Nat.reduceEqDiff, if_true, if_false]⟩ (fun c hc => by rw [qup_c hc, qup_c hc])
  have hno : ¬ ltr T j h s a → ∀ t, R (some (0, (j : Int))) (LAY, qup (qup G 69 26 t) 69 27 0) := fun hl t => hbad hl _ (RFq.b (RFq.b f _ (by decide)) _ (by decide))
  simp only [YK, c123, t123, cl104, tgK, lyK, rkK, wK, rfK, qRes_eq, qNon_eq, qup_ap, vup_ap, vcpy_ap, kc8_0, kc8_1, kc8_2, lc_lt, lc_gt, lc_eq, Option.toList_some, Option.toList_none, List.cons_append, List.nil_append, lay_len, lay_sz, Nat.reduceAdd, Nat.reduceSub, Nat.reduceMul, Int.reduceToNat, Int.reduceLE, Int.reduceLT, Int.reduceEq, Int.reduceAdd, Int.reduceSub, Int.reduceMul, Int.reduceNeg, Nat.reduceLeDiff, Nat.reduceLT, true_and, and_true, false_and, and_false, qcat_0, qcat_1, qcat_3, qcat_9, Nat.reduceEqDiff, if_true, if_false, ite_self, or_true, true_or, or_false, false_or, forall_const, not_true_eq_false, not_false_eq_true, false_implies, implies_true, qtK0, qtK1, qtK2, qtK3, qtK4, List.getD_cons_zero, List.getD_cons_succ, Int.toNat_natCast, ne_eq, qcK, hbF, bsetF, bclrF, r0, e1, s1, s2, s3, s4, s5, f1, bj, w48, wj, e0]
  refine r104 (T j) 48 57 ?_
  have hzz : b01 (48 ≤ T j ∧ T j ≤ 57) = 1 ∨ b01 (48 ≤ T j ∧ T j ≤ 57) = 0 := by
    by_cases q : 48 ≤ T j ∧ T j ≤ 57
    · exact Or.inl (if_pos q)
    · exact Or.inr (if_neg q)
  rcases hzz with z1 | z1
  · rw [z1]
    by_cases c1 : T j = 72
    · by_cases c2 : h < 4
      · have f2 : ((h : Int) < 4) = True := eq_true (by omega)
        have hq := fun l2 l3 => hgo (by unfold ltr; omega) l2 l3 (72) (by omega)
        simp only [YK, c123, t123, c119, t119, cl119, cl104, tgK, lyK, rkK, wK, rfK, qRes_eq, qNon_eq, qup_ap, vup_ap, vcpy_ap, kc8_0, kc8_1, kc8_2, lc_lt, lc_gt, lc_eq, Option.toList_some, Option.toList_none, List.cons_append, List.nil_append, lay_len, lay_sz, Nat.reduceAdd, Nat.reduceSub, Nat.reduceMul, Int.reduceToNat, Int.reduceLE, Int.reduceLT, Int.reduceEq, Int.reduceAdd, Int.reduceSub, Int.reduceMul, Int.reduceNeg, Nat.reduceLeDiff, Nat.reduceLT, true_and, and_true, false_and, and_false, qcat_0, qcat_1, qcat_3, qcat_9, Nat.reduceEqDiff, if_true, if_false, ite_self, or_true, true_or, or_false, false_or, forall_const, not_true_eq_false, not_false_eq_true, false_implies, implies_true, qtK0, qtK1, qtK2, qtK3, qtK4, List.getD_cons_zero, List.getD_cons_succ, Int.toNat_natCast, ne_eq, qcK, hbF, bsetF, bclrF, r0, e1, s1, s2, s3, s4, s5, f1, bj, w48, wj, e0, c1, f2]
        exact hq _ _
      · have f2 : ((h : Int) < 4) = False := eq_false (by omega)
        have hq := hno (by unfold ltr; omega) (72)
        simp only [YK, c123, t123, c119, t119, cl119, cl104, tgK, lyK, rkK, wK, rfK, qRes_eq, qNon_eq, qup_ap, vup_ap, vcpy_ap, kc8_0, kc8_1, kc8_2, lc_lt, lc_gt, lc_eq, Option.toList_some, Option.toList_none, List.cons_append, List.nil_append, lay_len, lay_sz, Nat.reduceAdd, Nat.reduceSub, Nat.reduceMul, Int.reduceToNat, Int.reduceLE, Int.reduceLT, Int.reduceEq, Int.reduceAdd, Int.reduceSub, Int.reduceMul, Int.reduceNeg, Nat.reduceLeDiff, Nat.reduceLT, true_and, and_true, false_and, and_false, qcat_0, qcat_1, qcat_3, qcat_9, Nat.reduceEqDiff, if_true, if_false, ite_self, or_true, true_or, or_false, false_or, forall_const, not_true_eq_false, not_false_eq_true, false_implies, implies_true, qtK0, qtK1, qtK2, qtK3, qtK4, List.getD_cons_zero, List.getD_cons_succ, Int.toNat_natCast, ne_eq, qcK, hbF, bsetF, bclrF, r0, e1, s1, s2, s3, s4, s5, f1, bj, w48, wj, e0, c1, f2]
        exact hq
    · by_cases c3 : T j = 88
      · by_cases c4 : 0 < h
        · have f4 : (0 < (h : Int)) = True := eq_true (by omega)
          by_cases c5 : s < 4
          · have f5 : ((s : Int) < 4) = True := eq_true (by omega)
            have hq := fun l2 l3 => hgo (by unfold ltr; omega) l2 l3 (88) (by omega)
            simp only [YK, c123, t123, c119, t119, cl119, cl104, tgK, lyK, rkK, wK, rfK, qRes_eq, qNon_eq, qup_ap, vup_ap, vcpy_ap, kc8_0, kc8_1, kc8_2, lc_lt, lc_gt, lc_eq, Option.toList_some, Option.toList_none, List.cons_append, List.nil_append, lay_len, lay_sz, Nat.reduceAdd, Nat.reduceSub, Nat.reduceMul, Int.reduceToNat, Int.reduceLE, Int.reduceLT, Int.reduceEq, Int.reduceAdd, Int.reduceSub, Int.reduceMul, Int.reduceNeg, Nat.reduceLeDiff, Nat.reduceLT, true_and, and_true, false_and, and_false, qcat_0, qcat_1, qcat_3, qcat_9, Nat.reduceEqDiff, if_true, if_false, ite_self, or_true, true_or, or_false, false_or, forall_const, not_true_eq_false, not_false_eq_true, false_implies, implies_true, qtK0, qtK1, qtK2, qtK3, qtK4, List.getD_cons_zero, List.getD_cons_succ, Int.toNat_natCast, ne_eq, qcK, hbF, bsetF, bclrF, r0, e1, s1, s2, s3, s4, s5, f1, bj, w48, wj, e0, c3, f4, f5]
            exact hq _ _
          · have f5 : ((s : Int) < 4) = False := eq_false (by omega)
            have hq := hno (by unfold ltr; omega) (88)
            simp only [YK, c123, t123, c119, t119, cl119, cl104, tgK, lyK, rkK, wK, rfK, qRes_eq, qNon_eq, qup_ap, vup_ap, vcpy_ap, kc8_0, kc8_1, kc8_2, lc_lt, lc_gt, lc_eq, Option.toList_some, Option.toList_none, List.cons_append, List.nil_append, lay_len, lay_sz, Nat.reduceAdd, Nat.reduceSub, Nat.reduceMul, Int.reduceToNat, Int.reduceLE, Int.reduceLT, Int.reduceEq, Int.reduceAdd, Int.reduceSub, Int.reduceMul, Int.reduceNeg, Nat.reduceLeDiff, Nat.reduceLT, true_and, and_true, false_and, and_false, qcat_0, qcat_1, qcat_3, qcat_9, Nat.reduceEqDiff, if_true, if_false, ite_self, or_true, true_or, or_false, false_or, forall_const, not_true_eq_false, not_false_eq_true, false_implies, implies_true, qtK0, qtK1, qtK2, qtK3, qtK4, List.getD_cons_zero, List.getD_cons_succ, Int.toNat_natCast, ne_eq, qcK, hbF, bsetF, bclrF, r0, e1, s1, s2, s3, s4, s5, f1, bj, w48, wj, e0, c3, f4, f5]
            exact hq
        · have f4 : (0 < (h : Int)) = False := eq_false (by omega)
          have hq := hno (by unfold ltr; omega) (88)
          simp only [YK, c123, t123, c119, t119, cl119, cl104, tgK, lyK, rkK, wK, rfK, qRes_eq, qNon_eq, qup_ap, vup_ap, vcpy_ap, kc8_0, kc8_1, kc8_2, lc_lt, lc_gt, lc_eq, Option.toList_some, Option.toList_none, List.cons_append, List.nil_append, lay_len, lay_sz, Nat.reduceAdd, Nat.reduceSub, Nat.reduceMul, Int.reduceToNat, Int.reduceLE, Int.reduceLT, Int.reduceEq, Int.reduceAdd, Int.reduceSub, Int.reduceMul, Int.reduceNeg, Nat.reduceLeDiff, Nat.reduceLT, true_and, and_true, false_and, and_false, qcat_0, qcat_1, qcat_3, qcat_9, Nat.reduceEqDiff, if_true, if_false, ite_self, or_true, true_or, or_false, false_or, forall_const, not_true_eq_false, not_false_eq_true, false_implies, implies_true, qtK0, qtK1, qtK2, qtK3, qtK4, List.getD_cons_zero, List.getD_cons_succ, Int.toNat_natCast, ne_eq, qcK, hbF, bsetF, bclrF, r0, e1, s1, s2, s3, s4, s5, f1, bj, w48, wj, e0, c3, f4]
          exact hq
      · by_cases c6 : T j = 65
        · by_cases c7 : a < 12
          · have f7 : ((a : Int) < 12) = True := eq_true (by omega)
            have hq := fun l2 l3 => hgo (by unfold ltr; omega) l2 l3 (65) (by omega)
            simp only [YK, c123, t123, c119, t119, cl119, cl104, tgK, lyK, rkK, wK, rfK, qRes_eq, qNon_eq, qup_ap, vup_ap, vcpy_ap, kc8_0, kc8_1, kc8_2, lc_lt, lc_gt, lc_eq, Option.toList_some, Option.toList_none, List.cons_append, List.nil_append, lay_len, lay_sz, Nat.reduceAdd, Nat.reduceSub, Nat.reduceMul, Int.reduceToNat, Int.reduceLE, Int.reduceLT, Int.reduceEq, Int.reduceAdd, Int.reduceSub, Int.reduceMul, Int.reduceNeg, Nat.reduceLeDiff, Nat.reduceLT, true_and, and_true, false_and, and_false, qcat_0, qcat_1, qcat_3, qcat_9, Nat.reduceEqDiff, if_true, if_false, ite_self, or_true, true_or, or_false, false_or, forall_const, not_true_eq_false, not_false_eq_true, false_implies, implies_true, qtK0, qtK1, qtK2, qtK3, qtK4, List.getD_cons_zero, List.getD_cons_succ, Int.toNat_natCast, ne_eq, qcK, hbF, bsetF, bclrF, r0, e1, s1, s2, s3, s4, s5, f1, bj, w48, wj, e0, c6, f7]
            exact hq _ _
          · have f7 : ((a : Int) < 12) = False := eq_false (by omega)
            have hq := hno (by unfold ltr; omega) (65)
            simp only [YK, c123, t123, c119, t119, cl119, cl104, tgK, lyK, rkK, wK, rfK, qRes_eq, qNon_eq, qup_ap, vup_ap, vcpy_ap, kc8_0, kc8_1, kc8_2, lc_lt, lc_gt, lc_eq, Option.toList_some, Option.toList_none, List.cons_append, List.nil_append, lay_len, lay_sz, Nat.reduceAdd, Nat.reduceSub, Nat.reduceMul, Int.reduceToNat, Int.reduceLE, Int.reduceLT, Int.reduceEq, Int.reduceAdd, Int.reduceSub, Int.reduceMul, Int.reduceNeg, Nat.reduceLeDiff, Nat.reduceLT, true_and, and_true, false_and, and_false, qcat_0, qcat_1, qcat_3, qcat_9, Nat.reduceEqDiff, if_true, if_false, ite_self, or_true, true_or, or_false, false_or, forall_const, not_true_eq_false, not_false_eq_true, false_implies, implies_true, qtK0, qtK1, qtK2, qtK3, qtK4, List.getD_cons_zero, List.getD_cons_succ, Int.toNat_natCast, ne_eq, qcK, hbF, bsetF, bclrF, r0, e1, s1, s2, s3, s4, s5, f1, bj, w48, wj, e0, c6, f7]
            exact hq
        · have f1b : (T j = 72) = False := eq_false c1
          have f3 : (T j = 88) = False := eq_false c3
          have f6 : (T j = 65) = False := eq_false c6
          have hq := hno (by unfold ltr; omega) (T j)
          simp only [YK, c123, t123, c119, t119, cl119, cl104, tgK, lyK, rkK, wK, rfK, qRes_eq, qNon_eq, qup_ap, vup_ap, vcpy_ap, kc8_0, kc8_1, kc8_2, lc_lt, lc_gt, lc_eq, Option.toList_some, Option.toList_none, List.cons_append, List.nil_append, lay_len, lay_sz, Nat.reduceAdd, Nat.reduceSub, Nat.reduceMul, Int.reduceToNat, Int.reduceLE, Int.reduceLT, Int.reduceEq, Int.reduceAdd, Int.reduceSub, Int.reduceMul, Int.reduceNeg, Nat.reduceLeDiff, Nat.reduceLT, true_and, and_true, false_and, and_false, qcat_0, qcat_1, qcat_3, qcat_9, Nat.reduceEqDiff, if_true, if_false, ite_self, or_true, true_or, or_false, false_or, forall_const, not_true_eq_false, not_false_eq_true, false_implies, implies_true, qtK0, qtK1, qtK2, qtK3, qtK4, List.getD_cons_zero, List.getD_cons_succ, Int.toNat_natCast, ne_eq, qcK, hbF, bsetF, bclrF, r0, e1, s1, s2, s3, s4, s5, f1, bj, w48, wj, e0, f1b, f3, f6]
          exact hq
  · rw [z1]
    by_cases c1 : T j = 72
    · by_cases c2 : h < 4
      · have f2 : ((h : Int) < 4) = True := eq_true (by omega)
        have hq := fun l2 l3 => hgo (by unfold ltr; omega) l2 l3 (72) (by omega)
        simp only [YK, c123, t123, c119, t119, cl119, cl104, tgK, lyK, rkK, wK, rfK, qRes_eq, qNon_eq, qup_ap, vup_ap, vcpy_ap, kc8_0, kc8_1, kc8_2, lc_lt, lc_gt, lc_eq, Option.toList_some, Option.toList_none, List.cons_append, List.nil_append, lay_len, lay_sz, Nat.reduceAdd, Nat.reduceSub, Nat.reduceMul, Int.reduceToNat, Int.reduceLE, Int.reduceLT, Int.reduceEq, Int.reduceAdd, Int.reduceSub, Int.reduceMul, Int.reduceNeg, Nat.reduceLeDiff, Nat.reduceLT, true_and, and_true, false_and, and_false, qcat_0, qcat_1, qcat_3, qcat_9, Nat.reduceEqDiff, if_true, if_false, ite_self, or_true, true_or, or_false, false_or, forall_const, not_true_eq_false, not_false_eq_true, false_implies, implies_true, qtK0, qtK1, qtK2, qtK3, qtK4, List.getD_cons_zero, List.getD_cons_succ, Int.toNat_natCast, ne_eq, qcK, hbF, bsetF, bclrF, r0, e1, s1, s2, s3, s4, s5, f1, bj, w48, wj, e0, c1, f2]
        exact hq _ _
      · have f2 : ((h : Int) < 4) = False := eq_false (by omega)
        have hq := hno (by unfold ltr; omega) (72)
        simp only [YK, c123, t123, c119, t119, cl119, cl104, tgK, lyK, rkK, wK, rfK, qRes_eq, qNon_eq, qup_ap, vup_ap, vcpy_ap, kc8_0, kc8_1, kc8_2, lc_lt, lc_gt, lc_eq, Option.toList_some, Option.toList_none, List.cons_append, List.nil_append, lay_len, lay_sz, Nat.reduceAdd, Nat.reduceSub, Nat.reduceMul, Int.reduceToNat, Int.reduceLE, Int.reduceLT, Int.reduceEq, Int.reduceAdd, Int.reduceSub, Int.reduceMul, Int.reduceNeg, Nat.reduceLeDiff, Nat.reduceLT, true_and, and_true, false_and, and_false, qcat_0, qcat_1, qcat_3, qcat_9, Nat.reduceEqDiff, if_true, if_false, ite_self, or_true, true_or, or_false, false_or, forall_const, not_true_eq_false, not_false_eq_true, false_implies, implies_true, qtK0, qtK1, qtK2, qtK3, qtK4, List.getD_cons_zero, List.getD_cons_succ, Int.toNat_natCast, ne_eq, qcK, hbF, bsetF, bclrF, r0, e1, s1, s2, s3, s4, s5, f1, bj, w48, wj, e0, c1, f2]
        exact hq
    · by_cases c3 : T j = 88
      · by_cases c4 : 0 < h
        · have f4 : (0 < (h : Int)) = True := eq_true (by omega)
          by_cases c5 : s < 4
          · have f5 : ((s : Int) < 4) = True := eq_true (by omega)
            have hq := fun l2 l3 => hgo (by unfold ltr; omega) l2 l3 (88) (by omega)
            simp only [YK, c123, t123, c119, t119, cl119, cl104, tgK, lyK, rkK, wK, rfK, qRes_eq, qNon_eq, qup_ap, vup_ap, vcpy_ap, kc8_0, kc8_1, kc8_2, lc_lt, lc_gt, lc_eq, Option.toList_some, Option.toList_none, List.cons_append, List.nil_append, lay_len, lay_sz, Nat.reduceAdd, Nat.reduceSub, Nat.reduceMul, Int.reduceToNat, Int.reduceLE, Int.reduceLT, Int.reduceEq, Int.reduceAdd, Int.reduceSub, Int.reduceMul, Int.reduceNeg, Nat.reduceLeDiff, Nat.reduceLT, true_and, and_true, false_and, and_false, qcat_0, qcat_1, qcat_3, qcat_9, Nat.reduceEqDiff, if_true, if_false, ite_self, or_true, true_or, or_false, false_or, forall_const, not_true_eq_false, not_false_eq_true, false_implies, implies_true, qtK0, qtK1, qtK2, qtK3, qtK4, List.getD_cons_zero, List.getD_cons_succ, Int.toNat_natCast, ne_eq, qcK, hbF, bsetF, bclrF, r0, e1, s1, s2, s3, s4, s5, f1, bj, w48, wj, e0, c3, f4, f5]
            exact hq _ _
          · have f5 : ((s : Int) < 4) = False := eq_false (by omega)
            have hq := hno (by unfold ltr; omega) (88)
            simp only [YK, c123, t123, c119, t119, cl119, cl104, tgK, lyK, rkK, wK, rfK, qRes_eq, qNon_eq, qup_ap, vup_ap, vcpy_ap, kc8_0, kc8_1, kc8_2, lc_lt, lc_gt, lc_eq, Option.toList_some, Option.toList_none, List.cons_append, List.nil_append, lay_len, lay_sz, Nat.reduceAdd, Nat.reduceSub, Nat.reduceMul, Int.reduceToNat, Int.reduceLE, Int.reduceLT, Int.reduceEq, Int.reduceAdd, Int.reduceSub, Int.reduceMul, Int.reduceNeg, Nat.reduceLeDiff, Nat.reduceLT, true_and, and_true, false_and, and_false, qcat_0, qcat_1, qcat_3, qcat_9, Nat.reduceEqDiff, if_true, if_false, ite_self, or_true, true_or, or_false, false_or, forall_const, not_true_eq_false, not_false_eq_true, false_implies, implies_true, qtK0, qtK1, qtK2, qtK3, qtK4, List.getD_cons_zero, List.getD_cons_succ, Int.toNat_natCast, ne_eq, qcK, hbF, bsetF, bclrF, r0, e1, s1, s2, s3, s4, s5, f1, bj, w48, wj, e0, c3, f4, f5]
            exact hq
        · have f4 : (0 < (h : Int)) = False := eq_false (by omega)
          have hq := hno (by unfold ltr; omega) (88)
          simp only [YK, c123, t123, c119, t119, cl119, cl104, tgK, lyK, rkK, wK, rfK, qRes_eq, qNon_eq, qup_ap, vup_ap, vcpy_ap, kc8_0, kc8_1, kc8_2, lc_lt, lc_gt, lc_eq, Option.toList_some, Option.toList_none, List.cons_append, List.nil_append, lay_len, lay_sz, Nat.reduceAdd, Nat.reduceSub, Nat.reduceMul, Int.reduceToNat, Int.reduceLE, Int.reduceLT, Int.reduceEq, Int.reduceAdd, Int.reduceSub, Int.reduceMul, Int.reduceNeg, Nat.reduceLeDiff, Nat.reduceLT, true_and, and_true, false_and, and_false, qcat_0, qcat_1, qcat_3, qcat_9, Nat.reduceEqDiff, if_true, if_false, ite_self, or_true, true_or, or_false, false_or, forall_const, not_true_eq_false, not_false_eq_true, false_implies, implies_true, qtK0, qtK1, qtK2, qtK3, qtK4, List.getD_cons_zero, List.getD_cons_succ, Int.toNat_natCast, ne_eq, qcK, hbF, bsetF, bclrF, r0, e1, s1, s2, s3, s4, s5, f1, bj, w48, wj, e0, c3, f4]
          exact hq
      · by_cases c6 : T j = 65
        · by_cases c7 : a < 12
          · have f7 : ((a : Int) < 12) = True := eq_true (by omega)
            have hq := fun l2 l3 => hgo (by unfold ltr; omega) l2 l3 (65) (by omega)
            simp only [YK, c123, t123, c119, t119, cl119, cl104, tgK, lyK, rkK, wK, rfK, qRes_eq, qNon_eq, qup_ap, vup_ap, vcpy_ap, kc8_0, kc8_1, kc8_2, lc_lt, lc_gt, lc_eq, Option.toList_some, Option.toList_none, List.cons_append, List.nil_append, lay_len, lay_sz, Nat.reduceAdd, Nat.reduceSub, Nat.reduceMul, Int.reduceToNat, Int.reduceLE, Int.reduceLT, Int.reduceEq, Int.reduceAdd, Int.reduceSub, Int.reduceMul, Int.reduceNeg, Nat.reduceLeDiff, Nat.reduceLT, true_and, and_true, false_and, and_false, qcat_0, qcat_1, qcat_3, qcat_9, Nat.reduceEqDiff, if_true, if_false, ite_self, or_true, true_or, or_false, false_or, forall_const, not_true_eq_false, not_false_eq_true, false_implies, implies_true, qtK0, qtK1, qtK2, qtK3, qtK4, List.getD_cons_zero, List.getD_cons_succ, Int.toNat_natCast, ne_eq, qcK, hbF, bsetF, bclrF, r0, e1, s1, s2, s3, s4, s5, f1, bj, w48, wj, e0, c6, f7]
            exact hq _ _
          · have f7 : ((a : Int) < 12) = False := eq_false (by omega)
            have hq := hno (by unfold ltr; omega) (65)
            simp only [YK, c123, t123, c119, t119, cl119, cl104, tgK, lyK, rkK, wK, rfK, qRes_eq, qNon_eq, qup_ap, vup_ap, vcpy_ap, kc8_0, kc8_1, kc8_2, lc_lt, lc_gt, lc_eq, Option.toList_some, Option.toList_none, List.cons_append, List.nil_append, lay_len, lay_sz, Nat.reduceAdd, Nat.reduceSub, Nat.reduceMul, Int.reduceToNat, Int.reduceLE, Int.reduceLT, Int.reduceEq, Int.reduceAdd, Int.reduceSub, Int.reduceMul, Int.reduceNeg, Nat.reduceLeDiff, Nat.reduceLT, true_and, and_true, false_and, and_false, qcat_0, qcat_1, qcat_3, qcat_9, Nat.reduceEqDiff, if_true, if_false, ite_self, or_true, true_or, or_false, false_or, forall_const, not_true_eq_false, not_false_eq_true, false_implies, implies_true, qtK0, qtK1, qtK2, qtK3, qtK4, List.getD_cons_zero, List.getD_cons_succ, Int.toNat_natCast, ne_eq, qcK, hbF, bsetF, bclrF, r0, e1, s1, s2, s3, s4, s5, f1, bj, w48, wj, e0, c6, f7]
            exact hq
        · have f1b : (T j = 72) = False := eq_false c1
          have f3 : (T j = 88) = False := eq_false c3
          have f6 : (T j = 65) = False := eq_false c6
          have hq := hno (by unfold ltr; omega) (T j)
          simp only [YK, c123, t123, c119, t119, cl119, cl104, tgK, lyK, rkK, wK, rfK, qRes_eq, qNon_eq, qup_ap, vup_ap, vcpy_ap, kc8_0, kc8_1, kc8_2, lc_lt, lc_gt, lc_eq, Option.toList_some, Option.toList_none, List.cons_append, List.nil_append, lay_len, lay_sz, Nat.reduceAdd, Nat.reduceSub, Nat.reduceMul, Int.reduceToNat, Int.reduceLE, Int.reduceLT, Int.reduceEq, Int.reduceAdd, Int.reduceSub, Int.reduceMul, Int.reduceNeg, Nat.reduceLeDiff, Nat.reduceLT, true_and, and_true, false_and, and_false, qcat_0, qcat_1, qcat_3, qcat_9, Nat.reduceEqDiff, if_true, if_false, ite_self, or_true, true_or, or_false, false_or, forall_const, not_true_eq_false, not_false_eq_true, false_implies, implies_true, qtK0, qtK1, qtK2, qtK3, qtK4, List.getD_cons_zero, List.getD_cons_succ, Int.toNat_natCast, ne_eq, qcK, hbF, bsetF, bclrF, r0, e1, s1, s2, s3, s4, s5, f1, bj, w48, wj, e0, f1b, f3, f6]
          exact hq
theorem r_part {tb : qTb} {F G : XT} {T : Nat → Int} {len k h s a : Nat} {pt : Int} {W : XT} {r : Int ⊕ QT} {R : Option qV → qM → Prop} (hlen : len ≤ 120) (hT : ∀ j : Nat, j < len → F 70 j = T j ∧ 0 ≤ T j ∧ T j ≤ 255) (hL : F 69 1 = (len : Int)) (hkl : k < len) (hs : stp T len k h s a W r) (hS : SG F G h s a pt 0) (hC : CQ G h s a W) (hin : ∀ f, r = .inl f → ∀ G2, RFq F G2 → R (some (0, f)) (LAY, G2)) (hout : ∀ k2 h2 s2 a2 W2, r = .inr (k2, h2, s2, a2, W2) → ∀ G2 l2 l3 pt, SG F G2 h2 s2 a2 pt 0 → CQ G2 h2 s2 a2 W2 → qW tb 123 (119, 1262) 22 [(3, 69), (0, (k2 : Int)), l2, l3] [] (LAY, G2) R) (l2 l3 : qV) : qW tb 123 (119, 1262) 22 [(3, 69), (0, (k : Int)), l2, l3] [] (LAY, G) R := by
  have hh4 := hC.1.1
  rcases hs with hs | hs | hs | ⟨n1, n2, n3, e⟩
  · obtain ⟨t, hb, hs⟩ := hs
    refine s119 hS hlen hT hL hkl (fun _ G1 m2 m3 S1 e1 => ?_) (fun hn => absurd (Or.inl ⟨t, hb⟩) hn) l2 l3
    rw [t] at S1
    refine s120_1 (j := k + 1) S1 hlen hT hL (by omega) hh4 hb (fun ok1 G2 m4 m5 S2 e2 => ?_) (fun n1 G2 f2 => ?_) m2 m3
    rotate_left
    · rcases hs with hs | hs | hs | hs
      · exact hin _ hs.2 G2 f2
      · exact absurd hs.1 n1
      · exact absurd hs.1 n1
      · exact absurd hs.1 n1
    refine s120_2 (j := k + 2) S2 hlen hT hL (by have := okd_l ok1 (by omega); omega) hh4 hb (fun ok2 G3 m6 m7 S3 e3 => ?_) (fun n2 G3 f3 => ?_) m4 m5
    rotate_left
    · rcases hs with hs | hs | hs | hs
      · exact absurd ok1 hs.1
      · exact hin _ hs.2.2 G3 f3
      · exact absurd hs.2.1 n2
      · exact absurd hs.2.1 n2
    refine s120_3 (j := k + 3) S3 hlen hT hL (by have := okd_l ok2 (by omega); omega) hh4 hb (fun ok3 G4 m8 m9 S4 e4 => ?_) (fun n3 G4 f4 => ?_) m6 m7
    rotate_left
    · rcases hs with hs | hs | hs | hs
      · exact absurd ok1 hs.1
      · exact absurd ok2 hs.2.1
      · exact hin _ hs.2.2.2 G4 f4
      · exact absurd hs.2.2.1 n3
    rcases hs with hs | hs | hs | hs
    · exact absurd ok1 hs.1
    · exact absurd ok2 hs.2.1
    · exact absurd ok3 hs.2.2.1
    · refine hout _ _ _ _ _ hs.2.2.2 G4 _ _ _ S4 ?_
      refine CQ_e (CQ_H hC hb (dgT T len (k + 1)) (dgT T len (k + 2)) (dgT T len (k + 3))) (fun c hc => ?_)
      funext i
      rw [e4 c hc, qup_ap, e3 c hc, qup_ap, e2 c hc, qup_ap, e1 c hc]
      simp only [qup_ap]
  · obtain ⟨t, hh0, hb, hs⟩ := hs
    refine s119 hS hlen hT hL hkl (fun _ G1 m2 m3 S1 e1 => ?_) (fun hn => absurd (Or.inr (Or.inl ⟨t, hh0, hb⟩)) hn) l2 l3
    rw [t] at S1
    refine s121_1 (j := k + 1) S1 hlen hT hL (by omega) hh4 hb (fun ok1 G2 m4 m5 S2 e2 => ?_) (fun n1 G2 f2 => ?_) m2 m3
    rotate_left
    · rcases hs with hs | hs | hs | hs | hs | hs
      · exact hin _ hs.2 G2 f2
      · exact absurd hs.1 n1
      · exact absurd hs.1 n1
      · exact absurd hs.1 n1
      · exact absurd hs.1 n1
      · exact absurd hs.1 n1
    refine s121_2 (j := k + 2) S2 hlen hT hL (by have := okd_l ok1 (by omega); omega) hh4 hb (fun ok2 G3 m6 m7 S3 e3 => ?_) (fun n2 G3 f3 => ?_) m4 m5
    rotate_left
    · rcases hs with hs | hs | hs | hs | hs | hs
      · exact absurd ok1 hs.1
      · exact hin _ hs.2.2 G3 f3
      · exact absurd hs.2.1 n2
      · exact absurd hs.2.1 n2
      · exact absurd hs.2.1 n2
      · exact absurd hs.2.1 n2
    refine s121_3 (j := k + 3) S3 hlen hT hL (by have := okd_l ok2 (by omega); omega) hh4 hb (10 * dgT T len (k + 2)) (by rw [e3 84 (by decide), qup_ap, if_pos rfl, if_pos rfl]) (by unfold okd at ok2; omega) (fun ok3 G4 m8 m9 S4 e4 => ?_) (fun n3 G4 f4 => ?_) m6 m7
    rotate_left
    · rcases hs with hs | hs | hs | hs | hs | hs
      · exact absurd ok1 hs.1
      · exact absurd ok2 hs.2.1
      · exact hin _ hs.2.2.2 G4 f4
      · exact absurd hs.2.2.1 n3
      · exact absurd hs.2.2.1 n3
      · exact absurd hs.2.2.1 n3
    refine s121_4 (j := k + 4) S4 hlen hT hL (by have := okd_l ok3 (by omega); omega) hh4 hb (10 * dgT T len (k + 2) + dgT T len (k + 3)) (by rw [e4 84 (by decide), qup_ap, if_pos rfl, if_pos rfl]) (by unfold okd at ok2 ok3; omega) (fun ok4 G5 m10 m11 S5 e5 => ?_) (fun n4 G5 f5 => ?_) m8 m9
    rotate_left
    · have n4 : ¬ okd T len (k + 4) (dgT T len (k + 2)) 7 := by
        unfold okd at *
        generalize dgT T len (k + 1) = d1 at *
        generalize dgT T len (k + 2) = d2 at *
        generalize dgT T len (k + 3) = d3 at *
        generalize dgT T len (k + 4) = d4 at *
        omega
      rcases hs with hs | hs | hs | hs | hs | hs
      · exact absurd ok1 hs.1
      · exact absurd ok2 hs.2.1
      · exact absurd ok3 hs.2.2.1
      · exact hin _ hs.2.2.2.2 G5 f5
      · exact absurd hs.2.2.2.1 n4
      · exact absurd hs.2.2.2.1 n4
    have ok4 : okd T len (k + 4) (dgT T len (k + 2)) 7 := by
      unfold okd at *
      generalize dgT T len (k + 1) = d1 at *
      generalize dgT T len (k + 2) = d2 at *
      generalize dgT T len (k + 3) = d3 at *
      generalize dgT T len (k + 4) = d4 at *
      omega
    refine s121_5 (j := k + 5) S5 hlen hT hL (by have := okd_l ok4 (by unfold okd at ok2; omega); omega) hh4 hb (10 * dgT T len (k + 2) + dgT T len (k + 3)) (by rw [e5 84 (by decide), qup_c (by decide), e4 84 (by decide), qup_ap, if_pos rfl, if_pos rfl]) (by unfold okd at ok2 ok3; omega) (10 * dgT T len (k + 4)) (by rw [e5 85 (by decide), qup_ap, if_pos rfl, if_pos rfl]) (by unfold okd at ok2 ok4; omega) (fun ok5 G6 m12 m13 S6 e6 => ?_) (fun n5 G6 f6 => ?_) m10 m11
    rotate_left
    · have n5 : ¬ okd T len (k + 5) (if dgT T len (k + 4) = dgT T len (k + 2) then dgT T len (k + 3) else 0) 9 := by
        unfold okd at *
        generalize dgT T len (k + 1) = d1 at *
        generalize dgT T len (k + 2) = d2 at *
        generalize dgT T len (k + 3) = d3 at *
        generalize dgT T len (k + 4) = d4 at *
        generalize dgT T len (k + 5) = d5 at *
        by_cases q : d4 = d2
        · rw [if_pos q]; omega
        · rw [if_neg q]; omega
      rcases hs with hs | hs | hs | hs | hs | hs
      · exact absurd ok1 hs.1
      · exact absurd ok2 hs.2.1
      · exact absurd ok3 hs.2.2.1
      · exact absurd ok4 hs.2.2.2.1
      · exact hin _ hs.2.2.2.2.2 G6 f6
      · exact absurd hs.2.2.2.2.1 n5
    have ok5 : okd T len (k + 5) (if dgT T len (k + 4) = dgT T len (k + 2) then dgT T len (k + 3) else 0) 9 := by
      unfold okd at *
      generalize dgT T len (k + 1) = d1 at *
      generalize dgT T len (k + 2) = d2 at *
      generalize dgT T len (k + 3) = d3 at *
      generalize dgT T len (k + 4) = d4 at *
      generalize dgT T len (k + 5) = d5 at *
      by_cases q : d4 = d2
      · rw [if_pos q]; omega
      · rw [if_neg q]; omega
    rcases hs with hs | hs | hs | hs | hs | hs
    · exact absurd ok1 hs.1
    · exact absurd ok2 hs.2.1
    · exact absurd ok3 hs.2.2.1
    · exact absurd ok4 hs.2.2.2.1
    · exact absurd ok5 hs.2.2.2.2.1
    · refine hout _ _ _ _ _ hs.2.2.2.2.2 G6 _ _ _ S6 ?_
      refine CQ_e (CQ_X hC hb (dgT T len (k + 1)) (dgT T len (k + 2) * 10 + dgT T len (k + 3)) (dgT T len (k + 4) * 10 + dgT T len (k + 5))) (fun c hc => ?_)
      funext i
      rw [e6 c hc, qup_ap, e5 c hc, qup_ap, e4 c hc, qup_ap, e3 c hc, qup_ap, e2 c hc, qup_ap, e1 c hc]
      simp only [qup_ap]
      by_cases q1 : i = s
      · by_cases x1 : c = 85
        · simp only [q1, x1, if_true, if_false, Nat.reduceEqDiff, Int.mul_comm 10]
        · by_cases x2 : c = 84
          · simp only [q1, x2, if_true, if_false, Nat.reduceEqDiff, Int.mul_comm 10]
          · simp only [q1, x1, x2, if_true, if_false, Nat.reduceEqDiff, Int.mul_comm 10]
      · simp only [q1, if_false, ite_self]
  · obtain ⟨t, hb, hs⟩ := hs
    refine s119 hS hlen hT hL hkl (fun _ G1 m2 m3 S1 e1 => ?_) (fun hn => absurd (Or.inr (Or.inr ⟨t, hb⟩)) hn) l2 l3
    rw [t] at S1
    refine s122_1 (j := k + 1) S1 hlen hT hL (by omega) hh4 hb (fun ok1 G2 m4 m5 S2 e2 => ?_) (fun n1 G2 f2 => ?_) m2 m3
    rotate_left
    · rcases hs with hs | hs | hs | hs | hs | hs
      · exact hin _ hs.2 G2 f2
      · exact absurd hs.1 n1
      · exact absurd hs.1 n1
      · exact absurd hs.1 n1
      · exact absurd hs.1 n1
      · exact absurd hs.1 n1
    refine s122_2 (j := k + 2) S2 hlen hT hL (by have := okd_l ok1 (by omega); omega) hh4 hb (10 * dgT T len (k + 1)) (by rw [e2 86 (by decide), qup_ap, if_pos rfl, if_pos rfl]) (by unfold okd at ok1; omega) (fun ok2 G3 m6 m7 S3 e3 => ?_) (fun n2 G3 f3 => ?_) m4 m5
    rotate_left
    · have n2 : ¬ okd T len (k + 2) 0 (if dgT T len (k + 1) = 4 then 0 else 9) := by
        unfold okd at *
        generalize dgT T len (k + 1) = d1 at *
        generalize dgT T len (k + 2) = d2 at *
        by_cases q : d1 = 4
        · rw [if_pos q]; omega
        · rw [if_neg q]; omega
      rcases hs with hs | hs | hs | hs | hs | hs
      · exact absurd ok1 hs.1
      · exact hin _ hs.2.2 G3 f3
      · exact absurd hs.2.1 n2
      · exact absurd hs.2.1 n2
      · exact absurd hs.2.1 n2
      · exact absurd hs.2.1 n2
    have ok2 : okd T len (k + 2) 0 (if dgT T len (k + 1) = 4 then 0 else 9) := by
      unfold okd at *
      generalize dgT T len (k + 1) = d1 at *
      generalize dgT T len (k + 2) = d2 at *
      by_cases q : d1 = 4
      · rw [if_pos q]; omega
      · rw [if_neg q]; omega
    refine s122_3 (j := k + 3) S3 hlen hT hL (by have := okd_l ok2 (by omega); omega) hh4 hb (fun ok3 G4 m8 m9 S4 e4 => ?_) (fun n3 G4 f4 => ?_) m6 m7
    rotate_left
    · rcases hs with hs | hs | hs | hs | hs | hs
      · exact absurd ok1 hs.1
      · exact absurd ok2 hs.2.1
      · exact hin _ hs.2.2.2 G4 f4
      · exact absurd hs.2.2.1 n3
      · exact absurd hs.2.2.1 n3
      · exact absurd hs.2.2.1 n3
    refine s122_4 (j := k + 4) S4 hlen hT hL (by have := okd_l ok3 (by omega); omega) hh4 hb (fun ok4 G5 m10 m11 S5 e5 => ?_) (fun n4 G5 f5 => ?_) m8 m9
    rotate_left
    · rcases hs with hs | hs | hs | hs | hs | hs
      · exact absurd ok1 hs.1
      · exact absurd ok2 hs.2.1
      · exact absurd ok3 hs.2.2.1
      · exact hin _ hs.2.2.2.2 G5 f5
      · exact absurd hs.2.2.2.1 n4
      · exact absurd hs.2.2.2.1 n4
    refine s122_5 (j := k + 5) S5 hlen hT hL (by have := okd_l ok4 (by omega); omega) hh4 hb (10 * dgT T len (k + 4)) (by rw [e5 88 (by decide), qup_ap, if_pos rfl, if_pos rfl]) (by unfold okd at ok4; omega) (fun ok5 G6 m12 m13 S6 e6 => ?_) (fun n5 G6 f6 => ?_) m10 m11
    rotate_left
    · have n5 : ¬ okd T len (k + 5) (if dgT T len (k + 4) = 0 then 1 else 0) (if dgT T len (k + 4) = 3 then 0 else 9) := by
        unfold okd at *
        generalize dgT T len (k + 1) = d1 at *
        generalize dgT T len (k + 2) = d2 at *
        generalize dgT T len (k + 3) = d3 at *
        generalize dgT T len (k + 4) = d4 at *
        generalize dgT T len (k + 5) = d5 at *
        by_cases q : d4 = 0
        · rw [if_pos q, if_neg (by omega)]; omega
        · rw [if_neg q]
          by_cases q2 : d4 = 3
          · rw [if_pos q2]; omega
          · rw [if_neg q2]; omega
      rcases hs with hs | hs | hs | hs | hs | hs
      · exact absurd ok1 hs.1
      · exact absurd ok2 hs.2.1
      · exact absurd ok3 hs.2.2.1
      · exact absurd ok4 hs.2.2.2.1
      · exact hin _ hs.2.2.2.2.2 G6 f6
      · exact absurd hs.2.2.2.2.1 n5
    have ok5 : okd T len (k + 5) (if dgT T len (k + 4) = 0 then 1 else 0) (if dgT T len (k + 4) = 3 then 0 else 9) := by
      unfold okd at *
      generalize dgT T len (k + 1) = d1 at *
      generalize dgT T len (k + 2) = d2 at *
      generalize dgT T len (k + 3) = d3 at *
      generalize dgT T len (k + 4) = d4 at *
      generalize dgT T len (k + 5) = d5 at *
      by_cases q : d4 = 0
      · rw [if_pos q, if_neg (by omega)]; omega
      · rw [if_neg q]
        by_cases q2 : d4 = 3
        · rw [if_pos q2]; omega
        · rw [if_neg q2]; omega
    rcases hs with hs | hs | hs | hs | hs | hs
    · exact absurd ok1 hs.1
    · exact absurd ok2 hs.2.1
    · exact absurd ok3 hs.2.2.1
    · exact absurd ok4 hs.2.2.2.1
    · exact absurd ok5 hs.2.2.2.2.1
    · refine hout _ _ _ _ _ hs.2.2.2.2.2 G6 _ _ _ S6 ?_
      refine CQ_e (CQ_A hC hb (dgT T len (k + 1) * 10 + dgT T len (k + 2)) (dgT T len (k + 3)) (dgT T len (k + 4) * 10 + dgT T len (k + 5))) (fun c hc => ?_)
      funext i
      rw [e6 c hc, qup_ap, e5 c hc, qup_ap, e4 c hc, qup_ap, e3 c hc, qup_ap, e2 c hc, qup_ap, e1 c hc]
      simp only [qup_ap]
      by_cases q1 : i = a
      · by_cases x1 : c = 88
        · simp only [q1, x1, if_true, if_false, Nat.reduceEqDiff, Int.mul_comm 10]
        · by_cases x2 : c = 86
          · simp only [q1, x2, if_true, if_false, Nat.reduceEqDiff, Int.mul_comm 10]
          · simp only [q1, x1, x2, if_true, if_false, Nat.reduceEqDiff, Int.mul_comm 10]
      · simp only [q1, if_false, ite_self]
  · refine s119 hS hlen hT hL hkl (fun hl => ?_) (fun _ G2 f2 => hin _ e G2 f2) l2 l3
    rcases hl with hl | hl | hl
    · exact absurd hl n1
    · exact absurd hl n2
    · exact absurd hl n3
def postR (F : XT) (r : Int ⊕ QT) (G : XT) : Prop := match r with
  | .inl _ => RFq F G
  | .inr (_, h, s, a, W) => (∃ pt, SG F G h s a pt 0) ∧ CQ G h s a W
theorem r123L {tb : qTb} {F : XT} {T : Nat → Int} {len : Nat} {r : Int ⊕ QT} {R : Option qV → qM → Prop} (hlen : len ≤ 120) (hT : ∀ j : Nat, j < len → F 70 j = T j ∧ 0 ≤ T j ∧ T j ≤ 255) (hL : F 69 1 = (len : Int)) (hk : ∀ G2, postR F r G2 → R (some (0, ans r)) (LAY, G2)) : ∀ (m k h s a : Nat) (pt : Int) (G W : XT) (l2 l3 : qV), len ≤ k + m → PR T len m k h s a W r → SG F G h s a pt 0 → CQ G h s a W → qW tb 123 (119, 1262) 22 [(3, 69), (0, (k : Int)), l2, l3] [] (LAY, G) R := by
  intro m
  have hend : ∀ (k h s a : Nat) (pt : Int) (G W : XT) (l2 l3 : qV), len ≤ k → r = .inr (k, h, s, a, W) → SG F G h s a pt 0 → CQ G h s a W → qW tb 123 (119, 1262) 22 [(3, 69), (0, (k : Int)), l2, l3] [] (LAY, G) R := by
    intro k h s a pt G W l2 l3 hlk hr hS hC
    have hq := hk G (by rw [hr]; exact ⟨⟨pt, hS⟩, hC⟩)
    rw [hr] at hq
    obtain ⟨f, s1, s2, s3, s4, s5⟩ := hS
    have r0 := Rf_k f.1
    have e1 : G 69 1 = (len : Int) := (f.2.2 1 (by decide) (by decide) (by decide) (by decide) (by decide)).trans hL
    have f1 : ((k : Int) < (len : Int)) = False := eq_false (by omega)
    rw [h123_22]
    simp only [YK, c123, t123, cl104, tgK, lyK, rkK, wK, rfK, qRes_eq, qNon_eq, qup_ap, vup_ap, vcpy_ap, kc8_0, kc8_1, kc8_2, lc_lt, lc_gt, lc_eq, Option.toList_some, Option.toList_none, List.cons_append, List.nil_append, lay_len, lay_sz, Nat.reduceAdd, Nat.reduceSub, Nat.reduceMul, Int.reduceToNat, Int.reduceLE, Int.reduceLT, Int.reduceEq, Int.reduceAdd, Int.reduceSub, Int.reduceMul, Int.reduceNeg, Nat.reduceLeDiff, Nat.reduceLT, true_and, and_true, false_and, and_false, qcat_0, qcat_1, qcat_3, qcat_9, Nat.reduceEqDiff, if_true, if_false, ite_self, or_true, true_or, or_false, false_or, forall_const, not_true_eq_false, not_false_eq_true, false_implies, implies_true, qtK0, qtK1, qtK2, qtK3, qtK4, List.getD_cons_zero, List.getD_cons_succ, Int.toNat_natCast, ne_eq, qcK, hbF, bsetF, bclrF, r0, e1, s5, f1]
    exact hq
  induction m with
  | zero =>
    intro k h s a pt G W l2 l3 hm hp hS hC
    exact hend k h s a pt G W l2 l3 (by omega) hp hS hC
  | succ m ih =>
    intro k h s a pt G W l2 l3 hm hp hS hC
    rcases hp with ⟨c, hp⟩ | ⟨c, hp⟩
    · rcases hp with ⟨f, hs, e⟩ | ⟨k2, h2, s2, a2, W2, hs, hp2⟩
      · refine r_part hlen hT hL c hs hS hC (fun f2 e2 G2 hf => ?_) (fun _ _ _ _ _ e2 => by cases e2) l2 l3
        have hq := hk G2 (by rw [e]; exact hf)
        rw [e, e2] at hq
        exact hq
      · refine r_part hlen hT hL c hs hS hC (fun f2 e2 => by cases e2) (fun k3 h3 s3 a3 W3 e2 G2 m2 m3 pt2 S2 C2 => ?_) l2 l3
        have hk4 := stp_k hs
        injection e2 with e2
        obtain ⟨rfl, rfl, rfl, rfl, rfl⟩ := e2
        exact ih k2 h2 s2 a2 pt2 G2 W2 m2 m3 (by omega) hp2 S2 C2
    · exact hend k h s a pt G W l2 l3 c hp hS hC
theorem r123 {tb : qTb} {F : XT} {T : Nat → Int} {len : Nat} {W : XT} {r : Int ⊕ QT} {R : Option qV → qM → Prop} (hRf : Rf F) (hlen : len ≤ 120) (hT : ∀ j : Nat, j < len → F 70 j = T j ∧ 0 ≤ T j ∧ T j ≤ 255) (hL : F 69 1 = (len : Int)) (hp : PR T len 120 0 0 0 0 W r) (hk : ∀ G2, postR F r G2 → R (some (0, ans r)) (LAY, G2)) : qW tb 123 (119, 1262) 0 [(3, 69), (9, 0), (9, 0), (9, 0)] [] (LAY, F) R := by
  have hr := Rf_k hRf
  have hz := r123L (tb := tb) (R := R) hlen hT hL hk 120 0 0 0 0 (F 69 26) (qup (qup (qup (qup F 69 14 0) 69 15 0) 69 16 0) 69 27 0) W (9, 0) (9, 0) (by omega) hp ⟨RFq.b (RFq.b (RFq.b (RFq.b ⟨hRf, fun _ _ _ => rfl, fun _ _ _ _ _ _ => rfl⟩ _ (by decide)) _ (by decide)) _ (by decide)) _ (by decide), by simp only [qup_ap, Nat.reduceEqDiff, if_true, if_false]; rfl, by simp only [qup_ap, Nat.reduceEqDiff, if_true, if_false]; rfl, by simp only [qup_ap, Nat.reduceEqDiff, if_true, if_false]; rfl, by simp only [qup_ap, Nat.reduceEqDiff, if_true, if_false], by simp only [qup_ap, Nat.reduceEqDiff, if_true, if_false]⟩ ⟨⟨by omega, by omega, by omega⟩, fun i j _ hj => absurd hj (by omega), fun i j _ _ hj => absurd hj (by omega), fun i j _ _ hj => absurd hj (by omega)⟩
  simp only [YK, c123, t123, tgK, lyK, rkK, wK, rfK, qRes_eq, qNon_eq, qup_ap, vup_ap, vcpy_ap, kc8_0, kc8_1, kc8_2, lc_lt, lc_gt, lc_eq, Option.toList_some, Option.toList_none, List.cons_append, List.nil_append, lay_len, lay_sz, Nat.reduceAdd, Nat.reduceSub, Nat.reduceMul, Int.reduceToNat, Int.reduceLE, Int.reduceLT, Int.reduceEq, Int.reduceAdd, Int.reduceSub, Int.reduceMul, Int.reduceNeg, Nat.reduceLeDiff, Nat.reduceLT, true_and, and_true, false_and, and_false, qcat_0, qcat_1, qcat_3, qcat_9, Nat.reduceEqDiff, if_true, if_false, ite_self, or_true, true_or, or_false, false_or, forall_const, not_true_eq_false, not_false_eq_true, false_implies, implies_true, qtK0, qtK1, qtK2, qtK3, qtK4, List.getD_cons_zero, List.getD_cons_succ, Int.toNat_natCast, ne_eq, qcK, hbF, bsetF, bclrF, hr]
  exact hz
