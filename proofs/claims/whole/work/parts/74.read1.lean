/-! a text, read; the class reads figures -/
def dgT (T : Nat → Int) (len k : Nat) : Int := if k < len then T k - 48 else -1
def okd (T : Nat → Int) (len k : Nat) (lo hi : Int) : Prop := lo ≤ dgT T len k ∧ dgT T len k ≤ hi
abbrev QT : Type := Nat × Nat × Nat × Nat × XT
/-- one part of a text: where its fault is, or what is told then -/
def stp (T : Nat → Int) (len k h s a : Nat) (W : XT) (r : Int ⊕ QT) : Prop :=
  (T k = 72 ∧ h < 4 ∧ ((¬ okd T len (k + 1) 1 3 ∧ r = .inl ((k + 1 : Nat) : Int)) ∨ (okd T len (k + 1) 1 3 ∧ ¬ okd T len (k + 2) 1 9 ∧ r = .inl ((k + 2 : Nat) : Int)) ∨ (okd T len (k + 1) 1 3 ∧ okd T len (k + 2) 1 9 ∧ ¬ okd T len (k + 3) 0 5 ∧ r = .inl ((k + 3 : Nat) : Int)) ∨ (okd T len (k + 1) 1 3 ∧ okd T len (k + 2) 1 9 ∧ okd T len (k + 3) 0 5 ∧ r = .inr (k + 4, h + 1, s, a, qup (qup (qup W 0 h (dgT T len (k + 1))) 1 h (dgT T len (k + 2))) 2 h (dgT T len (k + 3)))))) ∨
  (T k = 88 ∧ 0 < h ∧ s < 4 ∧ ((¬ okd T len (k + 1) 0 ((h : Int) - 1) ∧ r = .inl ((k + 1 : Nat) : Int)) ∨ (okd T len (k + 1) 0 ((h : Int) - 1) ∧ ¬ okd T len (k + 2) 0 7 ∧ r = .inl ((k + 2 : Nat) : Int)) ∨ (okd T len (k + 1) 0 ((h : Int) - 1) ∧ okd T len (k + 2) 0 7 ∧ ¬ okd T len (k + 3) 0 9 ∧ r = .inl ((k + 3 : Nat) : Int)) ∨ (okd T len (k + 1) 0 ((h : Int) - 1) ∧ okd T len (k + 2) 0 7 ∧ okd T len (k + 3) 0 9 ∧ ¬ okd T len (k + 4) (dgT T len (k + 2)) 7 ∧ r = .inl ((k + 4 : Nat) : Int)) ∨ (okd T len (k + 1) 0 ((h : Int) - 1) ∧ okd T len (k + 2) 0 7 ∧ okd T len (k + 3) 0 9 ∧ okd T len (k + 4) (dgT T len (k + 2)) 7 ∧ ¬ okd T len (k + 5) (if dgT T len (k + 4) = dgT T len (k + 2) then dgT T len (k + 3) else 0) 9 ∧ r = .inl ((k + 5 : Nat) : Int)) ∨ (okd T len (k + 1) 0 ((h : Int) - 1) ∧ okd T len (k + 2) 0 7 ∧ okd T len (k + 3) 0 9 ∧ okd T len (k + 4) (dgT T len (k + 2)) 7 ∧ okd T len (k + 5) (if dgT T len (k + 4) = dgT T len (k + 2) then dgT T len (k + 3) else 0) 9 ∧ r = .inr (k + 6, h, s + 1, a, qup (qup (qup W 3 s (dgT T len (k + 1))) 4 s (dgT T len (k + 2) * 10 + dgT T len (k + 3))) 5 s (dgT T len (k + 4) * 10 + dgT T len (k + 5)))))) ∨
  (T k = 65 ∧ a < 12 ∧ ((¬ okd T len (k + 1) 0 4 ∧ r = .inl ((k + 1 : Nat) : Int)) ∨ (okd T len (k + 1) 0 4 ∧ ¬ okd T len (k + 2) 0 (if dgT T len (k + 1) = 4 then 0 else 9) ∧ r = .inl ((k + 2 : Nat) : Int)) ∨ (okd T len (k + 1) 0 4 ∧ okd T len (k + 2) 0 (if dgT T len (k + 1) = 4 then 0 else 9) ∧ ¬ okd T len (k + 3) 0 3 ∧ r = .inl ((k + 3 : Nat) : Int)) ∨ (okd T len (k + 1) 0 4 ∧ okd T len (k + 2) 0 (if dgT T len (k + 1) = 4 then 0 else 9) ∧ okd T len (k + 3) 0 3 ∧ ¬ okd T len (k + 4) 0 3 ∧ r = .inl ((k + 4 : Nat) : Int)) ∨ (okd T len (k + 1) 0 4 ∧ okd T len (k + 2) 0 (if dgT T len (k + 1) = 4 then 0 else 9) ∧ okd T len (k + 3) 0 3 ∧ okd T len (k + 4) 0 3 ∧ ¬ okd T len (k + 5) (if dgT T len (k + 4) = 0 then 1 else 0) (if dgT T len (k + 4) = 3 then 0 else 9) ∧ r = .inl ((k + 5 : Nat) : Int)) ∨ (okd T len (k + 1) 0 4 ∧ okd T len (k + 2) 0 (if dgT T len (k + 1) = 4 then 0 else 9) ∧ okd T len (k + 3) 0 3 ∧ okd T len (k + 4) 0 3 ∧ okd T len (k + 5) (if dgT T len (k + 4) = 0 then 1 else 0) (if dgT T len (k + 4) = 3 then 0 else 9) ∧ r = .inr (k + 6, h, s, a + 1, qup (qup (qup W 6 a (dgT T len (k + 1) * 10 + dgT T len (k + 2))) 7 a (dgT T len (k + 3))) 8 a (dgT T len (k + 4) * 10 + dgT T len (k + 5)))))) ∨
  (¬ (T k = 72 ∧ h < 4) ∧ ¬ (T k = 88 ∧ 0 < h ∧ s < 4) ∧ ¬ (T k = 65 ∧ a < 12) ∧ r = .inl (k : Int))
/-- the class's reader: G0 is the memory but for the reader's own cell -/
def P2 (G0 G : XT) (len k : Nat) (f : Int) : Prop := (∀ c : Nat, c ≠ 2 → G c = G0 c) ∧ G 2 0 = 1 ∧ G 2 1 = (len : Int) ∧ G 2 2 = (k : Int) ∧ G 2 3 = f
def PFl (G0 G : XT) (len : Nat) (f : Int) : Prop := (∀ c : Nat, c ≠ 2 → G c = G0 c) ∧ G 2 0 = 1 ∧ G 2 1 = (len : Int) ∧ G 2 3 = f
theorem RFL_2 : ∀ q ∈ RFL, q.1 = 2 → q = (2, 0, 1) := by decide +kernel
theorem P2_rf {G0 G : XT} (h0 : Rf G0) (h1 : ∀ c : Nat, c ≠ 2 → G c = G0 c) (h2 : G 2 0 = 1) : Rf G := by
  intro q hq
  by_cases c : q.1 = 2
  · rw [RFL_2 q hq c]; exact h2
  · rw [h1 q.1 c]; exact h0 q hq
theorem P2.up {G0 G : XT} {len k : Nat} {f : Int} (h : P2 G0 G len k f) {c : Nat} (j : Nat) (v : Int) (hc : c ≠ 2) : P2 (qup G0 c j v) (qup G c j v) len k f := by
  obtain ⟨h1, h2, h3, h4, h5⟩ := h
  have e : qup G c j v 2 = G 2 := qup_c (fun h => hc h.symm)
  refine ⟨fun c2 hc2 => ?_, by rw [e]; exact h2, by rw [e]; exact h3, by rw [e]; exact h4, by rw [e]; exact h5⟩
  funext j2
  rw [qup_ap, qup_ap, h1 c2 hc2]
theorem PFl.up {G0 G : XT} {len : Nat} {f : Int} (h : PFl G0 G len f) {c : Nat} (j : Nat) (v : Int) (hc : c ≠ 2) : PFl (qup G0 c j v) (qup G c j v) len f := by
  obtain ⟨h1, h2, h3, h5⟩ := h
  have e : qup G c j v 2 = G 2 := qup_c (fun h => hc h.symm)
  refine ⟨fun c2 hc2 => ?_, by rw [e]; exact h2, by rw [e]; exact h3, by rw [e]; exact h5⟩
  funext j2
  rw [qup_ap, qup_ap, h1 c2 hc2]
theorem k52 {tb : qTb} {G0 G : XT} {T : Nat → Int} {len k : Nat} {R : Option qV → qM → Prop} (hP : P2 G0 G len k (-9)) (hlen : len ≤ 120) (hT : ∀ j : Nat, j < len → G0 1 j = T j ∧ 0 ≤ T j ∧ T j ≤ 255) (lo hi : Int) (hlo : 0 ≤ lo) (hk : k ≤ 1000) (hok : okd T len k lo hi → ∀ G2, P2 G0 G2 len (k + 1) (-9) → R (some (0, dgT T len k)) (LAY, G2)) (hbad : ¬ okd T len k lo hi → ∀ G2, PFl G0 G2 len (k : Int) → R (some (0, lo)) (LAY, G2)) : qW tb 52 (119, 1262) 0 [(3, 2), (0, lo), (0, hi), (9, 0)] [] (LAY, G) R := by
  obtain ⟨h1, h2, h3, h4, h5⟩ := hP
  have hbadq : ¬ okd T len k lo hi → R (some (0, lo)) (LAY, qup G 2 3 (k : Int)) := fun hn => hbad hn _ ⟨fun c hc => by rw [qup_c hc]; exact h1 c hc, by rw [qup_ap, if_pos rfl, if_neg (by decide)]; exact h2, by rw [qup_ap, if_pos rfl, if_neg (by decide)]; exact h3, by rw [qup_ap, if_pos rfl, if_pos rfl]⟩
  have w1 : w32 ((k : Int) + 1) = ((k + 1 : Nat) : Int) := by rw [w32_id ⟨by omega, by omega⟩]; omega
  by_cases c : k < len
  · have b1 : ((k : Int) < (len : Int)) = True := eq_true (by omega)
    have b2 : (0 ≤ (k : Int) ∧ (k : Int) < 120) = True := eq_true (by omega)
    obtain ⟨t1, t2, t3⟩ := hT k c
    have e1 : G 1 k = T k := by rw [h1 1 (by decide)]; exact t1
    have ed : dgT T len k = T k - 48 := by unfold dgT; rw [if_pos c]
    have w2 : w32 (T k - 48) = T k - 48 := w32_id ⟨by omega, by omega⟩
    by_cases cl : T k - 48 < lo
    · have hq := hbadq (by unfold okd; rw [ed]; omega)
      simp only [YK, c52, t52, tgK, lyK, rkK, wK, rfK, qRes_eq, qNon_eq, qup_ap, vup_ap, vcpy_ap, kc8_0, kc8_1, kc8_2, lc_lt, lc_gt, lc_eq, Option.toList_some, Option.toList_none, List.cons_append, List.nil_append, lay_len, lay_sz, Nat.reduceAdd, Nat.reduceSub, Nat.reduceMul, Int.reduceToNat, Int.reduceLE, Int.reduceLT, Int.reduceEq, Int.reduceAdd, Int.reduceSub, Int.reduceMul, Int.reduceNeg, Nat.reduceLeDiff, Nat.reduceLT, true_and, and_true, false_and, and_false, qcat_0, qcat_1, qcat_3, qcat_9, Nat.reduceEqDiff, if_true, if_false, ite_self, or_true, true_or, or_false, false_or, forall_const, not_true_eq_false, not_false_eq_true, false_implies, implies_true, qtK0, qtK1, qtK2, qtK3, qtK4, List.getD_cons_zero, List.getD_cons_succ, Int.toNat_natCast, ne_eq, qcK, hbF, bsetF, bclrF, h2, h3, h4, h5, b1, b2, e1, w2, cl]
      exact hq
    · by_cases ch : hi < T k - 48
      · have hq := hbadq (by unfold okd; rw [ed]; omega)
        simp only [YK, c52, t52, tgK, lyK, rkK, wK, rfK, qRes_eq, qNon_eq, qup_ap, vup_ap, vcpy_ap, kc8_0, kc8_1, kc8_2, lc_lt, lc_gt, lc_eq, Option.toList_some, Option.toList_none, List.cons_append, List.nil_append, lay_len, lay_sz, Nat.reduceAdd, Nat.reduceSub, Nat.reduceMul, Int.reduceToNat, Int.reduceLE, Int.reduceLT, Int.reduceEq, Int.reduceAdd, Int.reduceSub, Int.reduceMul, Int.reduceNeg, Nat.reduceLeDiff, Nat.reduceLT, true_and, and_true, false_and, and_false, qcat_0, qcat_1, qcat_3, qcat_9, Nat.reduceEqDiff, if_true, if_false, ite_self, or_true, true_or, or_false, false_or, forall_const, not_true_eq_false, not_false_eq_true, false_implies, implies_true, qtK0, qtK1, qtK2, qtK3, qtK4, List.getD_cons_zero, List.getD_cons_succ, Int.toNat_natCast, ne_eq, qcK, hbF, bsetF, bclrF, h2, h3, h4, h5, b1, b2, e1, w2, cl, ch, w1]
        exact hq
      · have hq := hok (by unfold okd; rw [ed]; omega) (qup G 2 2 ((k + 1 : Nat) : Int)) ⟨fun c hc => by rw [qup_c hc]; exact h1 c hc, by rw [qup_ap, if_pos rfl, if_neg (by decide)]; exact h2, by rw [qup_ap, if_pos rfl, if_neg (by decide)]; exact h3, by rw [qup_ap, if_pos rfl, if_pos rfl], by rw [qup_ap, if_pos rfl, if_neg (by decide)]; exact h5⟩
        rw [ed] at hq
        simp only [YK, c52, t52, tgK, lyK, rkK, wK, rfK, qRes_eq, qNon_eq, qup_ap, vup_ap, vcpy_ap, kc8_0, kc8_1, kc8_2, lc_lt, lc_gt, lc_eq, Option.toList_some, Option.toList_none, List.cons_append, List.nil_append, lay_len, lay_sz, Nat.reduceAdd, Nat.reduceSub, Nat.reduceMul, Int.reduceToNat, Int.reduceLE, Int.reduceLT, Int.reduceEq, Int.reduceAdd, Int.reduceSub, Int.reduceMul, Int.reduceNeg, Nat.reduceLeDiff, Nat.reduceLT, true_and, and_true, false_and, and_false, qcat_0, qcat_1, qcat_3, qcat_9, Nat.reduceEqDiff, if_true, if_false, ite_self, or_true, true_or, or_false, false_or, forall_const, not_true_eq_false, not_false_eq_true, false_implies, implies_true, qtK0, qtK1, qtK2, qtK3, qtK4, List.getD_cons_zero, List.getD_cons_succ, Int.toNat_natCast, ne_eq, qcK, hbF, bsetF, bclrF, h2, h3, h4, h5, b1, b2, e1, w2, cl, ch, w1]
        exact hq
  · have b1 : ((k : Int) < (len : Int)) = False := eq_false (by omega)
    have ed : dgT T len k = -1 := by unfold dgT; rw [if_neg c]
    have cl : (-1 < lo) = True := eq_true (by omega)
    have hq := hbadq (by unfold okd; rw [ed]; omega)
    simp only [YK, c52, t52, tgK, lyK, rkK, wK, rfK, qRes_eq, qNon_eq, qup_ap, vup_ap, vcpy_ap, kc8_0, kc8_1, kc8_2, lc_lt, lc_gt, lc_eq, Option.toList_some, Option.toList_none, List.cons_append, List.nil_append, lay_len, lay_sz, Nat.reduceAdd, Nat.reduceSub, Nat.reduceMul, Int.reduceToNat, Int.reduceLE, Int.reduceLT, Int.reduceEq, Int.reduceAdd, Int.reduceSub, Int.reduceMul, Int.reduceNeg, Nat.reduceLeDiff, Nat.reduceLT, true_and, and_true, false_and, and_false, qcat_0, qcat_1, qcat_3, qcat_9, Nat.reduceEqDiff, if_true, if_false, ite_self, or_true, true_or, or_false, false_or, forall_const, not_true_eq_false, not_false_eq_true, false_implies, implies_true, qtK0, qtK1, qtK2, qtK3, qtK4, List.getD_cons_zero, List.getD_cons_succ, Int.toNat_natCast, ne_eq, qcK, hbF, bsetF, bclrF, h2, h3, h4, h5, b1, cl]
    exact hq
theorem k52f {tb : qTb} {G0 G : XT} {len : Nat} {f : Int} {R : Option qV → qM → Prop} (hP : PFl G0 G len f) (hf : 0 ≤ f) (lo hi : Int) (hk : R (some (0, lo)) (LAY, G)) : qW tb 52 (119, 1262) 0 [(3, 2), (0, lo), (0, hi), (9, 0)] [] (LAY, G) R := by
  obtain ⟨h1, h2, h3, h5⟩ := hP
  have c : (f = -9) = False := eq_false (by omega)
  simp only [YK, c52, t52, tgK, lyK, rkK, wK, rfK, qRes_eq, qNon_eq, qup_ap, vup_ap, vcpy_ap, kc8_0, kc8_1, kc8_2, lc_lt, lc_gt, lc_eq, Option.toList_some, Option.toList_none, List.cons_append, List.nil_append, lay_len, lay_sz, Nat.reduceAdd, Nat.reduceSub, Nat.reduceMul, Int.reduceToNat, Int.reduceLE, Int.reduceLT, Int.reduceEq, Int.reduceAdd, Int.reduceSub, Int.reduceMul, Int.reduceNeg, Nat.reduceLeDiff, Nat.reduceLT, true_and, and_true, false_and, and_false, qcat_0, qcat_1, qcat_3, qcat_9, Nat.reduceEqDiff, if_true, if_false, ite_self, or_true, true_or, or_false, false_or, forall_const, not_true_eq_false, not_false_eq_true, false_implies, implies_true, qtK0, qtK1, qtK2, qtK3, qtK4, List.getD_cons_zero, List.getD_cons_succ, Int.toNat_natCast, ne_eq, qcK, hbF, bsetF, bclrF, h5, c]
  exact hk
theorem k53f {tb : qTb} {G0 G : XT} {len : Nat} {f : Int} {R : Option qV → qM → Prop} (hP : PFl G0 G len f) (hf : 0 ≤ f) (lo hi : Int) (hk : ∀ v, R (some (0, v)) (LAY, G)) : qW tb 53 (119, 1262) 0 [(3, 2), (0, lo), (0, hi), (9, 0), (9, 0), (9, 0)] [] (LAY, G) R := by
  simp only [YK, c53, t53, cl52, tgK, lyK, rkK, wK, rfK, qRes_eq, qNon_eq, qup_ap, vup_ap, vcpy_ap, kc8_0, kc8_1, kc8_2, lc_lt, lc_gt, lc_eq, Option.toList_some, Option.toList_none, List.cons_append, List.nil_append, lay_len, lay_sz, Nat.reduceAdd, Nat.reduceSub, Nat.reduceMul, Int.reduceToNat, Int.reduceLE, Int.reduceLT, Int.reduceEq, Int.reduceAdd, Int.reduceSub, Int.reduceMul, Int.reduceNeg, Nat.reduceLeDiff, Nat.reduceLT, true_and, and_true, false_and, and_false, qcat_0, qcat_1, qcat_3, qcat_9, Nat.reduceEqDiff, if_true, if_false, ite_self, or_true, true_or, or_false, false_or, forall_const, not_true_eq_false, not_false_eq_true, false_implies, implies_true, qtK0, qtK1, qtK2, qtK3, qtK4, List.getD_cons_zero, List.getD_cons_succ, Int.toNat_natCast, ne_eq, qcK, hbF, bsetF, bclrF]
  refine k52f hP hf _ _ ?_
  by_cases c : w32 (Int.tdiv lo 10) = w32 (Int.tdiv hi 10)
  · simp only [YK, c53, t53, cl52, tgK, lyK, rkK, wK, rfK, qRes_eq, qNon_eq, qup_ap, vup_ap, vcpy_ap, kc8_0, kc8_1, kc8_2, lc_lt, lc_gt, lc_eq, Option.toList_some, Option.toList_none, List.cons_append, List.nil_append, lay_len, lay_sz, Nat.reduceAdd, Nat.reduceSub, Nat.reduceMul, Int.reduceToNat, Int.reduceLE, Int.reduceLT, Int.reduceEq, Int.reduceAdd, Int.reduceSub, Int.reduceMul, Int.reduceNeg, Nat.reduceLeDiff, Nat.reduceLT, true_and, and_true, false_and, and_false, qcat_0, qcat_1, qcat_3, qcat_9, Nat.reduceEqDiff, if_true, if_false, ite_self, or_true, true_or, or_false, false_or, forall_const, not_true_eq_false, not_false_eq_true, false_implies, implies_true, qtK0, qtK1, qtK2, qtK3, qtK4, List.getD_cons_zero, List.getD_cons_succ, Int.toNat_natCast, ne_eq, qcK, hbF, bsetF, bclrF, c]
    refine k52f hP hf _ _ ?_
    simp only [YK, c53, t53, tgK, lyK, rkK, wK, rfK, qRes_eq, qNon_eq, qup_ap, vup_ap, vcpy_ap, kc8_0, kc8_1, kc8_2, lc_lt, lc_gt, lc_eq, Option.toList_some, Option.toList_none, List.cons_append, List.nil_append, lay_len, lay_sz, Nat.reduceAdd, Nat.reduceSub, Nat.reduceMul, Int.reduceToNat, Int.reduceLE, Int.reduceLT, Int.reduceEq, Int.reduceAdd, Int.reduceSub, Int.reduceMul, Int.reduceNeg, Nat.reduceLeDiff, Nat.reduceLT, true_and, and_true, false_and, and_false, qcat_0, qcat_1, qcat_3, qcat_9, Nat.reduceEqDiff, if_true, if_false, ite_self, or_true, true_or, or_false, false_or, forall_const, not_true_eq_false, not_false_eq_true, false_implies, implies_true, qtK0, qtK1, qtK2, qtK3, qtK4, List.getD_cons_zero, List.getD_cons_succ, Int.toNat_natCast, ne_eq, qcK, hbF, bsetF, bclrF]
    exact hk _
  · simp only [YK, c53, t53, cl52, tgK, lyK, rkK, wK, rfK, qRes_eq, qNon_eq, qup_ap, vup_ap, vcpy_ap, kc8_0, kc8_1, kc8_2, lc_lt, lc_gt, lc_eq, Option.toList_some, Option.toList_none, List.cons_append, List.nil_append, lay_len, lay_sz, Nat.reduceAdd, Nat.reduceSub, Nat.reduceMul, Int.reduceToNat, Int.reduceLE, Int.reduceLT, Int.reduceEq, Int.reduceAdd, Int.reduceSub, Int.reduceMul, Int.reduceNeg, Nat.reduceLeDiff, Nat.reduceLT, true_and, and_true, false_and, and_false, qcat_0, qcat_1, qcat_3, qcat_9, Nat.reduceEqDiff, if_true, if_false, ite_self, or_true, true_or, or_false, false_or, forall_const, not_true_eq_false, not_false_eq_true, false_implies, implies_true, qtK0, qtK1, qtK2, qtK3, qtK4, List.getD_cons_zero, List.getD_cons_succ, Int.toNat_natCast, ne_eq, qcK, hbF, bsetF, bclrF, c]
    refine k52f hP hf _ _ ?_
    simp only [YK, c53, t53, tgK, lyK, rkK, wK, rfK, qRes_eq, qNon_eq, qup_ap, vup_ap, vcpy_ap, kc8_0, kc8_1, kc8_2, lc_lt, lc_gt, lc_eq, Option.toList_some, Option.toList_none, List.cons_append, List.nil_append, lay_len, lay_sz, Nat.reduceAdd, Nat.reduceSub, Nat.reduceMul, Int.reduceToNat, Int.reduceLE, Int.reduceLT, Int.reduceEq, Int.reduceAdd, Int.reduceSub, Int.reduceMul, Int.reduceNeg, Nat.reduceLeDiff, Nat.reduceLT, true_and, and_true, false_and, and_false, qcat_0, qcat_1, qcat_3, qcat_9, Nat.reduceEqDiff, if_true, if_false, ite_self, or_true, true_or, or_false, false_or, forall_const, not_true_eq_false, not_false_eq_true, false_implies, implies_true, qtK0, qtK1, qtK2, qtK3, qtK4, List.getD_cons_zero, List.getD_cons_succ, Int.toNat_natCast, ne_eq, qcK, hbF, bsetF, bclrF]
    exact hk _
theorem k53 {tb : qTb} {G0 G : XT} {T : Nat → Int} {len k : Nat} {R : Option qV → qM → Prop} (hP : P2 G0 G len k (-9)) (hlen : len ≤ 120) (hT : ∀ j : Nat, j < len → G0 1 j = T j ∧ 0 ≤ T j ∧ T j ≤ 255) (lo hi : Int) (hlo : 0 ≤ lo ∧ lo ≤ 99) (hhi : 0 ≤ hi ∧ hi ≤ 99) (hk : k ≤ 900)
    (hok : okd T len k (lo / 10) (hi / 10) → okd T len (k + 1) (if dgT T len k = lo / 10 then lo % 10 else 0) (if dgT T len k = hi / 10 then hi % 10 else 9) → ∀ G2, P2 G0 G2 len (k + 2) (-9) → R (some (0, dgT T len k * 10 + dgT T len (k + 1))) (LAY, G2))
    (hb1 : ¬ okd T len k (lo / 10) (hi / 10) → ∀ G2 v, PFl G0 G2 len (k : Int) → R (some (0, v)) (LAY, G2))
    (hb2 : okd T len k (lo / 10) (hi / 10) → ¬ okd T len (k + 1) (if dgT T len k = lo / 10 then lo % 10 else 0) (if dgT T len k = hi / 10 then hi % 10 else 9) → ∀ G2 v, PFl G0 G2 len ((k + 1 : Nat) : Int) → R (some (0, v)) (LAY, G2)) : qW tb 53 (119, 1262) 0 [(3, 2), (0, lo), (0, hi), (9, 0), (9, 0), (9, 0)] [] (LAY, G) R := by
  have d1 : Int.tdiv lo 10 = lo / 10 := Int.tdiv_eq_ediv_of_nonneg hlo.1
  have d2 : Int.tdiv hi 10 = hi / 10 := Int.tdiv_eq_ediv_of_nonneg hhi.1
  have m1 : Int.tmod lo 10 = lo % 10 := Int.tmod_eq_emod_of_nonneg hlo.1
  have m2 : Int.tmod hi 10 = hi % 10 := Int.tmod_eq_emod_of_nonneg hhi.1
  have w1 : w32 (lo / 10) = lo / 10 := w32_id ⟨by omega, by omega⟩
  have w2 : w32 (hi / 10) = hi / 10 := w32_id ⟨by omega, by omega⟩
  have w3 : w32 (lo % 10) = lo % 10 := w32_id ⟨by omega, by omega⟩
  have w4 : w32 (hi % 10) = hi % 10 := w32_id ⟨by omega, by omega⟩
  simp only [YK, c53, t53, cl52, tgK, lyK, rkK, wK, rfK, qRes_eq, qNon_eq, qup_ap, vup_ap, vcpy_ap, kc8_0, kc8_1, kc8_2, lc_lt, lc_gt, lc_eq, Option.toList_some, Option.toList_none, List.cons_append, List.nil_append, lay_len, lay_sz, Nat.reduceAdd, Nat.reduceSub, Nat.reduceMul, Int.reduceToNat, Int.reduceLE, Int.reduceLT, Int.reduceEq, Int.reduceAdd, Int.reduceSub, Int.reduceMul, Int.reduceNeg, Nat.reduceLeDiff, Nat.reduceLT, true_and, and_true, false_and, and_false, qcat_0, qcat_1, qcat_3, qcat_9, Nat.reduceEqDiff, if_true, if_false, ite_self, or_true, true_or, or_false, false_or, forall_const, not_true_eq_false, not_false_eq_true, false_implies, implies_true, qtK0, qtK1, qtK2, qtK3, qtK4, List.getD_cons_zero, List.getD_cons_succ, Int.toNat_natCast, ne_eq, qcK, hbF, bsetF, bclrF, d1, d2, m1, m2, w1, w2, w3, w4]
  refine k52 hP hlen hT (lo / 10) (hi / 10) (by omega) (by omega) ?_ ?_
  · intro ok1 G1 hP1
    have hok1 := hok ok1
    have hb2 := hb2 ok1
    have hd := ok1
    unfold okd at hd
    generalize hdd : dgT T len k = d at *
    have w5 : w32 (d * 10) = d * 10 := w32_id ⟨by omega, by omega⟩
    by_cases c1 : d = lo / 10
    · rw [if_pos c1] at hok1 hb2
      have f1 : (d = lo / 10) = True := eq_true c1
      by_cases c2 : d = hi / 10
      · rw [if_pos c2] at hok1 hb2
        have f2 : (d = hi / 10) = True := eq_true c2
        simp only [YK, c53, t53, cl52, tgK, lyK, rkK, wK, rfK, qRes_eq, qNon_eq, qup_ap, vup_ap, vcpy_ap, kc8_0, kc8_1, kc8_2, lc_lt, lc_gt, lc_eq, Option.toList_some, Option.toList_none, List.cons_append, List.nil_append, lay_len, lay_sz, Nat.reduceAdd, Nat.reduceSub, Nat.reduceMul, Int.reduceToNat, Int.reduceLE, Int.reduceLT, Int.reduceEq, Int.reduceAdd, Int.reduceSub, Int.reduceMul, Int.reduceNeg, Nat.reduceLeDiff, Nat.reduceLT, true_and, and_true, false_and, and_false, qcat_0, qcat_1, qcat_3, qcat_9, Nat.reduceEqDiff, if_true, if_false, ite_self, or_true, true_or, or_false, false_or, forall_const, not_true_eq_false, not_false_eq_true, false_implies, implies_true, qtK0, qtK1, qtK2, qtK3, qtK4, List.getD_cons_zero, List.getD_cons_succ, Int.toNat_natCast, ne_eq, qcK, hbF, bsetF, bclrF, d1, d2, m1, m2, w1, w2, w3, w4, f1, f2, w5]
        refine k52 hP1 hlen hT (lo % 10) (hi % 10) (by omega) (by omega) ?_ ?_
        · intro ok2 G2 hP2
          have hq := hok1 ok2 G2 hP2
          unfold okd at ok2
          have w6 : w32 (d * 10 + dgT T len (k + 1)) = d * 10 + dgT T len (k + 1) := w32_id ⟨by omega, by omega⟩
          simp only [YK, c53, t53, tgK, lyK, rkK, wK, rfK, qRes_eq, qNon_eq, qup_ap, vup_ap, vcpy_ap, kc8_0, kc8_1, kc8_2, lc_lt, lc_gt, lc_eq, Option.toList_some, Option.toList_none, List.cons_append, List.nil_append, lay_len, lay_sz, Nat.reduceAdd, Nat.reduceSub, Nat.reduceMul, Int.reduceToNat, Int.reduceLE, Int.reduceLT, Int.reduceEq, Int.reduceAdd, Int.reduceSub, Int.reduceMul, Int.reduceNeg, Nat.reduceLeDiff, Nat.reduceLT, true_and, and_true, false_and, and_false, qcat_0, qcat_1, qcat_3, qcat_9, Nat.reduceEqDiff, if_true, if_false, ite_self, or_true, true_or, or_false, false_or, forall_const, not_true_eq_false, not_false_eq_true, false_implies, implies_true, qtK0, qtK1, qtK2, qtK3, qtK4, List.getD_cons_zero, List.getD_cons_succ, Int.toNat_natCast, ne_eq, qcK, hbF, bsetF, bclrF, w6]
          exact hq
        · intro ok2 G2 hP2
          have hq := hb2 ok2 G2 (w32 (d * 10 + (lo % 10))) hP2
          simp only [YK, c53, t53, tgK, lyK, rkK, wK, rfK, qRes_eq, qNon_eq, qup_ap, vup_ap, vcpy_ap, kc8_0, kc8_1, kc8_2, lc_lt, lc_gt, lc_eq, Option.toList_some, Option.toList_none, List.cons_append, List.nil_append, lay_len, lay_sz, Nat.reduceAdd, Nat.reduceSub, Nat.reduceMul, Int.reduceToNat, Int.reduceLE, Int.reduceLT, Int.reduceEq, Int.reduceAdd, Int.reduceSub, Int.reduceMul, Int.reduceNeg, Nat.reduceLeDiff, Nat.reduceLT, true_and, and_true, false_and, and_false, qcat_0, qcat_1, qcat_3, qcat_9, Nat.reduceEqDiff, if_true, if_false, ite_self, or_true, true_or, or_false, false_or, forall_const, not_true_eq_false, not_false_eq_true, false_implies, implies_true, qtK0, qtK1, qtK2, qtK3, qtK4, List.getD_cons_zero, List.getD_cons_succ, Int.toNat_natCast, ne_eq, qcK, hbF, bsetF, bclrF]
          exact hq
      · rw [if_neg c2] at hok1 hb2
        have f2 : (d = hi / 10) = False := eq_false c2
        simp only [YK, c53, t53, cl52, tgK, lyK, rkK, wK, rfK, qRes_eq, qNon_eq, qup_ap, vup_ap, vcpy_ap, kc8_0, kc8_1, kc8_2, lc_lt, lc_gt, lc_eq, Option.toList_some, Option.toList_none, List.cons_append, List.nil_append, lay_len, lay_sz, Nat.reduceAdd, Nat.reduceSub, Nat.reduceMul, Int.reduceToNat, Int.reduceLE, Int.reduceLT, Int.reduceEq, Int.reduceAdd, Int.reduceSub, Int.reduceMul, Int.reduceNeg, Nat.reduceLeDiff, Nat.reduceLT, true_and, and_true, false_and, and_false, qcat_0, qcat_1, qcat_3, qcat_9, Nat.reduceEqDiff, if_true, if_false, ite_self, or_true, true_or, or_false, false_or, forall_const, not_true_eq_false, not_false_eq_true, false_implies, implies_true, qtK0, qtK1, qtK2, qtK3, qtK4, List.getD_cons_zero, List.getD_cons_succ, Int.toNat_natCast, ne_eq, qcK, hbF, bsetF, bclrF, d1, d2, m1, m2, w1, w2, w3, w4, f1, f2, w5]
        refine k52 hP1 hlen hT (lo % 10) 9 (by omega) (by omega) ?_ ?_
        · intro ok2 G2 hP2
          have hq := hok1 ok2 G2 hP2
          unfold okd at ok2
          have w6 : w32 (d * 10 + dgT T len (k + 1)) = d * 10 + dgT T len (k + 1) := w32_id ⟨by omega, by omega⟩
          simp only [YK, c53, t53, tgK, lyK, rkK, wK, rfK, qRes_eq, qNon_eq, qup_ap, vup_ap, vcpy_ap, kc8_0, kc8_1, kc8_2, lc_lt, lc_gt, lc_eq, Option.toList_some, Option.toList_none, List.cons_append, List.nil_append, lay_len, lay_sz, Nat.reduceAdd, Nat.reduceSub, Nat.reduceMul, Int.reduceToNat, Int.reduceLE, Int.reduceLT, Int.reduceEq, Int.reduceAdd, Int.reduceSub, Int.reduceMul, Int.reduceNeg, Nat.reduceLeDiff, Nat.reduceLT, true_and, and_true, false_and, and_false, qcat_0, qcat_1, qcat_3, qcat_9, Nat.reduceEqDiff, if_true, if_false, ite_self, or_true, true_or, or_false, false_or, forall_const, not_true_eq_false, not_false_eq_true, false_implies, implies_true, qtK0, qtK1, qtK2, qtK3, qtK4, List.getD_cons_zero, List.getD_cons_succ, Int.toNat_natCast, ne_eq, qcK, hbF, bsetF, bclrF, w6]
          exact hq
        · intro ok2 G2 hP2
          have hq := hb2 ok2 G2 (w32 (d * 10 + (lo % 10))) hP2
          simp only [YK, c53, t53, tgK, lyK, rkK, wK, rfK, qRes_eq, qNon_eq, qup_ap, vup_ap, vcpy_ap, kc8_0, kc8_1, kc8_2, lc_lt, lc_gt, lc_eq, Option.toList_some, Option.toList_none, List.cons_append, List.nil_append, lay_len, lay_sz, Nat.reduceAdd, Nat.reduceSub, Nat.reduceMul, Int.reduceToNat, Int.reduceLE, Int.reduceLT, Int.reduceEq, Int.reduceAdd, Int.reduceSub, Int.reduceMul, Int.reduceNeg, Nat.reduceLeDiff, Nat.reduceLT, true_and, and_true, false_and, and_false, qcat_0, qcat_1, qcat_3, qcat_9, Nat.reduceEqDiff, if_true, if_false, ite_self, or_true, true_or, or_false, false_or, forall_const, not_true_eq_false, not_false_eq_true, false_implies, implies_true, qtK0, qtK1, qtK2, qtK3, qtK4, List.getD_cons_zero, List.getD_cons_succ, Int.toNat_natCast, ne_eq, qcK, hbF, bsetF, bclrF]
          exact hq
    · rw [if_neg c1] at hok1 hb2
      have f1 : (d = lo / 10) = False := eq_false c1
      by_cases c2 : d = hi / 10
      · rw [if_pos c2] at hok1 hb2
        have f2 : (d = hi / 10) = True := eq_true c2
        simp only [YK, c53, t53, cl52, tgK, lyK, rkK, wK, rfK, qRes_eq, qNon_eq, qup_ap, vup_ap, vcpy_ap, kc8_0, kc8_1, kc8_2, lc_lt, lc_gt, lc_eq, Option.toList_some, Option.toList_none, List.cons_append, List.nil_append, lay_len, lay_sz, Nat.reduceAdd, Nat.reduceSub, Nat.reduceMul, Int.reduceToNat, Int.reduceLE, Int.reduceLT, Int.reduceEq, Int.reduceAdd, Int.reduceSub, Int.reduceMul, Int.reduceNeg, Nat.reduceLeDiff, Nat.reduceLT, true_and, and_true, false_and, and_false, qcat_0, qcat_1, qcat_3, qcat_9, Nat.reduceEqDiff, if_true, if_false, ite_self, or_true, true_or, or_false, false_or, forall_const, not_true_eq_false, not_false_eq_true, false_implies, implies_true, qtK0, qtK1, qtK2, qtK3, qtK4, List.getD_cons_zero, List.getD_cons_succ, Int.toNat_natCast, ne_eq, qcK, hbF, bsetF, bclrF, d1, d2, m1, m2, w1, w2, w3, w4, f1, f2, w5]
        refine k52 hP1 hlen hT 0 (hi % 10) (by omega) (by omega) ?_ ?_
        · intro ok2 G2 hP2
          have hq := hok1 ok2 G2 hP2
          unfold okd at ok2
          have w6 : w32 (d * 10 + dgT T len (k + 1)) = d * 10 + dgT T len (k + 1) := w32_id ⟨by omega, by omega⟩
          simp only [YK, c53, t53, tgK, lyK, rkK, wK, rfK, qRes_eq, qNon_eq, qup_ap, vup_ap, vcpy_ap, kc8_0, kc8_1, kc8_2, lc_lt, lc_gt, lc_eq, Option.toList_some, Option.toList_none, List.cons_append, List.nil_append, lay_len, lay_sz, Nat.reduceAdd, Nat.reduceSub, Nat.reduceMul, Int.reduceToNat, Int.reduceLE, Int.reduceLT, Int.reduceEq, Int.reduceAdd, Int.reduceSub, Int.reduceMul, Int.reduceNeg, Nat.reduceLeDiff, Nat.reduceLT, true_and, and_true, false_and, and_false, qcat_0, qcat_1, qcat_3, qcat_9, Nat.reduceEqDiff, if_true, if_false, ite_self, or_true, true_or, or_false, false_or, forall_const, not_true_eq_false, not_false_eq_true, false_implies, implies_true, qtK0, qtK1, qtK2, qtK3, qtK4, List.getD_cons_zero, List.getD_cons_succ, Int.toNat_natCast, ne_eq, qcK, hbF, bsetF, bclrF, w6]
          exact hq
        · intro ok2 G2 hP2
          have hq := hb2 ok2 G2 (w32 (d * 10 + 0)) hP2
          simp only [YK, c53, t53, tgK, lyK, rkK, wK, rfK, qRes_eq, qNon_eq, qup_ap, vup_ap, vcpy_ap, kc8_0, kc8_1, kc8_2, lc_lt, lc_gt, lc_eq, Option.toList_some, Option.toList_none, List.cons_append, List.nil_append, lay_len, lay_sz, Nat.reduceAdd, Nat.reduceSub, Nat.reduceMul, Int.reduceToNat, Int.reduceLE, Int.reduceLT, Int.reduceEq, Int.reduceAdd, Int.reduceSub, Int.reduceMul, Int.reduceNeg, Nat.reduceLeDiff, Nat.reduceLT, true_and, and_true, false_and, and_false, qcat_0, qcat_1, qcat_3, qcat_9, Nat.reduceEqDiff, if_true, if_false, ite_self, or_true, true_or, or_false, false_or, forall_const, not_true_eq_false, not_false_eq_true, false_implies, implies_true, qtK0, qtK1, qtK2, qtK3, qtK4, List.getD_cons_zero, List.getD_cons_succ, Int.toNat_natCast, ne_eq, qcK, hbF, bsetF, bclrF]
          exact hq
      · rw [if_neg c2] at hok1 hb2
        have f2 : (d = hi / 10) = False := eq_false c2
        simp only [YK, c53, t53, cl52, tgK, lyK, rkK, wK, rfK, qRes_eq, qNon_eq, qup_ap, vup_ap, vcpy_ap, kc8_0, kc8_1, kc8_2, lc_lt, lc_gt, lc_eq, Option.toList_some, Option.toList_none, List.cons_append, List.nil_append, lay_len, lay_sz, Nat.reduceAdd, Nat.reduceSub, Nat.reduceMul, Int.reduceToNat, Int.reduceLE, Int.reduceLT, Int.reduceEq, Int.reduceAdd, Int.reduceSub, Int.reduceMul, Int.reduceNeg, Nat.reduceLeDiff, Nat.reduceLT, true_and, and_true, false_and, and_false, qcat_0, qcat_1, qcat_3, qcat_9, Nat.reduceEqDiff, if_true, if_false, ite_self, or_true, true_or, or_false, false_or, forall_const, not_true_eq_false, not_false_eq_true, false_implies, implies_true, qtK0, qtK1, qtK2, qtK3, qtK4, List.getD_cons_zero, List.getD_cons_succ, Int.toNat_natCast, ne_eq, qcK, hbF, bsetF, bclrF, d1, d2, m1, m2, w1, w2, w3, w4, f1, f2, w5]
        refine k52 hP1 hlen hT 0 9 (by omega) (by omega) ?_ ?_
        · intro ok2 G2 hP2
          have hq := hok1 ok2 G2 hP2
          unfold okd at ok2
          have w6 : w32 (d * 10 + dgT T len (k + 1)) = d * 10 + dgT T len (k + 1) := w32_id ⟨by omega, by omega⟩
          simp only [YK, c53, t53, tgK, lyK, rkK, wK, rfK, qRes_eq, qNon_eq, qup_ap, vup_ap, vcpy_ap, kc8_0, kc8_1, kc8_2, lc_lt, lc_gt, lc_eq, Option.toList_some, Option.toList_none, List.cons_append, List.nil_append, lay_len, lay_sz, Nat.reduceAdd, Nat.reduceSub, Nat.reduceMul, Int.reduceToNat, Int.reduceLE, Int.reduceLT, Int.reduceEq, Int.reduceAdd, Int.reduceSub, Int.reduceMul, Int.reduceNeg, Nat.reduceLeDiff, Nat.reduceLT, true_and, and_true, false_and, and_false, qcat_0, qcat_1, qcat_3, qcat_9, Nat.reduceEqDiff, if_true, if_false, ite_self, or_true, true_or, or_false, false_or, forall_const, not_true_eq_false, not_false_eq_true, false_implies, implies_true, qtK0, qtK1, qtK2, qtK3, qtK4, List.getD_cons_zero, List.getD_cons_succ, Int.toNat_natCast, ne_eq, qcK, hbF, bsetF, bclrF, w6]
          exact hq
        · intro ok2 G2 hP2
          have hq := hb2 ok2 G2 (w32 (d * 10 + 0)) hP2
          simp only [YK, c53, t53, tgK, lyK, rkK, wK, rfK, qRes_eq, qNon_eq, qup_ap, vup_ap, vcpy_ap, kc8_0, kc8_1, kc8_2, lc_lt, lc_gt, lc_eq, Option.toList_some, Option.toList_none, List.cons_append, List.nil_append, lay_len, lay_sz, Nat.reduceAdd, Nat.reduceSub, Nat.reduceMul, Int.reduceToNat, Int.reduceLE, Int.reduceLT, Int.reduceEq, Int.reduceAdd, Int.reduceSub, Int.reduceMul, Int.reduceNeg, Nat.reduceLeDiff, Nat.reduceLT, true_and, and_true, false_and, and_false, qcat_0, qcat_1, qcat_3, qcat_9, Nat.reduceEqDiff, if_true, if_false, ite_self, or_true, true_or, or_false, false_or, forall_const, not_true_eq_false, not_false_eq_true, false_implies, implies_true, qtK0, qtK1, qtK2, qtK3, qtK4, List.getD_cons_zero, List.getD_cons_succ, Int.toNat_natCast, ne_eq, qcK, hbF, bsetF, bclrF]
          exact hq
  · intro ok1 G1 hP1
    have hb1 := fun v => hb1 ok1 G1 v hP1
    have hf : 0 ≤ (k : Int) := by omega
    by_cases c2 : lo / 10 = hi / 10
    · simp only [YK, c53, t53, cl52, tgK, lyK, rkK, wK, rfK, qRes_eq, qNon_eq, qup_ap, vup_ap, vcpy_ap, kc8_0, kc8_1, kc8_2, lc_lt, lc_gt, lc_eq, Option.toList_some, Option.toList_none, List.cons_append, List.nil_append, lay_len, lay_sz, Nat.reduceAdd, Nat.reduceSub, Nat.reduceMul, Int.reduceToNat, Int.reduceLE, Int.reduceLT, Int.reduceEq, Int.reduceAdd, Int.reduceSub, Int.reduceMul, Int.reduceNeg, Nat.reduceLeDiff, Nat.reduceLT, true_and, and_true, false_and, and_false, qcat_0, qcat_1, qcat_3, qcat_9, Nat.reduceEqDiff, if_true, if_false, ite_self, or_true, true_or, or_false, false_or, forall_const, not_true_eq_false, not_false_eq_true, false_implies, implies_true, qtK0, qtK1, qtK2, qtK3, qtK4, List.getD_cons_zero, List.getD_cons_succ, Int.toNat_natCast, ne_eq, qcK, hbF, bsetF, bclrF, d1, d2, m1, m2, w1, w2, w3, w4, c2]
      refine k52f hP1 hf _ _ ?_
      simp only [YK, c53, t53, tgK, lyK, rkK, wK, rfK, qRes_eq, qNon_eq, qup_ap, vup_ap, vcpy_ap, kc8_0, kc8_1, kc8_2, lc_lt, lc_gt, lc_eq, Option.toList_some, Option.toList_none, List.cons_append, List.nil_append, lay_len, lay_sz, Nat.reduceAdd, Nat.reduceSub, Nat.reduceMul, Int.reduceToNat, Int.reduceLE, Int.reduceLT, Int.reduceEq, Int.reduceAdd, Int.reduceSub, Int.reduceMul, Int.reduceNeg, Nat.reduceLeDiff, Nat.reduceLT, true_and, and_true, false_and, and_false, qcat_0, qcat_1, qcat_3, qcat_9, Nat.reduceEqDiff, if_true, if_false, ite_self, or_true, true_or, or_false, false_or, forall_const, not_true_eq_false, not_false_eq_true, false_implies, implies_true, qtK0, qtK1, qtK2, qtK3, qtK4, List.getD_cons_zero, List.getD_cons_succ, Int.toNat_natCast, ne_eq, qcK, hbF, bsetF, bclrF]
      exact hb1 _
    · simp only [YK, c53, t53, cl52, tgK, lyK, rkK, wK, rfK, qRes_eq, qNon_eq, qup_ap, vup_ap, vcpy_ap, kc8_0, kc8_1, kc8_2, lc_lt, lc_gt, lc_eq, Option.toList_some, Option.toList_none, List.cons_append, List.nil_append, lay_len, lay_sz, Nat.reduceAdd, Nat.reduceSub, Nat.reduceMul, Int.reduceToNat, Int.reduceLE, Int.reduceLT, Int.reduceEq, Int.reduceAdd, Int.reduceSub, Int.reduceMul, Int.reduceNeg, Nat.reduceLeDiff, Nat.reduceLT, true_and, and_true, false_and, and_false, qcat_0, qcat_1, qcat_3, qcat_9, Nat.reduceEqDiff, if_true, if_false, ite_self, or_true, true_or, or_false, false_or, forall_const, not_true_eq_false, not_false_eq_true, false_implies, implies_true, qtK0, qtK1, qtK2, qtK3, qtK4, List.getD_cons_zero, List.getD_cons_succ, Int.toNat_natCast, ne_eq, qcK, hbF, bsetF, bclrF, d1, d2, m1, m2, w1, w2, w3, w4, c2]
      refine k52f hP1 hf _ _ ?_
      simp only [YK, c53, t53, tgK, lyK, rkK, wK, rfK, qRes_eq, qNon_eq, qup_ap, vup_ap, vcpy_ap, kc8_0, kc8_1, kc8_2, lc_lt, lc_gt, lc_eq, Option.toList_some, Option.toList_none, List.cons_append, List.nil_append, lay_len, lay_sz, Nat.reduceAdd, Nat.reduceSub, Nat.reduceMul, Int.reduceToNat, Int.reduceLE, Int.reduceLT, Int.reduceEq, Int.reduceAdd, Int.reduceSub, Int.reduceMul, Int.reduceNeg, Nat.reduceLeDiff, Nat.reduceLT, true_and, and_true, false_and, and_false, qcat_0, qcat_1, qcat_3, qcat_9, Nat.reduceEqDiff, if_true, if_false, ite_self, or_true, true_or, or_false, false_or, forall_const, not_true_eq_false, not_false_eq_true, false_implies, implies_true, qtK0, qtK1, qtK2, qtK3, qtK4, List.getD_cons_zero, List.getD_cons_succ, Int.toNat_natCast, ne_eq, qcK, hbF, bsetF, bclrF]
      exact hb1 _
