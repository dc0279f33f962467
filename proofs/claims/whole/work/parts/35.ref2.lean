/-! the reference: rows that are cleared, breakers, weights, spoilt hosts -/
def flt (a : Int) (l : List Int) : List Int := l.filter (fun b => decide (b ≠ a))
theorem getD_app1 {l m : List Int} {n : Nat} (h : n < l.length) : (l.take (n + 1) ++ m).getD n 0 = l.getD n 0 := by
  rw [List.getD_eq_getElem?_getD, List.getD_eq_getElem?_getD, List.getElem?_append_left (by rw [List.length_take]; omega), List.getElem?_take_of_lt (by omega)]
theorem getD_at {l : List Int} {n : Nat} (h : n < l.length) : l.getD n 0 = l[n] := by
  rw [List.getD_eq_getElem?_getD, List.getElem?_eq_getElem h]; rfl
theorem take_er {l : List Int} {a : Int} {n : Nat} (h : n < l.length) (e : l.getD n 0 = a) : (l.take (n + 1) ++ flt a (l.drop (n + 1))).eraseIdx n = l.take n ++ flt a (l.drop n) := by
  rw [getD_at h] at e
  have h1 : l.take (n + 1) = l.take n ++ [l[n]] := List.take_succ_eq_append_getElem h
  have h2 : l.drop n = l[n] :: l.drop (n + 1) := List.drop_eq_getElem_cons h
  have h3 : (l.take n).length = n := by rw [List.length_take]; omega
  rw [h1, h2, List.append_assoc, List.eraseIdx_append_of_length_le (by omega), h3, Nat.sub_self]
  have h4 : flt a (l[n] :: l.drop (n + 1)) = flt a (l.drop (n + 1)) := by
    unfold flt
    rw [List.filter_cons, if_neg (by simp [e])]
  rw [h4]
  rfl
theorem take_ke {l : List Int} {a : Int} {n : Nat} (h : n < l.length) (e : ¬ l.getD n 0 = a) : l.take (n + 1) ++ flt a (l.drop (n + 1)) = l.take n ++ flt a (l.drop n) := by
  rw [getD_at h] at e
  have h1 : l.take (n + 1) = l.take n ++ [l[n]] := List.take_succ_eq_append_getElem h
  have h2 : l.drop n = l[n] :: l.drop (n + 1) := List.drop_eq_getElem_cons h
  rw [h1, h2, List.append_assoc]
  have h4 : flt a (l[n] :: l.drop (n + 1)) = l[n] :: flt a (l.drop (n + 1)) := by
    unfold flt
    rw [List.filter_cons, if_pos (by simp [e])]
  rw [h4]
  rfl
theorem lset_lset (L : LT) (i h : Nat) (l m : List Int) : lset (lset L i h l) i h m = lset L i h m := by
  funext i2 h2
  rw [lset_ap, lset_ap, lset_ap]
  by_cases hc : i2 = i ∧ h2 = h
  · rw [if_pos hc, if_pos hc]
  · rw [if_neg hc, if_neg hc, if_neg hc]
theorem lset_id (L : LT) (i h : Nat) : lset L i h (L i h) = L := by
  funext i2 h2
  rw [lset_ap]
  by_cases hc : i2 = i ∧ h2 = h
  · rw [if_pos hc, hc.1, hc.2]
  · rw [if_neg hc]
theorem r131_in {tb : qTb} {C X : XT} {L : LT} {R : Option qV → qM → Prop} (a : Int) (h : Nat) (hh : h < 4) (l : List Int) (hl : l.length ≤ 16) (hk : ∀ F2 v, RR C X (lset L 0 h (flt a l)) F2 → qW tb 131 (119, 1262) 2 [(3, 69), (0, a), (0, ((h + 1 : Nat) : Int)), (0, v)] [] (LAY, F2) R) : ∀ (n : Nat) (F : XT), n ≤ l.length → RR C X (lset L 0 h (l.take n ++ flt a (l.drop n))) F → qW tb 131 (119, 1262) 19 [(3, 69), (0, a), (0, (h : Int)), (0, (n : Int) - 1)] [] (LAY, F) R := by
  intro n
  induction n with
  | zero =>
    intro F hn hR
    have hr := Rf_k hR.rf
    have hx := hR.k
    have b2 : (((0 : Nat) : Int) - 1 < 0) = True := eq_true (by omega)
    have w4 : w32 ((h : Int) + 1) = ((h + 1 : Nat) : Int) := by rw [w32_id ⟨by omega, by omega⟩]; omega
    rw [h131_19]
    simp only [YK, c131, t131, tgK, lyK, rkK, wK, rfK, hr, qRes_eq, qNon_eq, qup_ap, vup_ap, vcpy_ap, kc8_0, kc8_1, kc8_2, lc_lt, lc_gt, lc_eq, Option.toList_some, Option.toList_none, List.cons_append, List.nil_append, lay_len, lay_sz, Nat.reduceAdd, Nat.reduceSub, Nat.reduceMul, Int.reduceToNat, Int.reduceLE, Int.reduceLT, Int.reduceEq, Int.reduceAdd, Int.reduceSub, Int.reduceMul, Int.reduceNeg, Nat.reduceLeDiff, Nat.reduceLT, true_and, and_true, false_and, and_false, qcat_0, qcat_1, qcat_3, qcat_9, Nat.reduceEqDiff, if_true, if_false, ite_self, or_true, true_or, or_false, false_or, forall_const, not_true_eq_false, not_false_eq_true, false_implies, implies_true, qtK0, qtK1, qtK2, qtK3, qtK4, List.getD_cons_zero, List.getD_cons_succ, hx, Int.toNat_natCast, ne_eq, b2, w4]
    exact hk F _ hR
  | succ n ih =>
    intro F hn hR
    have hr := Rf_k hR.rf
    have hx := hR.k
    have e0 : (((n + 1 : Nat) : Int) - 1) = (n : Int) := by omega
    rw [e0]
    have b2 : ((n : Int) < 0) = False := eq_false (by omega)
    have w1 : w32 (16 * (h : Int)) = ((16 * h : Nat) : Int) := by rw [w32_id ⟨by omega, by omega⟩]; omega
    have w2 : w32 (((16 * h : Nat) : Int) + (n : Int)) = ((16 * h + n : Nat) : Int) := by rw [w32_id ⟨by omega, by omega⟩]; omega
    have w3 : w32 ((n : Int) + -1) = (n : Int) - 1 := by rw [w32_id ⟨by omega, by omega⟩]; omega
    have b3 : (0 ≤ ((16 * h + n : Nat) : Int) ∧ ((16 * h + n : Nat) : Int) < 64) = True := eq_true (by omega)
    have q := (hR.2.2.2 h hh).1
    rw [lset_self] at q
    have e3 : F 103 (16 * h + n) = l.getD n 0 := by
      rw [q n (by rw [List.length_append, List.length_take]; omega), getD_app1 (by omega)]
    rw [h131_19]
    by_cases ha : l.getD n 0 = a
    · simp only [YK, c131, t131, cl130, tgK, lyK, rkK, wK, rfK, hr, qRes_eq, qNon_eq, qup_ap, vup_ap, vcpy_ap, kc8_0, kc8_1, kc8_2, lc_lt, lc_gt, lc_eq, Option.toList_some, Option.toList_none, List.cons_append, List.nil_append, lay_len, lay_sz, Nat.reduceAdd, Nat.reduceSub, Nat.reduceMul, Int.reduceToNat, Int.reduceLE, Int.reduceLT, Int.reduceEq, Int.reduceAdd, Int.reduceSub, Int.reduceMul, Int.reduceNeg, Nat.reduceLeDiff, Nat.reduceLT, true_and, and_true, false_and, and_false, qcat_0, qcat_1, qcat_3, qcat_9, Nat.reduceEqDiff, if_true, if_false, ite_self, or_true, true_or, or_false, false_or, forall_const, not_true_eq_false, not_false_eq_true, false_implies, implies_true, qtK0, qtK1, qtK2, qtK3, qtK4, List.getD_cons_zero, List.getD_cons_succ, hx, Int.toNat_natCast, ne_eq, b2, w1, w2, b3, e3, ha]
      refine r130 hR h n hh (by rw [lset_self, List.length_append, List.length_take]; omega) ?_
      intro F2 hF2
      rw [lset_lset, lset_self, take_er (by omega) ha] at hF2
      simp only [YK, c131, t131, tgK, lyK, rkK, wK, rfK, hr, qRes_eq, qNon_eq, qup_ap, vup_ap, vcpy_ap, kc8_0, kc8_1, kc8_2, lc_lt, lc_gt, lc_eq, Option.toList_some, Option.toList_none, List.cons_append, List.nil_append, lay_len, lay_sz, Nat.reduceAdd, Nat.reduceSub, Nat.reduceMul, Int.reduceToNat, Int.reduceLE, Int.reduceLT, Int.reduceEq, Int.reduceAdd, Int.reduceSub, Int.reduceMul, Int.reduceNeg, Nat.reduceLeDiff, Nat.reduceLT, true_and, and_true, false_and, and_false, qcat_0, qcat_1, qcat_3, qcat_9, Nat.reduceEqDiff, if_true, if_false, ite_self, or_true, true_or, or_false, false_or, forall_const, not_true_eq_false, not_false_eq_true, false_implies, implies_true, qtK0, qtK1, qtK2, qtK3, qtK4, List.getD_cons_zero, List.getD_cons_succ, hx, Int.toNat_natCast, ne_eq, w3]
      exact ih F2 (by omega) hF2
    · rw [take_ke (by omega) ha] at hR
      simp only [YK, c131, t131, cl130, tgK, lyK, rkK, wK, rfK, hr, qRes_eq, qNon_eq, qup_ap, vup_ap, vcpy_ap, kc8_0, kc8_1, kc8_2, lc_lt, lc_gt, lc_eq, Option.toList_some, Option.toList_none, List.cons_append, List.nil_append, lay_len, lay_sz, Nat.reduceAdd, Nat.reduceSub, Nat.reduceMul, Int.reduceToNat, Int.reduceLE, Int.reduceLT, Int.reduceEq, Int.reduceAdd, Int.reduceSub, Int.reduceMul, Int.reduceNeg, Nat.reduceLeDiff, Nat.reduceLT, true_and, and_true, false_and, and_false, qcat_0, qcat_1, qcat_3, qcat_9, Nat.reduceEqDiff, if_true, if_false, ite_self, or_true, true_or, or_false, false_or, forall_const, not_true_eq_false, not_false_eq_true, false_implies, implies_true, qtK0, qtK1, qtK2, qtK3, qtK4, List.getD_cons_zero, List.getD_cons_succ, hx, Int.toNat_natCast, ne_eq, b2, w1, w2, w3, b3, e3, ha]
      exact ih F (by omega) hR
def dropTo (a : Int) (L : LT) (n : Nat) : LT := fun i h => if i = 0 ∧ h < n then flt a (L 0 h) else L i h
theorem dropTo_step (a : Int) (L : LT) (n : Nat) : lset (dropTo a L n) 0 n (flt a (L 0 n)) = dropTo a L (n + 1) := by
  funext i h
  unfold dropTo
  rw [lset_ap]
  by_cases hc : i = 0 ∧ h = n
  · rw [if_pos hc, if_pos (by omega), hc.2]
  · rw [if_neg hc]
    by_cases h2 : i = 0 ∧ h < n
    · rw [if_pos h2, if_pos (by omega)]
    · rw [if_neg h2, if_neg (by omega)]
theorem dropTo_zero (a : Int) (L : LT) : dropTo a L 0 = L := by
  funext i h
  unfold dropTo
  rw [if_neg (by omega)]
theorem r131 {tb : qTb} {C X F : XT} {L : LT} {R : Option qV → qM → Prop} (hR : RR C X L F) (a : Int) (nh : Nat) (hn : X 69 2 = (nh : Int)) (hn4 : nh ≤ 4) (hk : ∀ F2, RR C X (dropTo a L nh) F2 → R none (LAY, F2)) : qW tb 131 (119, 1262) 0 [(3, 69), (0, a), (9, 0), (9, 0)] [] (LAY, F) R := by
  have hloop : ∀ (n h : Nat) (F : XT) (v : qV), h + n = nh → RR C X (dropTo a L h) F → qW tb 131 (119, 1262) 2 [(3, 69), (0, a), (0, (h : Int)), v] [] (LAY, F) R := by
    intro n
    induction n with
    | zero =>
      intro h F v he hR
      have hr := Rf_k hR.rf
      have hx := hR.k
      have b1 : ((h : Int) < (nh : Int)) = False := eq_false (by omega)
      rw [h131_2]
      simp only [YK, c131, t131, tgK, lyK, rkK, wK, rfK, hr, qRes_eq, qNon_eq, qup_ap, vup_ap, vcpy_ap, kc8_0, kc8_1, kc8_2, lc_lt, lc_gt, lc_eq, Option.toList_some, Option.toList_none, List.cons_append, List.nil_append, lay_len, lay_sz, Nat.reduceAdd, Nat.reduceSub, Nat.reduceMul, Int.reduceToNat, Int.reduceLE, Int.reduceLT, Int.reduceEq, Int.reduceAdd, Int.reduceSub, Int.reduceMul, Int.reduceNeg, Nat.reduceLeDiff, Nat.reduceLT, true_and, and_true, false_and, and_false, qcat_0, qcat_1, qcat_3, qcat_9, Nat.reduceEqDiff, if_true, if_false, ite_self, or_true, true_or, or_false, false_or, forall_const, not_true_eq_false, not_false_eq_true, false_implies, implies_true, qtK0, qtK1, qtK2, qtK3, qtK4, List.getD_cons_zero, List.getD_cons_succ, hx, Int.toNat_natCast, ne_eq, hn, b1]
      have e : h = nh := by omega
      rw [e] at hR
      exact hk F hR
    | succ n ih =>
      intro h F v he hR
      have hr := Rf_k hR.rf
      have hx := hR.k
      have hh : h < 4 := by omega
      have b1 : ((h : Int) < (nh : Int)) = True := eq_true (by omega)
      have b2 : (0 ≤ (h : Int) ∧ (h : Int) < 4) = True := eq_true (by omega)
      obtain ⟨q1, q2, q3, q4, q5, q6, q7, q8⟩ := hR.2.2.2 h hh
      have ed : dropTo a L h 0 h = L 0 h := by
        unfold dropTo
        rw [if_neg (by omega)]
      rw [ed] at q2 q6
      have w1 : w32 (((L 0 h).length : Int) - 1) = ((L 0 h).length : Int) - 1 := w32_id ⟨by omega, by omega⟩
      rw [h131_2]
      simp only [YK, c131, t131, tgK, lyK, rkK, wK, rfK, hr, qRes_eq, qNon_eq, qup_ap, vup_ap, vcpy_ap, kc8_0, kc8_1, kc8_2, lc_lt, lc_gt, lc_eq, Option.toList_some, Option.toList_none, List.cons_append, List.nil_append, lay_len, lay_sz, Nat.reduceAdd, Nat.reduceSub, Nat.reduceMul, Int.reduceToNat, Int.reduceLE, Int.reduceLT, Int.reduceEq, Int.reduceAdd, Int.reduceSub, Int.reduceMul, Int.reduceNeg, Nat.reduceLeDiff, Nat.reduceLT, true_and, and_true, false_and, and_false, qcat_0, qcat_1, qcat_3, qcat_9, Nat.reduceEqDiff, if_true, if_false, ite_self, or_true, true_or, or_false, false_or, forall_const, not_true_eq_false, not_false_eq_true, false_implies, implies_true, qtK0, qtK1, qtK2, qtK3, qtK4, List.getD_cons_zero, List.getD_cons_succ, hx, Int.toNat_natCast, ne_eq, hn, b1, b2, q2, w1]
      refine r131_in (C := C) (X := X) (L := dropTo a L h) a h hh (L 0 h) q6 ?_ (L 0 h).length F (Nat.le_refl _) ?_
      · intro F2 v2 hF2
        rw [dropTo_step] at hF2
        exact ih (h + 1) F2 _ (by omega) hF2
      · rw [List.take_length, List.drop_length]
        have e2 : L 0 h ++ flt a [] = L 0 h := List.append_nil _
        rw [e2]
        have e3 := lset_id (dropTo a L h) 0 h
        rw [ed] at e3
        rw [e3]
        exact hR
  have hr := Rf_k hR.rf
  have hx := hR.k
  simp only [YK, c131, t131, tgK, lyK, rkK, wK, rfK, hr, qRes_eq, qNon_eq, qup_ap, vup_ap, vcpy_ap, kc8_0, kc8_1, kc8_2, lc_lt, lc_gt, lc_eq, Option.toList_some, Option.toList_none, List.cons_append, List.nil_append, lay_len, lay_sz, Nat.reduceAdd, Nat.reduceSub, Nat.reduceMul, Int.reduceToNat, Int.reduceLE, Int.reduceLT, Int.reduceEq, Int.reduceAdd, Int.reduceSub, Int.reduceMul, Int.reduceNeg, Nat.reduceLeDiff, Nat.reduceLT, true_and, and_true, false_and, and_false, qcat_0, qcat_1, qcat_3, qcat_9, Nat.reduceEqDiff, if_true, if_false, ite_self, or_true, true_or, or_false, false_or, forall_const, not_true_eq_false, not_false_eq_true, false_implies, implies_true, qtK0, qtK1, qtK2, qtK3, qtK4, List.getD_cons_zero, List.getD_cons_succ, hx, Int.toNat_natCast, ne_eq]
  refine hloop nh 0 F _ (by omega) ?_
  rw [dropTo_zero]
  exact hR
def pBrk (X : XT) (h : Nat) (t : Int) : Int := if X 109 h = 0 then (if w32 (X 108 h + 5) < t then 2 else 1) else 0
theorem r132 {tb : qTb} {C X F : XT} {L : LT} {R : Option qV → qM → Prop} (hR : RR C X L F) (h : Nat) (hh : h < 4) (t : Int) (hk : R (some (0, pBrk X h t)) (LAY, F)) : qW tb 132 (119, 1262) 0 [(3, 69), (0, (h : Int)), (0, t)] [] (LAY, F) R := by
  have hr := Rf_k hR.rf
  have hx := hR.k
  have b1 : (0 ≤ (h : Int) ∧ (h : Int) < 4) = True := eq_true (by omega)
  unfold pBrk at hk
  by_cases h1 : X 109 h = 0
  · rw [if_pos h1] at hk
    by_cases h2 : w32 (X 108 h + 5) < t
    · rw [if_pos h2] at hk
      simp only [YK, c132, t132, tgK, lyK, rkK, wK, rfK, hr, qRes_eq, qNon_eq, qup_ap, vup_ap, vcpy_ap, kc8_0, kc8_1, kc8_2, lc_lt, lc_gt, lc_eq, Option.toList_some, Option.toList_none, List.cons_append, List.nil_append, lay_len, lay_sz, Nat.reduceAdd, Nat.reduceSub, Nat.reduceMul, Int.reduceToNat, Int.reduceLE, Int.reduceLT, Int.reduceEq, Int.reduceAdd, Int.reduceSub, Int.reduceMul, Int.reduceNeg, Nat.reduceLeDiff, Nat.reduceLT, true_and, and_true, false_and, and_false, qcat_0, qcat_1, qcat_3, qcat_9, Nat.reduceEqDiff, if_true, if_false, ite_self, or_true, true_or, or_false, false_or, forall_const, not_true_eq_false, not_false_eq_true, false_implies, implies_true, qtK0, qtK1, qtK2, qtK3, qtK4, List.getD_cons_zero, List.getD_cons_succ, hx, Int.toNat_natCast, ne_eq, b1, h1, h2]
      exact hk
    · rw [if_neg h2] at hk
      simp only [YK, c132, t132, tgK, lyK, rkK, wK, rfK, hr, qRes_eq, qNon_eq, qup_ap, vup_ap, vcpy_ap, kc8_0, kc8_1, kc8_2, lc_lt, lc_gt, lc_eq, Option.toList_some, Option.toList_none, List.cons_append, List.nil_append, lay_len, lay_sz, Nat.reduceAdd, Nat.reduceSub, Nat.reduceMul, Int.reduceToNat, Int.reduceLE, Int.reduceLT, Int.reduceEq, Int.reduceAdd, Int.reduceSub, Int.reduceMul, Int.reduceNeg, Nat.reduceLeDiff, Nat.reduceLT, true_and, and_true, false_and, and_false, qcat_0, qcat_1, qcat_3, qcat_9, Nat.reduceEqDiff, if_true, if_false, ite_self, or_true, true_or, or_false, false_or, forall_const, not_true_eq_false, not_false_eq_true, false_implies, implies_true, qtK0, qtK1, qtK2, qtK3, qtK4, List.getD_cons_zero, List.getD_cons_succ, hx, Int.toNat_natCast, ne_eq, b1, h1, h2]
      exact hk
  · rw [if_neg h1] at hk
    simp only [YK, c132, t132, tgK, lyK, rkK, wK, rfK, hr, qRes_eq, qNon_eq, qup_ap, vup_ap, vcpy_ap, kc8_0, kc8_1, kc8_2, lc_lt, lc_gt, lc_eq, Option.toList_some, Option.toList_none, List.cons_append, List.nil_append, lay_len, lay_sz, Nat.reduceAdd, Nat.reduceSub, Nat.reduceMul, Int.reduceToNat, Int.reduceLE, Int.reduceLT, Int.reduceEq, Int.reduceAdd, Int.reduceSub, Int.reduceMul, Int.reduceNeg, Nat.reduceLeDiff, Nat.reduceLT, true_and, and_true, false_and, and_false, qcat_0, qcat_1, qcat_3, qcat_9, Nat.reduceEqDiff, if_true, if_false, ite_self, or_true, true_or, or_false, false_or, forall_const, not_true_eq_false, not_false_eq_true, false_implies, implies_true, qtK0, qtK1, qtK2, qtK3, qtK4, List.getD_cons_zero, List.getD_cons_succ, hx, Int.toNat_natCast, ne_eq, b1, h1]
    exact hk
def pWt (X : XT) (a : Int) : Int := if X 97 4 = 0 then 0 else if X 97 4 = 1 then X 78 a.toNat else w32 (X 96 a.toNat + X 79 a.toNat)
theorem r134 {tb : qTb} {C X F : XT} {L : LT} {R : Option qV → qM → Prop} (hR : RR C X L F) (a : Int) (ha : 0 ≤ a ∧ a < 12) (hk : R (some (0, pWt X a)) (LAY, F)) : qW tb 134 (119, 1262) 0 [(3, 69), (0, a)] [] (LAY, F) R := by
  have hr := Rf_k hR.rf
  have hx := hR.k
  have b1 : (0 ≤ a ∧ a < 12) = True := eq_true ha
  unfold pWt at hk
  by_cases h1 : X 97 4 = 0
  · rw [if_pos h1] at hk
    simp only [YK, c134, t134, tgK, lyK, rkK, wK, rfK, hr, qRes_eq, qNon_eq, qup_ap, vup_ap, vcpy_ap, kc8_0, kc8_1, kc8_2, lc_lt, lc_gt, lc_eq, Option.toList_some, Option.toList_none, List.cons_append, List.nil_append, lay_len, lay_sz, Nat.reduceAdd, Nat.reduceSub, Nat.reduceMul, Int.reduceToNat, Int.reduceLE, Int.reduceLT, Int.reduceEq, Int.reduceAdd, Int.reduceSub, Int.reduceMul, Int.reduceNeg, Nat.reduceLeDiff, Nat.reduceLT, true_and, and_true, false_and, and_false, qcat_0, qcat_1, qcat_3, qcat_9, Nat.reduceEqDiff, if_true, if_false, ite_self, or_true, true_or, or_false, false_or, forall_const, not_true_eq_false, not_false_eq_true, false_implies, implies_true, qtK0, qtK1, qtK2, qtK3, qtK4, List.getD_cons_zero, List.getD_cons_succ, hx, Int.toNat_natCast, ne_eq, b1, h1]
    exact hk
  · rw [if_neg h1] at hk
    by_cases h2 : X 97 4 = 1
    · rw [if_pos h2] at hk
      simp only [YK, c134, t134, tgK, lyK, rkK, wK, rfK, hr, qRes_eq, qNon_eq, qup_ap, vup_ap, vcpy_ap, kc8_0, kc8_1, kc8_2, lc_lt, lc_gt, lc_eq, Option.toList_some, Option.toList_none, List.cons_append, List.nil_append, lay_len, lay_sz, Nat.reduceAdd, Nat.reduceSub, Nat.reduceMul, Int.reduceToNat, Int.reduceLE, Int.reduceLT, Int.reduceEq, Int.reduceAdd, Int.reduceSub, Int.reduceMul, Int.reduceNeg, Nat.reduceLeDiff, Nat.reduceLT, true_and, and_true, false_and, and_false, qcat_0, qcat_1, qcat_3, qcat_9, Nat.reduceEqDiff, if_true, if_false, ite_self, or_true, true_or, or_false, false_or, forall_const, not_true_eq_false, not_false_eq_true, false_implies, implies_true, qtK0, qtK1, qtK2, qtK3, qtK4, List.getD_cons_zero, List.getD_cons_succ, hx, Int.toNat_natCast, ne_eq, b1, h1, h2]
      exact hk
    · rw [if_neg h2] at hk
      simp only [YK, c134, t134, tgK, lyK, rkK, wK, rfK, hr, qRes_eq, qNon_eq, qup_ap, vup_ap, vcpy_ap, kc8_0, kc8_1, kc8_2, lc_lt, lc_gt, lc_eq, Option.toList_some, Option.toList_none, List.cons_append, List.nil_append, lay_len, lay_sz, Nat.reduceAdd, Nat.reduceSub, Nat.reduceMul, Int.reduceToNat, Int.reduceLE, Int.reduceLT, Int.reduceEq, Int.reduceAdd, Int.reduceSub, Int.reduceMul, Int.reduceNeg, Nat.reduceLeDiff, Nat.reduceLT, true_and, and_true, false_and, and_false, qcat_0, qcat_1, qcat_3, qcat_9, Nat.reduceEqDiff, if_true, if_false, ite_self, or_true, true_or, or_false, false_or, forall_const, not_true_eq_false, not_false_eq_true, false_implies, implies_true, qtK0, qtK1, qtK2, qtK3, qtK4, List.getD_cons_zero, List.getD_cons_succ, hx, Int.toNat_natCast, ne_eq, b1, h1, h2]
      exact hk
