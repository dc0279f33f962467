/-! the reference: who is put out, where a copy is sent, spoilt hosts -/
/-- the last of the least, of the first n -/
def atTo (w : Int → Int) (l : List Int) : Nat → Nat
  | 0 => 0
  | n + 1 => if w (l.getD n 0) ≤ w (l.getD (atTo w l n) 0) then n else atTo w l n
theorem atTo_lt (w : Int → Int) (l : List Int) : ∀ n : Nat, 0 < n → atTo w l n < n := by
  intro n
  induction n with
  | zero => intro h; exact absurd h (by omega)
  | succ n ih =>
    intro _
    unfold atTo
    split
    · omega
    · by_cases h : 0 < n
      · have := ih h; omega
      · have e : n = 0 := by omega
        subst e
        unfold atTo
        omega
def pShed (S : XT × LT) (h : Nat) : XT × LT := (qup S.1 117 h (w32 (S.1 117 h + 1)), lset S.2 0 h ((S.2 0 h).eraseIdx (atTo (pWt S.1) (S.2 0 h) (S.2 0 h).length)))
theorem r135 {tb : qTb} {C X F : XT} {L : LT} {R : Option qV → qM → Prop} (hR : RR C X L F) (h : Nat) (hh : h < 4) (hel : ∀ a ∈ L 0 h, 0 ≤ a ∧ a < 12) (h0 : 0 < (L 0 h).length) (hk : ∀ F2, RR C (pShed (X, L) h).1 (pShed (X, L) h).2 F2 → R none (LAY, F2)) : qW tb 135 (119, 1262) 0 [(3, 69), (0, (h : Int)), (9, 0), (9, 0)] [] (LAY, F) R := by
  have hr := Rf_k hR.rf
  have hx := hR.k
  obtain ⟨q1, q2, q3, q4, q5, q6, q7, q8⟩ := hR.2.2.2 h hh
  have b1 : (0 ≤ (h : Int) ∧ (h : Int) < 4) = True := eq_true (by omega)
  have w1 : w32 (16 * (h : Int)) = ((16 * h : Nat) : Int) := by rw [w32_id ⟨by omega, by omega⟩]; omega
  have hg : ∀ j : Nat, j < (L 0 h).length → 0 ≤ (L 0 h).getD j 0 ∧ (L 0 h).getD j 0 < 12 := by
    intro j hj
    rw [getD_at hj]
    exact hel _ (List.getElem_mem hj)
  have hloop : ∀ (n k : Nat), k + n = (L 0 h).length → 1 ≤ k → qW tb 135 (119, 1262) 4 [(3, 69), (0, (h : Int)), (0, ((atTo (pWt X) (L 0 h) k : Nat) : Int)), (0, (k : Int))] [] (LAY, F) R := by
    intro n
    induction n with
    | zero =>
      intro k he hk1
      have b2 : ((k : Int) < ((L 0 h).length : Int)) = False := eq_false (by omega)
      have e : k = (L 0 h).length := by omega
      have ha := atTo_lt (pWt X) (L 0 h) k hk1
      rw [h135_4]
      simp only [YK, c135, t135, cl130, tgK, lyK, rkK, wK, rfK, hr, qRes_eq, qNon_eq, qup_ap, vup_ap, vcpy_ap, kc8_0, kc8_1, kc8_2, lc_lt, lc_gt, lc_eq, Option.toList_some, Option.toList_none, List.cons_append, List.nil_append, lay_len, lay_sz, Nat.reduceAdd, Nat.reduceSub, Nat.reduceMul, Int.reduceToNat, Int.reduceLE, Int.reduceLT, Int.reduceEq, Int.reduceAdd, Int.reduceSub, Int.reduceMul, Int.reduceNeg, Nat.reduceLeDiff, Nat.reduceLT, true_and, and_true, false_and, and_false, qcat_0, qcat_1, qcat_3, qcat_9, Nat.reduceEqDiff, if_true, if_false, ite_self, or_true, true_or, or_false, false_or, forall_const, not_true_eq_false, not_false_eq_true, false_implies, implies_true, qtK0, qtK1, qtK2, qtK3, qtK4, List.getD_cons_zero, List.getD_cons_succ, hx, Int.toNat_natCast, ne_eq, qcK, b1, b2, q2]
      refine r130 hR h _ hh (by omega) ?_
      intro F2 hF2
      have hr2 := Rf_k hF2.rf
      have hx2 := hF2.k
      have hq := hk _ ((hF2.upA h (w32 (X 117 h + 1)) (c := 117) (by unfold nl; decide) (by decide)) |> fun z => by rw [e] at z; exact z)
      simp only [YK, c135, t135, tgK, lyK, rkK, wK, rfK, hr2, qRes_eq, qNon_eq, qup_ap, vup_ap, vcpy_ap, kc8_0, kc8_1, kc8_2, lc_lt, lc_gt, lc_eq, Option.toList_some, Option.toList_none, List.cons_append, List.nil_append, lay_len, lay_sz, Nat.reduceAdd, Nat.reduceSub, Nat.reduceMul, Int.reduceToNat, Int.reduceLE, Int.reduceLT, Int.reduceEq, Int.reduceAdd, Int.reduceSub, Int.reduceMul, Int.reduceNeg, Nat.reduceLeDiff, Nat.reduceLT, true_and, and_true, false_and, and_false, qcat_0, qcat_1, qcat_3, qcat_9, Nat.reduceEqDiff, if_true, if_false, ite_self, or_true, true_or, or_false, false_or, forall_const, not_true_eq_false, not_false_eq_true, false_implies, implies_true, qtK0, qtK1, qtK2, qtK3, qtK4, List.getD_cons_zero, List.getD_cons_succ, hx2, Int.toNat_natCast, ne_eq, qcK, b1]
      exact hq
    | succ n ih =>
      intro k he hk1
      have b2 : ((k : Int) < ((L 0 h).length : Int)) = True := eq_true (by omega)
      have ha := atTo_lt (pWt X) (L 0 h) k hk1
      have hi := ih (k + 1) (by omega) (by omega)
      unfold atTo at hi
      generalize hA : atTo (pWt X) (L 0 h) k = A at ha hi
      have w2 : w32 (((16 * h : Nat) : Int) + (k : Int)) = ((16 * h + k : Nat) : Int) := by rw [w32_id ⟨by omega, by omega⟩]; omega
      have w3 : w32 (((16 * h : Nat) : Int) + (A : Int)) = ((16 * h + A : Nat) : Int) := by rw [w32_id ⟨by omega, by omega⟩]; omega
      have w4 : w32 ((k : Int) + 1) = ((k + 1 : Nat) : Int) := by rw [w32_id ⟨by omega, by omega⟩]; omega
      have b3 : (0 ≤ ((16 * h + k : Nat) : Int) ∧ ((16 * h + k : Nat) : Int) < 64) = True := eq_true (by omega)
      have b4 : (0 ≤ ((16 * h + A : Nat) : Int) ∧ ((16 * h + A : Nat) : Int) < 64) = True := eq_true (by omega)
      have e3 : F 103 (16 * h + k) = (L 0 h).getD k 0 := q1 k (by omega)
      have e4 : F 103 (16 * h + A) = (L 0 h).getD A 0 := q1 A (by omega)
      rw [h135_4]
      simp only [YK, c135, t135, cl134, tgK, lyK, rkK, wK, rfK, hr, qRes_eq, qNon_eq, qup_ap, vup_ap, vcpy_ap, kc8_0, kc8_1, kc8_2, lc_lt, lc_gt, lc_eq, Option.toList_some, Option.toList_none, List.cons_append, List.nil_append, lay_len, lay_sz, Nat.reduceAdd, Nat.reduceSub, Nat.reduceMul, Int.reduceToNat, Int.reduceLE, Int.reduceLT, Int.reduceEq, Int.reduceAdd, Int.reduceSub, Int.reduceMul, Int.reduceNeg, Nat.reduceLeDiff, Nat.reduceLT, true_and, and_true, false_and, and_false, qcat_0, qcat_1, qcat_3, qcat_9, Nat.reduceEqDiff, if_true, if_false, ite_self, or_true, true_or, or_false, false_or, forall_const, not_true_eq_false, not_false_eq_true, false_implies, implies_true, qtK0, qtK1, qtK2, qtK3, qtK4, List.getD_cons_zero, List.getD_cons_succ, hx, Int.toNat_natCast, ne_eq, qcK, b1, b2, q2, w1, w2, w3, b3, b4, e3, e4]
      refine r134 hR _ (hg k (by omega)) ?_
      simp only [YK, c135, t135, cl134, tgK, lyK, rkK, wK, rfK, hr, qRes_eq, qNon_eq, qup_ap, vup_ap, vcpy_ap, kc8_0, kc8_1, kc8_2, lc_lt, lc_gt, lc_eq, Option.toList_some, Option.toList_none, List.cons_append, List.nil_append, lay_len, lay_sz, Nat.reduceAdd, Nat.reduceSub, Nat.reduceMul, Int.reduceToNat, Int.reduceLE, Int.reduceLT, Int.reduceEq, Int.reduceAdd, Int.reduceSub, Int.reduceMul, Int.reduceNeg, Nat.reduceLeDiff, Nat.reduceLT, true_and, and_true, false_and, and_false, qcat_0, qcat_1, qcat_3, qcat_9, Nat.reduceEqDiff, if_true, if_false, ite_self, or_true, true_or, or_false, false_or, forall_const, not_true_eq_false, not_false_eq_true, false_implies, implies_true, qtK0, qtK1, qtK2, qtK3, qtK4, List.getD_cons_zero, List.getD_cons_succ, hx, Int.toNat_natCast, ne_eq, qcK, b1, b2, q2, w1, w2, w3, b3, b4, e3, e4]
      refine r134 hR _ (hg A (by omega)) ?_
      by_cases hc : pWt X ((L 0 h).getD k 0) ≤ pWt X ((L 0 h).getD A 0)
      · rw [if_pos hc] at hi
        have hc2 : (pWt X ((L 0 h).getD A 0) < pWt X ((L 0 h).getD k 0)) = False := eq_false (by omega)
        simp only [YK, c135, t135, tgK, lyK, rkK, wK, rfK, hr, qRes_eq, qNon_eq, qup_ap, vup_ap, vcpy_ap, kc8_0, kc8_1, kc8_2, lc_lt, lc_gt, lc_eq, Option.toList_some, Option.toList_none, List.cons_append, List.nil_append, lay_len, lay_sz, Nat.reduceAdd, Nat.reduceSub, Nat.reduceMul, Int.reduceToNat, Int.reduceLE, Int.reduceLT, Int.reduceEq, Int.reduceAdd, Int.reduceSub, Int.reduceMul, Int.reduceNeg, Nat.reduceLeDiff, Nat.reduceLT, true_and, and_true, false_and, and_false, qcat_0, qcat_1, qcat_3, qcat_9, Nat.reduceEqDiff, if_true, if_false, ite_self, or_true, true_or, or_false, false_or, forall_const, not_true_eq_false, not_false_eq_true, false_implies, implies_true, qtK0, qtK1, qtK2, qtK3, qtK4, List.getD_cons_zero, List.getD_cons_succ, hx, Int.toNat_natCast, ne_eq, qcK, hc2, w4]
        exact hi
      · rw [if_neg hc] at hi
        have hc2 : (pWt X ((L 0 h).getD A 0) < pWt X ((L 0 h).getD k 0)) = True := eq_true (by omega)
        simp only [YK, c135, t135, tgK, lyK, rkK, wK, rfK, hr, qRes_eq, qNon_eq, qup_ap, vup_ap, vcpy_ap, kc8_0, kc8_1, kc8_2, lc_lt, lc_gt, lc_eq, Option.toList_some, Option.toList_none, List.cons_append, List.nil_append, lay_len, lay_sz, Nat.reduceAdd, Nat.reduceSub, Nat.reduceMul, Int.reduceToNat, Int.reduceLE, Int.reduceLT, Int.reduceEq, Int.reduceAdd, Int.reduceSub, Int.reduceMul, Int.reduceNeg, Nat.reduceLeDiff, Nat.reduceLT, true_and, and_true, false_and, and_false, qcat_0, qcat_1, qcat_3, qcat_9, Nat.reduceEqDiff, if_true, if_false, ite_self, or_true, true_or, or_false, false_or, forall_const, not_true_eq_false, not_false_eq_true, false_implies, implies_true, qtK0, qtK1, qtK2, qtK3, qtK4, List.getD_cons_zero, List.getD_cons_succ, hx, Int.toNat_natCast, ne_eq, qcK, hc2, w4]
        exact hi
  simp only [YK, c135, t135, tgK, lyK, rkK, wK, rfK, hr, qRes_eq, qNon_eq, qup_ap, vup_ap, vcpy_ap, kc8_0, kc8_1, kc8_2, lc_lt, lc_gt, lc_eq, Option.toList_some, Option.toList_none, List.cons_append, List.nil_append, lay_len, lay_sz, Nat.reduceAdd, Nat.reduceSub, Nat.reduceMul, Int.reduceToNat, Int.reduceLE, Int.reduceLT, Int.reduceEq, Int.reduceAdd, Int.reduceSub, Int.reduceMul, Int.reduceNeg, Nat.reduceLeDiff, Nat.reduceLT, true_and, and_true, false_and, and_false, qcat_0, qcat_1, qcat_3, qcat_9, Nat.reduceEqDiff, if_true, if_false, ite_self, or_true, true_or, or_false, false_or, forall_const, not_true_eq_false, not_false_eq_true, false_implies, implies_true, qtK0, qtK1, qtK2, qtK3, qtK4, List.getD_cons_zero, List.getD_cons_succ, hx, Int.toNat_natCast, ne_eq, qcK]
  have e0 : atTo (pWt X) (L 0 h) 1 = 0 := by
    have := atTo_lt (pWt X) (L 0 h) 1 (by decide)
    omega
  have := hloop ((L 0 h).length - 1) 1 (by omega) (Nat.le_refl 1)
  rw [e0] at this
  exact this
/-- whether one of the first n spans has the host at a tick -/
def spTo (X : XT) (h t : Int) : Nat → Bool
  | 0 => false
  | n + 1 => spTo X h t n || decide (X 74 n = h ∧ X 75 n ≤ t ∧ t ≤ X 76 n)
def pSp (X : XT) (ns : Nat) (h t : Int) : Bool := if X 69 41 = -9 then spTo X h t ns else hasB (X 69 41) h
def bi (b : Bool) : Int := if b then 1 else 0
theorem bi_t : bi true = 1 := rfl
theorem bi_f : bi false = 0 := rfl
theorem r137 {tb : qTb} {C X F : XT} {L : LT} {R : Option qV → qM → Prop} (hR : RR C X L F) (h t : Int) (ns : Nat) (hn : X 69 4 = (ns : Int)) (hn4 : ns ≤ 4) (hk : R (some (0, bi (pSp X ns h t))) (LAY, F)) : qW tb 137 (119, 1262) 0 [(3, 69), (0, h), (0, t), (9, 0), (9, 0)] [] (LAY, F) R := by
  have hr := Rf_k hR.rf
  have hx := hR.k
  unfold pSp at hk
  by_cases c0 : X 69 41 = -9
  · rw [if_pos c0] at hk
    have hloop : ∀ (n k : Nat), k + n = ns → qW tb 137 (119, 1262) 23 [(3, 69), (0, h), (0, t), (0, bi (spTo X h t k)), (0, (k : Int))] [] (LAY, F) R := by
      intro n
      induction n with
      | zero =>
        intro k he
        have b1 : ((k : Int) < (ns : Int)) = False := eq_false (by omega)
        have e : k = ns := by omega
        rw [h137_23]
        simp only [YK, c137, t137, tgK, lyK, rkK, wK, rfK, hr, qRes_eq, qNon_eq, qup_ap, vup_ap, vcpy_ap, kc8_0, kc8_1, kc8_2, lc_lt, lc_gt, lc_eq, Option.toList_some, Option.toList_none, List.cons_append, List.nil_append, lay_len, lay_sz, Nat.reduceAdd, Nat.reduceSub, Nat.reduceMul, Int.reduceToNat, Int.reduceLE, Int.reduceLT, Int.reduceEq, Int.reduceAdd, Int.reduceSub, Int.reduceMul, Int.reduceNeg, Nat.reduceLeDiff, Nat.reduceLT, true_and, and_true, false_and, and_false, qcat_0, qcat_1, qcat_3, qcat_9, Nat.reduceEqDiff, if_true, if_false, ite_self, or_true, true_or, or_false, false_or, forall_const, not_true_eq_false, not_false_eq_true, false_implies, implies_true, qtK0, qtK1, qtK2, qtK3, qtK4, List.getD_cons_zero, List.getD_cons_succ, hx, Int.toNat_natCast, ne_eq, qcK, c0, hn, b1]
        rw [e]
        cases hs : spTo X h t ns
        · rw [hs] at hk; exact ⟨Or.inl rfl, hk⟩
        · rw [hs] at hk; exact ⟨Or.inr rfl, hk⟩
      | succ n ih =>
        intro k he
        have b1 : ((k : Int) < (ns : Int)) = True := eq_true (by omega)
        have b2 : (0 ≤ (k : Int) ∧ (k : Int) < 4) = True := eq_true (by omega)
        have w4 : w32 ((k : Int) + 1) = ((k + 1 : Nat) : Int) := by rw [w32_id ⟨by omega, by omega⟩]; omega
        have hi := ih (k + 1) (by omega)
        unfold spTo at hi
        rw [h137_23]
        cases hs : spTo X h t k
        · rw [hs, Bool.false_or] at hi
          by_cases c1 : X 74 k = h
          · by_cases c2 : t < X 75 k
            · rw [decide_eq_false (by omega)] at hi
              simp only [YK, c137, t137, c104, t104, cl104, tgK, lyK, rkK, wK, rfK, hr, qRes_eq, qNon_eq, qup_ap, vup_ap, vcpy_ap, kc8_0, kc8_1, kc8_2, lc_lt, lc_gt, lc_eq, Option.toList_some, Option.toList_none, List.cons_append, List.nil_append, lay_len, lay_sz, Nat.reduceAdd, Nat.reduceSub, Nat.reduceMul, Int.reduceToNat, Int.reduceLE, Int.reduceLT, Int.reduceEq, Int.reduceAdd, Int.reduceSub, Int.reduceMul, Int.reduceNeg, Nat.reduceLeDiff, Nat.reduceLT, true_and, and_true, false_and, and_false, qcat_0, qcat_1, qcat_3, qcat_9, Nat.reduceEqDiff, if_true, if_false, ite_self, or_true, true_or, or_false, false_or, forall_const, not_true_eq_false, not_false_eq_true, false_implies, implies_true, qtK0, qtK1, qtK2, qtK3, qtK4, List.getD_cons_zero, List.getD_cons_succ, hx, Int.toNat_natCast, ne_eq, qcK, hs, bi_f, bi_t, hn, b1, b2, c1, c2, w4]
              exact hi
            · by_cases c3 : X 76 k < t
              · rw [decide_eq_false (by omega)] at hi
                simp only [YK, c137, t137, c104, t104, cl104, tgK, lyK, rkK, wK, rfK, hr, qRes_eq, qNon_eq, qup_ap, vup_ap, vcpy_ap, kc8_0, kc8_1, kc8_2, lc_lt, lc_gt, lc_eq, Option.toList_some, Option.toList_none, List.cons_append, List.nil_append, lay_len, lay_sz, Nat.reduceAdd, Nat.reduceSub, Nat.reduceMul, Int.reduceToNat, Int.reduceLE, Int.reduceLT, Int.reduceEq, Int.reduceAdd, Int.reduceSub, Int.reduceMul, Int.reduceNeg, Nat.reduceLeDiff, Nat.reduceLT, true_and, and_true, false_and, and_false, qcat_0, qcat_1, qcat_3, qcat_9, Nat.reduceEqDiff, if_true, if_false, ite_self, or_true, true_or, or_false, false_or, forall_const, not_true_eq_false, not_false_eq_true, false_implies, implies_true, qtK0, qtK1, qtK2, qtK3, qtK4, List.getD_cons_zero, List.getD_cons_succ, hx, Int.toNat_natCast, ne_eq, qcK, hs, bi_f, bi_t, hn, b1, b2, c1, c2, c3, w4]
                exact hi
              · rw [decide_eq_true (by omega)] at hi
                simp only [YK, c137, t137, c104, t104, cl104, tgK, lyK, rkK, wK, rfK, hr, qRes_eq, qNon_eq, qup_ap, vup_ap, vcpy_ap, kc8_0, kc8_1, kc8_2, lc_lt, lc_gt, lc_eq, Option.toList_some, Option.toList_none, List.cons_append, List.nil_append, lay_len, lay_sz, Nat.reduceAdd, Nat.reduceSub, Nat.reduceMul, Int.reduceToNat, Int.reduceLE, Int.reduceLT, Int.reduceEq, Int.reduceAdd, Int.reduceSub, Int.reduceMul, Int.reduceNeg, Nat.reduceLeDiff, Nat.reduceLT, true_and, and_true, false_and, and_false, qcat_0, qcat_1, qcat_3, qcat_9, Nat.reduceEqDiff, if_true, if_false, ite_self, or_true, true_or, or_false, false_or, forall_const, not_true_eq_false, not_false_eq_true, false_implies, implies_true, qtK0, qtK1, qtK2, qtK3, qtK4, List.getD_cons_zero, List.getD_cons_succ, hx, Int.toNat_natCast, ne_eq, qcK, hs, bi_f, bi_t, hn, b1, b2, c1, c2, c3, w4, lc3_a, lc3_b]
                exact hi
          · rw [decide_eq_false (fun q => c1 q.1)] at hi
            simp only [YK, c137, t137, c104, t104, cl104, tgK, lyK, rkK, wK, rfK, hr, qRes_eq, qNon_eq, qup_ap, vup_ap, vcpy_ap, kc8_0, kc8_1, kc8_2, lc_lt, lc_gt, lc_eq, Option.toList_some, Option.toList_none, List.cons_append, List.nil_append, lay_len, lay_sz, Nat.reduceAdd, Nat.reduceSub, Nat.reduceMul, Int.reduceToNat, Int.reduceLE, Int.reduceLT, Int.reduceEq, Int.reduceAdd, Int.reduceSub, Int.reduceMul, Int.reduceNeg, Nat.reduceLeDiff, Nat.reduceLT, true_and, and_true, false_and, and_false, qcat_0, qcat_1, qcat_3, qcat_9, Nat.reduceEqDiff, if_true, if_false, ite_self, or_true, true_or, or_false, false_or, forall_const, not_true_eq_false, not_false_eq_true, false_implies, implies_true, qtK0, qtK1, qtK2, qtK3, qtK4, List.getD_cons_zero, List.getD_cons_succ, hx, Int.toNat_natCast, ne_eq, qcK, hs, bi_f, bi_t, hn, b1, b2, c1, w4]
            exact hi
        · rw [hs, Bool.true_or] at hi
          simp only [YK, c137, t137, tgK, lyK, rkK, wK, rfK, hr, qRes_eq, qNon_eq, qup_ap, vup_ap, vcpy_ap, kc8_0, kc8_1, kc8_2, lc_lt, lc_gt, lc_eq, Option.toList_some, Option.toList_none, List.cons_append, List.nil_append, lay_len, lay_sz, Nat.reduceAdd, Nat.reduceSub, Nat.reduceMul, Int.reduceToNat, Int.reduceLE, Int.reduceLT, Int.reduceEq, Int.reduceAdd, Int.reduceSub, Int.reduceMul, Int.reduceNeg, Nat.reduceLeDiff, Nat.reduceLT, true_and, and_true, false_and, and_false, qcat_0, qcat_1, qcat_3, qcat_9, Nat.reduceEqDiff, if_true, if_false, ite_self, or_true, true_or, or_false, false_or, forall_const, not_true_eq_false, not_false_eq_true, false_implies, implies_true, qtK0, qtK1, qtK2, qtK3, qtK4, List.getD_cons_zero, List.getD_cons_succ, hx, Int.toNat_natCast, ne_eq, qcK, hs, bi_f, bi_t, hn, b1, b2, w4]
          exact hi
    simp only [YK, c137, t137, tgK, lyK, rkK, wK, rfK, hr, qRes_eq, qNon_eq, qup_ap, vup_ap, vcpy_ap, kc8_0, kc8_1, kc8_2, lc_lt, lc_gt, lc_eq, Option.toList_some, Option.toList_none, List.cons_append, List.nil_append, lay_len, lay_sz, Nat.reduceAdd, Nat.reduceSub, Nat.reduceMul, Int.reduceToNat, Int.reduceLE, Int.reduceLT, Int.reduceEq, Int.reduceAdd, Int.reduceSub, Int.reduceMul, Int.reduceNeg, Nat.reduceLeDiff, Nat.reduceLT, true_and, and_true, false_and, and_false, qcat_0, qcat_1, qcat_3, qcat_9, Nat.reduceEqDiff, if_true, if_false, ite_self, or_true, true_or, or_false, false_or, forall_const, not_true_eq_false, not_false_eq_true, false_implies, implies_true, qtK0, qtK1, qtK2, qtK3, qtK4, List.getD_cons_zero, List.getD_cons_succ, hx, Int.toNat_natCast, ne_eq, qcK, c0]
    exact hloop ns 0 (by omega)
  · rw [if_neg c0] at hk
    by_cases c1 : (i1 (i1 (X 69 41) >>> (i1 h &&& 31)).toInt &&& i1 1).toInt = 1
    · have e : hasB (X 69 41) h = true := decide_eq_true c1
      rw [e] at hk
      simp only [YK, c137, t137, c105, t105, cl105, tgK, lyK, rkK, wK, rfK, hr, qRes_eq, qNon_eq, qup_ap, vup_ap, vcpy_ap, kc8_0, kc8_1, kc8_2, lc_lt, lc_gt, lc_eq, Option.toList_some, Option.toList_none, List.cons_append, List.nil_append, lay_len, lay_sz, Nat.reduceAdd, Nat.reduceSub, Nat.reduceMul, Int.reduceToNat, Int.reduceLE, Int.reduceLT, Int.reduceEq, Int.reduceAdd, Int.reduceSub, Int.reduceMul, Int.reduceNeg, Nat.reduceLeDiff, Nat.reduceLT, true_and, and_true, false_and, and_false, qcat_0, qcat_1, qcat_3, qcat_9, Nat.reduceEqDiff, if_true, if_false, ite_self, or_true, true_or, or_false, false_or, forall_const, not_true_eq_false, not_false_eq_true, false_implies, implies_true, qtK0, qtK1, qtK2, qtK3, qtK4, List.getD_cons_zero, List.getD_cons_succ, hx, Int.toNat_natCast, ne_eq, qcK, c0, c1]
      exact hk
    · have e : hasB (X 69 41) h = false := decide_eq_false c1
      rw [e] at hk
      simp only [YK, c137, t137, c105, t105, cl105, tgK, lyK, rkK, wK, rfK, hr, qRes_eq, qNon_eq, qup_ap, vup_ap, vcpy_ap, kc8_0, kc8_1, kc8_2, lc_lt, lc_gt, lc_eq, Option.toList_some, Option.toList_none, List.cons_append, List.nil_append, lay_len, lay_sz, Nat.reduceAdd, Nat.reduceSub, Nat.reduceMul, Int.reduceToNat, Int.reduceLE, Int.reduceLT, Int.reduceEq, Int.reduceAdd, Int.reduceSub, Int.reduceMul, Int.reduceNeg, Nat.reduceLeDiff, Nat.reduceLT, true_and, and_true, false_and, and_false, qcat_0, qcat_1, qcat_3, qcat_9, Nat.reduceEqDiff, if_true, if_false, ite_self, or_true, true_or, or_false, false_or, forall_const, not_true_eq_false, not_false_eq_true, false_implies, implies_true, qtK0, qtK1, qtK2, qtK3, qtK4, List.getD_cons_zero, List.getD_cons_succ, hx, Int.toNat_natCast, ne_eq, qcK, c0, c1]
      exact hk
