/-! the reference: the ways of a tick -/
def itr (f : Nat → XT × LT → XT × LT) : Nat → XT × LT → XT × LT
  | 0, S => S
  | n + 1, S => f n (itr f n S)
theorem itr_P {f : Nat → XT × LT → XT × LT} {P : XT × LT → Prop} {n : Nat} {S : XT × LT} (hS : P S) (hf : ∀ i S, i < n → P S → P (f i S)) : ∀ k, k ≤ n → P (itr f k S) := by
  intro k
  induction k with
  | zero => intro _; exact hS
  | succ k ih => intro hk; exact hf k _ (by omega) (ih (by omega))
def pEnds (n ns : Nat) (t : Int) (S : XT × LT) : XT × LT := itr (fun h S => pEndsH n ns h t 3 S) n S
theorem r142 {tb : qTb} {C X F : XT} {L : LT} {R : Option qV → qM → Prop} (hR : RR C X L F) (n ns : Nat) (t : Int) (P : XT × LT → Prop) (hPS : P (X, L)) (hP : ∀ h S, h < n → P S → S.1 69 2 = (n : Int) ∧ n ≤ 4 ∧ Srt t (S.2 2 h) ∧ (endsB S.2 h t = true → EndC n ns S.1 h ((S.2 1 h).getD 0 0) t ∧ P (pEndOne n ns (pPop S h) h ((S.2 1 h).getD 0 0) t) ∧ ((pEndOne n ns (pPop S h) h ((S.2 1 h).getD 0 0) t).2 1 h).length < (S.2 1 h).length))
    (hX : X 69 2 = (n : Int)) (hn4 : n ≤ 4) (hk : ∀ F2, RR C (pEnds n ns t (X, L)).1 (pEnds n ns t (X, L)).2 F2 → P (pEnds n ns t (X, L)) → R none (LAY, F2)) (hc2 : ∀ S, P S → S.1 69 2 = (n : Int)) : qW tb 142 (119, 1262) 0 [(3, 69), (0, t), (9, 0), (9, 0), (9, 0), (9, 0)] [] (LAY, F) R := by
  have hr := Rf_k hR.rf
  have hx := hR.k
  have hPH : ∀ h f S, h < n → P S → P (pEndsH n ns h t f S) := by
    intro h f
    induction f with
    | zero => intro S _ hS; exact hS
    | succ f ih =>
      intro S hh hS
      unfold pEndsH
      by_cases c : endsB S.2 h t = true
      · rw [if_pos c]
        exact ih _ hh ((hP h S hh hS).2.2.2 c).2.1
      · rw [if_neg c]; exact hS
  have hloop : ∀ (m h : Nat) (F : XT) (v3 v4 v5 : qV), h + m = n → RR C (itr (fun h S => pEndsH n ns h t 3 S) h (X, L)).1 (itr (fun h S => pEndsH n ns h t 3 S) h (X, L)).2 F → P (itr (fun h S => pEndsH n ns h t 3 S) h (X, L)) → qW tb 142 (119, 1262) 2 [(3, 69), (0, t), (0, (h : Int)), v3, v4, v5] [] (LAY, F) R := by
    intro m
    induction m with
    | zero =>
      intro h F v3 v4 v5 he hR hPh
      have hr := Rf_k hR.rf
      have hx := hR.k
      have hn := hc2 _ hPh
      have b1 : ((h : Int) < (n : Int)) = False := eq_false (by omega)
      have e : h = n := by omega
      subst e
      have hq := hk F hR hPh
      rw [h142_2]
      simp only [YK, c142, t142, tgK, lyK, rkK, wK, rfK, hr, qRes_eq, qNon_eq, qup_ap, vup_ap, vcpy_ap, kc8_0, kc8_1, kc8_2, lc_lt, lc_gt, lc_eq, Option.toList_some, Option.toList_none, List.cons_append, List.nil_append, lay_len, lay_sz, Nat.reduceAdd, Nat.reduceSub, Nat.reduceMul, Int.reduceToNat, Int.reduceLE, Int.reduceLT, Int.reduceEq, Int.reduceAdd, Int.reduceSub, Int.reduceMul, Int.reduceNeg, Nat.reduceLeDiff, Nat.reduceLT, true_and, and_true, false_and, and_false, qcat_0, qcat_1, qcat_3, qcat_9, Nat.reduceEqDiff, if_true, if_false, ite_self, or_true, true_or, or_false, false_or, forall_const, not_true_eq_false, not_false_eq_true, false_implies, implies_true, qtK0, qtK1, qtK2, qtK3, qtK4, List.getD_cons_zero, List.getD_cons_succ, hx, Int.toNat_natCast, ne_eq, qcK, hn, b1]
      exact hq
    | succ m ih =>
      intro h F v3 v4 v5 he hR hPh
      have hr := Rf_k hR.rf
      have hx := hR.k
      have hn := hc2 _ hPh
      have hh : h < 4 := by omega
      have b1 : ((h : Int) < (n : Int)) = True := eq_true (by omega)
      rw [h142_2]
      simp only [YK, c142, t142, tgK, lyK, rkK, wK, rfK, hr, qRes_eq, qNon_eq, qup_ap, vup_ap, vcpy_ap, kc8_0, kc8_1, kc8_2, lc_lt, lc_gt, lc_eq, Option.toList_some, Option.toList_none, List.cons_append, List.nil_append, lay_len, lay_sz, Nat.reduceAdd, Nat.reduceSub, Nat.reduceMul, Int.reduceToNat, Int.reduceLE, Int.reduceLT, Int.reduceEq, Int.reduceAdd, Int.reduceSub, Int.reduceMul, Int.reduceNeg, Nat.reduceLeDiff, Nat.reduceLT, true_and, and_true, false_and, and_false, qcat_0, qcat_1, qcat_3, qcat_9, Nat.reduceEqDiff, if_true, if_false, ite_self, or_true, true_or, or_false, false_or, forall_const, not_true_eq_false, not_false_eq_true, false_implies, implies_true, qtK0, qtK1, qtK2, qtK3, qtK4, List.getD_cons_zero, List.getD_cons_succ, hx, Int.toNat_natCast, ne_eq, qcK, hn, b1]
      refine r142h n ns h hh t P (fun S hS => (hP h S (by omega) hS).2.2) (9, 0) (9, 0) 3 _ F hR hPh (hR.2.2.2 h hh).2.2.2.2.2.2.1 ?_ v4 v5
      intro F2 v3 v4 v5 hF2
      exact ih (h + 1) F2 (0, v3) v4 v5 (by omega) hF2 (hPH h 3 _ (by omega) hPh)
  simp only [YK, c142, t142, tgK, lyK, rkK, wK, rfK, hr, qRes_eq, qNon_eq, qup_ap, vup_ap, vcpy_ap, kc8_0, kc8_1, kc8_2, lc_lt, lc_gt, lc_eq, Option.toList_some, Option.toList_none, List.cons_append, List.nil_append, lay_len, lay_sz, Nat.reduceAdd, Nat.reduceSub, Nat.reduceMul, Int.reduceToNat, Int.reduceLE, Int.reduceLT, Int.reduceEq, Int.reduceAdd, Int.reduceSub, Int.reduceMul, Int.reduceNeg, Nat.reduceLeDiff, Nat.reduceLT, true_and, and_true, false_and, and_false, qcat_0, qcat_1, qcat_3, qcat_9, Nat.reduceEqDiff, if_true, if_false, ite_self, or_true, true_or, or_false, false_or, forall_const, not_true_eq_false, not_false_eq_true, false_implies, implies_true, qtK0, qtK1, qtK2, qtK3, qtK4, List.getD_cons_zero, List.getD_cons_succ, hx, Int.toNat_natCast, ne_eq, qcK]
  exact hloop n 0 F _ _ _ (by omega) hR hPS
def pLim (n : Nat) (t : Int) (a : Nat) (S : XT × LT) : XT × LT := if S.1 98 a = 1 ∧ w32 (S.1 96 a + S.1 79 a) ≤ t then (qup (qup S.1 98 a 4) 99 a t, dropTo (a : Int) S.2 n) else S
def pLims (n na : Nat) (t : Int) (S : XT × LT) : XT × LT := itr (pLim n t) na S
theorem r143 {tb : qTb} {C X F : XT} {L : LT} {R : Option qV → qM → Prop} (hR : RR C X L F) (n na : Nat) (t : Int) (P : XT × LT → Prop) (hPS : P (X, L)) (hP : ∀ a S, a < na → P S → P (pLim n t a S)) (hc : ∀ S, P S → S.1 69 2 = (n : Int) ∧ n ≤ 4 ∧ S.1 69 3 = (na : Int) ∧ na ≤ 12) (hk : ∀ F2, RR C (pLims n na t (X, L)).1 (pLims n na t (X, L)).2 F2 → P (pLims n na t (X, L)) → R none (LAY, F2)) : qW tb 143 (119, 1262) 0 [(3, 69), (0, t), (9, 0)] [] (LAY, F) R := by
  have hr := Rf_k hR.rf
  have hx := hR.k
  have hloop : ∀ (m a : Nat) (F : XT), a + m = na → RR C (itr (pLim n t) a (X, L)).1 (itr (pLim n t) a (X, L)).2 F → P (itr (pLim n t) a (X, L)) → qW tb 143 (119, 1262) 2 [(3, 69), (0, t), (0, (a : Int))] [] (LAY, F) R := by
    intro m
    induction m with
    | zero =>
      intro a F he hR hPa
      have hr := Rf_k hR.rf
      have hx := hR.k
      obtain ⟨g1, g2, g3, g4⟩ := hc _ hPa
      have b1 : ((a : Int) < (na : Int)) = False := eq_false (by omega)
      have e : a = na := by omega
      subst e
      have hq := hk F hR hPa
      rw [h143_2]
      simp only [YK, c143, t143, tgK, lyK, rkK, wK, rfK, hr, qRes_eq, qNon_eq, qup_ap, vup_ap, vcpy_ap, kc8_0, kc8_1, kc8_2, lc_lt, lc_gt, lc_eq, Option.toList_some, Option.toList_none, List.cons_append, List.nil_append, lay_len, lay_sz, Nat.reduceAdd, Nat.reduceSub, Nat.reduceMul, Int.reduceToNat, Int.reduceLE, Int.reduceLT, Int.reduceEq, Int.reduceAdd, Int.reduceSub, Int.reduceMul, Int.reduceNeg, Nat.reduceLeDiff, Nat.reduceLT, true_and, and_true, false_and, and_false, qcat_0, qcat_1, qcat_3, qcat_9, Nat.reduceEqDiff, if_true, if_false, ite_self, or_true, true_or, or_false, false_or, forall_const, not_true_eq_false, not_false_eq_true, false_implies, implies_true, qtK0, qtK1, qtK2, qtK3, qtK4, List.getD_cons_zero, List.getD_cons_succ, hx, Int.toNat_natCast, ne_eq, qcK, g3, b1]
      exact hq
    | succ m ih =>
      intro a F he hR hPa
      have hr := Rf_k hR.rf
      have hx := hR.k
      obtain ⟨g1, g2, g3, g4⟩ := hc _ hPa
      have b1 : ((a : Int) < (na : Int)) = True := eq_true (by omega)
      have b2 : (0 ≤ (a : Int) ∧ (a : Int) < 12) = True := eq_true (by omega)
      have w1 : w32 ((a : Int) + 1) = ((a + 1 : Nat) : Int) := by rw [w32_id ⟨by omega, by omega⟩]; omega
      have hn := hP a _ (by omega) hPa
      have hi := fun F2 h => ih (a + 1) F2 (by omega) h hn
      unfold itr at hi
      generalize hSS : itr (pLim n t) a (X, L) = S at *
      unfold pLim at hi
      rw [h143_2]
      by_cases c1 : S.1 98 a = 1
      · by_cases c2 : w32 (S.1 96 a + S.1 79 a) ≤ t
        · rw [if_pos ⟨c1, c2⟩] at hi
          have c2' : (t < w32 (S.1 96 a + S.1 79 a)) = False := eq_false (by omega)
          simp only [YK, c143, t143, cl131, tgK, lyK, rkK, wK, rfK, hr, qRes_eq, qNon_eq, qup_ap, vup_ap, vcpy_ap, kc8_0, kc8_1, kc8_2, lc_lt, lc_gt, lc_eq, Option.toList_some, Option.toList_none, List.cons_append, List.nil_append, lay_len, lay_sz, Nat.reduceAdd, Nat.reduceSub, Nat.reduceMul, Int.reduceToNat, Int.reduceLE, Int.reduceLT, Int.reduceEq, Int.reduceAdd, Int.reduceSub, Int.reduceMul, Int.reduceNeg, Nat.reduceLeDiff, Nat.reduceLT, true_and, and_true, false_and, and_false, qcat_0, qcat_1, qcat_3, qcat_9, Nat.reduceEqDiff, if_true, if_false, ite_self, or_true, true_or, or_false, false_or, forall_const, not_true_eq_false, not_false_eq_true, false_implies, implies_true, qtK0, qtK1, qtK2, qtK3, qtK4, List.getD_cons_zero, List.getD_cons_succ, hx, Int.toNat_natCast, ne_eq, qcK, g3, b1, b2, c1, c2', w1]
          refine r131 ((hR.upA a 4 (c := 98) (by unfold nl; decide) (by decide)).upA a t (c := 99) (by unfold nl; decide) (by decide)) (a : Int) n g1 g2 ?_
          intro F2 hF2
          have hq := hi F2 hF2
          simp only [YK, c143, t143, tgK, lyK, rkK, wK, rfK, qRes_eq, qNon_eq, qup_ap, vup_ap, vcpy_ap, kc8_0, kc8_1, kc8_2, lc_lt, lc_gt, lc_eq, Option.toList_some, Option.toList_none, List.cons_append, List.nil_append, lay_len, lay_sz, Nat.reduceAdd, Nat.reduceSub, Nat.reduceMul, Int.reduceToNat, Int.reduceLE, Int.reduceLT, Int.reduceEq, Int.reduceAdd, Int.reduceSub, Int.reduceMul, Int.reduceNeg, Nat.reduceLeDiff, Nat.reduceLT, true_and, and_true, false_and, and_false, qcat_0, qcat_1, qcat_3, qcat_9, Nat.reduceEqDiff, if_true, if_false, ite_self, or_true, true_or, or_false, false_or, forall_const, not_true_eq_false, not_false_eq_true, false_implies, implies_true, qtK0, qtK1, qtK2, qtK3, qtK4, List.getD_cons_zero, List.getD_cons_succ, Int.toNat_natCast, ne_eq, qcK, w1]
          exact hq
        · rw [if_neg (fun q => c2 q.2)] at hi
          have c2' : (t < w32 (S.1 96 a + S.1 79 a)) = True := eq_true (by omega)
          have hq := hi F hR
          simp only [YK, c143, t143, cl131, tgK, lyK, rkK, wK, rfK, hr, qRes_eq, qNon_eq, qup_ap, vup_ap, vcpy_ap, kc8_0, kc8_1, kc8_2, lc_lt, lc_gt, lc_eq, Option.toList_some, Option.toList_none, List.cons_append, List.nil_append, lay_len, lay_sz, Nat.reduceAdd, Nat.reduceSub, Nat.reduceMul, Int.reduceToNat, Int.reduceLE, Int.reduceLT, Int.reduceEq, Int.reduceAdd, Int.reduceSub, Int.reduceMul, Int.reduceNeg, Nat.reduceLeDiff, Nat.reduceLT, true_and, and_true, false_and, and_false, qcat_0, qcat_1, qcat_3, qcat_9, Nat.reduceEqDiff, if_true, if_false, ite_self, or_true, true_or, or_false, false_or, forall_const, not_true_eq_false, not_false_eq_true, false_implies, implies_true, qtK0, qtK1, qtK2, qtK3, qtK4, List.getD_cons_zero, List.getD_cons_succ, hx, Int.toNat_natCast, ne_eq, qcK, g3, b1, b2, c1, c2', w1]
          exact hq
      · rw [if_neg (fun q => c1 q.1)] at hi
        have hq := hi F hR
        simp only [YK, c143, t143, tgK, lyK, rkK, wK, rfK, hr, qRes_eq, qNon_eq, qup_ap, vup_ap, vcpy_ap, kc8_0, kc8_1, kc8_2, lc_lt, lc_gt, lc_eq, Option.toList_some, Option.toList_none, List.cons_append, List.nil_append, lay_len, lay_sz, Nat.reduceAdd, Nat.reduceSub, Nat.reduceMul, Int.reduceToNat, Int.reduceLE, Int.reduceLT, Int.reduceEq, Int.reduceAdd, Int.reduceSub, Int.reduceMul, Int.reduceNeg, Nat.reduceLeDiff, Nat.reduceLT, true_and, and_true, false_and, and_false, qcat_0, qcat_1, qcat_3, qcat_9, Nat.reduceEqDiff, if_true, if_false, ite_self, or_true, true_or, or_false, false_or, forall_const, not_true_eq_false, not_false_eq_true, false_implies, implies_true, qtK0, qtK1, qtK2, qtK3, qtK4, List.getD_cons_zero, List.getD_cons_succ, hx, Int.toNat_natCast, ne_eq, qcK, g3, b1, b2, c1, w1]
        exact hq
  simp only [YK, c143, t143, tgK, lyK, rkK, wK, rfK, hr, qRes_eq, qNon_eq, qup_ap, vup_ap, vcpy_ap, kc8_0, kc8_1, kc8_2, lc_lt, lc_gt, lc_eq, Option.toList_some, Option.toList_none, List.cons_append, List.nil_append, lay_len, lay_sz, Nat.reduceAdd, Nat.reduceSub, Nat.reduceMul, Int.reduceToNat, Int.reduceLE, Int.reduceLT, Int.reduceEq, Int.reduceAdd, Int.reduceSub, Int.reduceMul, Int.reduceNeg, Nat.reduceLeDiff, Nat.reduceLT, true_and, and_true, false_and, and_false, qcat_0, qcat_1, qcat_3, qcat_9, Nat.reduceEqDiff, if_true, if_false, ite_self, or_true, true_or, or_false, false_or, forall_const, not_true_eq_false, not_false_eq_true, false_implies, implies_true, qtK0, qtK1, qtK2, qtK3, qtK4, List.getD_cons_zero, List.getD_cons_succ, hx, Int.toNat_natCast, ne_eq, qcK]
  exact hloop na 0 F (by omega) hR hPS
/-- what must be so that a copy may be sent -/
def SendC (n na : Nat) (S : XT × LT) : Prop := S.1 69 2 = (n : Int) ∧ n ≤ 4 ∧ S.1 69 3 = (na : Int) ∧ na ≤ 12 ∧ (∀ h : Nat, h < 4 → ∀ b ∈ S.2 0 h, 0 ≤ b ∧ b < 12) ∧ (∀ h : Nat, h < 4 → (S.2 0 h).length < 16)
def bud (b g : Int) : Int := if 80 < w32 (b + g) then 80 else w32 (b + g)
def pCom (n : Nat) (t : Int) (a : Nat) (S : XT × LT) : XT × LT := if S.1 96 a = t then pSend n (qup (qup (qup S.1 98 a 1) 69 62 (bud (S.1 69 62) (S.1 97 1))) 101 a 1, S.2) (a : Int) t else S
def pComs (n na : Nat) (t : Int) (S : XT × LT) : XT × LT := itr (pCom n t) na S
theorem r144 {tb : qTb} {C X F : XT} {L : LT} {R : Option qV → qM → Prop} (hR : RR C X L F) (n na : Nat) (t : Int) (P : XT × LT → Prop) (hPS : P (X, L)) (hP : ∀ a S, a < na → P S → P (pCom n t a S)) (hc : ∀ S, P S → SendC n na S) (hk : ∀ F2, RR C (pComs n na t (X, L)).1 (pComs n na t (X, L)).2 F2 → P (pComs n na t (X, L)) → R none (LAY, F2)) : qW tb 144 (119, 1262) 0 [(3, 69), (0, t), (9, 0)] [] (LAY, F) R := by
  have hr := Rf_k hR.rf
  have hx := hR.k
  have hloop : ∀ (m a : Nat) (F : XT), a + m = na → RR C (itr (pCom n t) a (X, L)).1 (itr (pCom n t) a (X, L)).2 F → P (itr (pCom n t) a (X, L)) → qW tb 144 (119, 1262) 2 [(3, 69), (0, t), (0, (a : Int))] [] (LAY, F) R := by
    intro m
    induction m with
    | zero =>
      intro a F he hR hPa
      have hr := Rf_k hR.rf
      have hx := hR.k
      obtain ⟨g1, g2, g3, g4, g5, g6⟩ := hc _ hPa
      have b1 : ((a : Int) < (na : Int)) = False := eq_false (by omega)
      have e : a = na := by omega
      subst e
      have hq := hk F hR hPa
      rw [h144_2]
      simp only [YK, c144, t144, tgK, lyK, rkK, wK, rfK, hr, qRes_eq, qNon_eq, qup_ap, vup_ap, vcpy_ap, kc8_0, kc8_1, kc8_2, lc_lt, lc_gt, lc_eq, Option.toList_some, Option.toList_none, List.cons_append, List.nil_append, lay_len, lay_sz, Nat.reduceAdd, Nat.reduceSub, Nat.reduceMul, Int.reduceToNat, Int.reduceLE, Int.reduceLT, Int.reduceEq, Int.reduceAdd, Int.reduceSub, Int.reduceMul, Int.reduceNeg, Nat.reduceLeDiff, Nat.reduceLT, true_and, and_true, false_and, and_false, qcat_0, qcat_1, qcat_3, qcat_9, Nat.reduceEqDiff, if_true, if_false, ite_self, or_true, true_or, or_false, false_or, forall_const, not_true_eq_false, not_false_eq_true, false_implies, implies_true, qtK0, qtK1, qtK2, qtK3, qtK4, List.getD_cons_zero, List.getD_cons_succ, hx, Int.toNat_natCast, ne_eq, qcK, g3, b1]
      exact hq
    | succ m ih =>
      intro a F he hR hPa
      have hr := Rf_k hR.rf
      have hx := hR.k
      obtain ⟨g1, g2, g3, g4, g5, g6⟩ := hc _ hPa
      have b1 : ((a : Int) < (na : Int)) = True := eq_true (by omega)
      have b2 : (0 ≤ (a : Int) ∧ (a : Int) < 12) = True := eq_true (by omega)
      have w1 : w32 ((a : Int) + 1) = ((a + 1 : Nat) : Int) := by rw [w32_id ⟨by omega, by omega⟩]; omega
      have hn := hP a _ (by omega) hPa
      have hi := fun F2 h => ih (a + 1) F2 (by omega) h hn
      unfold itr at hi
      generalize hSS : itr (pCom n t) a (X, L) = S at *
      unfold pCom at hi
      rw [h144_2]
      by_cases c1 : S.1 96 a = t
      · rw [if_pos c1] at hi
        have hY := fun v => ((hR.upA a 1 (c := 98) (by unfold nl; decide) (by decide)).up v (c := 69) (j := 62) (by unfold nl; decide) (by decide)).upA a 1 (c := 101) (by unfold nl; decide) (by decide)
        by_cases c2 : 80 < w32 (S.1 69 62 + S.1 97 1)
        · have e2 : bud (S.1 69 62) (S.1 97 1) = 80 := if_pos c2
          rw [e2] at hi
          simp only [YK, c144, t144, cl136, tgK, lyK, rkK, wK, rfK, hr, qRes_eq, qNon_eq, qup_ap, vup_ap, vcpy_ap, kc8_0, kc8_1, kc8_2, lc_lt, lc_gt, lc_eq, Option.toList_some, Option.toList_none, List.cons_append, List.nil_append, lay_len, lay_sz, Nat.reduceAdd, Nat.reduceSub, Nat.reduceMul, Int.reduceToNat, Int.reduceLE, Int.reduceLT, Int.reduceEq, Int.reduceAdd, Int.reduceSub, Int.reduceMul, Int.reduceNeg, Nat.reduceLeDiff, Nat.reduceLT, true_and, and_true, false_and, and_false, qcat_0, qcat_1, qcat_3, qcat_9, Nat.reduceEqDiff, if_true, if_false, ite_self, or_true, true_or, or_false, false_or, forall_const, not_true_eq_false, not_false_eq_true, false_implies, implies_true, qtK0, qtK1, qtK2, qtK3, qtK4, List.getD_cons_zero, List.getD_cons_succ, hx, Int.toNat_natCast, ne_eq, qcK, g3, b1, b2, c1, c2]
          refine r136 (hY 80) (a : Int) t n g1 g2 ⟨by omega, by omega⟩ g5 g6 ?_
          intro F2 hF2
          have hq := hi F2 hF2
          simp only [YK, c144, t144, tgK, lyK, rkK, wK, rfK, qRes_eq, qNon_eq, qup_ap, vup_ap, vcpy_ap, kc8_0, kc8_1, kc8_2, lc_lt, lc_gt, lc_eq, Option.toList_some, Option.toList_none, List.cons_append, List.nil_append, lay_len, lay_sz, Nat.reduceAdd, Nat.reduceSub, Nat.reduceMul, Int.reduceToNat, Int.reduceLE, Int.reduceLT, Int.reduceEq, Int.reduceAdd, Int.reduceSub, Int.reduceMul, Int.reduceNeg, Nat.reduceLeDiff, Nat.reduceLT, true_and, and_true, false_and, and_false, qcat_0, qcat_1, qcat_3, qcat_9, Nat.reduceEqDiff, if_true, if_false, ite_self, or_true, true_or, or_false, false_or, forall_const, not_true_eq_false, not_false_eq_true, false_implies, implies_true, qtK0, qtK1, qtK2, qtK3, qtK4, List.getD_cons_zero, List.getD_cons_succ, Int.toNat_natCast, ne_eq, qcK, w1]
          exact hq
        · have e2 : bud (S.1 69 62) (S.1 97 1) = w32 (S.1 69 62 + S.1 97 1) := if_neg c2
          rw [e2] at hi
          simp only [YK, c144, t144, cl136, tgK, lyK, rkK, wK, rfK, hr, qRes_eq, qNon_eq, qup_ap, vup_ap, vcpy_ap, kc8_0, kc8_1, kc8_2, lc_lt, lc_gt, lc_eq, Option.toList_some, Option.toList_none, List.cons_append, List.nil_append, lay_len, lay_sz, Nat.reduceAdd, Nat.reduceSub, Nat.reduceMul, Int.reduceToNat, Int.reduceLE, Int.reduceLT, Int.reduceEq, Int.reduceAdd, Int.reduceSub, Int.reduceMul, Int.reduceNeg, Nat.reduceLeDiff, Nat.reduceLT, true_and, and_true, false_and, and_false, qcat_0, qcat_1, qcat_3, qcat_9, Nat.reduceEqDiff, if_true, if_false, ite_self, or_true, true_or, or_false, false_or, forall_const, not_true_eq_false, not_false_eq_true, false_implies, implies_true, qtK0, qtK1, qtK2, qtK3, qtK4, List.getD_cons_zero, List.getD_cons_succ, hx, Int.toNat_natCast, ne_eq, qcK, g3, b1, b2, c1, c2]
          refine r136 (hY _) (a : Int) t n g1 g2 ⟨by omega, by omega⟩ g5 g6 ?_
          intro F2 hF2
          have hq := hi F2 hF2
          simp only [YK, c144, t144, tgK, lyK, rkK, wK, rfK, qRes_eq, qNon_eq, qup_ap, vup_ap, vcpy_ap, kc8_0, kc8_1, kc8_2, lc_lt, lc_gt, lc_eq, Option.toList_some, Option.toList_none, List.cons_append, List.nil_append, lay_len, lay_sz, Nat.reduceAdd, Nat.reduceSub, Nat.reduceMul, Int.reduceToNat, Int.reduceLE, Int.reduceLT, Int.reduceEq, Int.reduceAdd, Int.reduceSub, Int.reduceMul, Int.reduceNeg, Nat.reduceLeDiff, Nat.reduceLT, true_and, and_true, false_and, and_false, qcat_0, qcat_1, qcat_3, qcat_9, Nat.reduceEqDiff, if_true, if_false, ite_self, or_true, true_or, or_false, false_or, forall_const, not_true_eq_false, not_false_eq_true, false_implies, implies_true, qtK0, qtK1, qtK2, qtK3, qtK4, List.getD_cons_zero, List.getD_cons_succ, Int.toNat_natCast, ne_eq, qcK, w1]
          exact hq
      · rw [if_neg c1] at hi
        have hq := hi F hR
        simp only [YK, c144, t144, tgK, lyK, rkK, wK, rfK, hr, qRes_eq, qNon_eq, qup_ap, vup_ap, vcpy_ap, kc8_0, kc8_1, kc8_2, lc_lt, lc_gt, lc_eq, Option.toList_some, Option.toList_none, List.cons_append, List.nil_append, lay_len, lay_sz, Nat.reduceAdd, Nat.reduceSub, Nat.reduceMul, Int.reduceToNat, Int.reduceLE, Int.reduceLT, Int.reduceEq, Int.reduceAdd, Int.reduceSub, Int.reduceMul, Int.reduceNeg, Nat.reduceLeDiff, Nat.reduceLT, true_and, and_true, false_and, and_false, qcat_0, qcat_1, qcat_3, qcat_9, Nat.reduceEqDiff, if_true, if_false, ite_self, or_true, true_or, or_false, false_or, forall_const, not_true_eq_false, not_false_eq_true, false_implies, implies_true, qtK0, qtK1, qtK2, qtK3, qtK4, List.getD_cons_zero, List.getD_cons_succ, hx, Int.toNat_natCast, ne_eq, qcK, g3, b1, b2, c1, w1]
        exact hq
  simp only [YK, c144, t144, tgK, lyK, rkK, wK, rfK, hr, qRes_eq, qNon_eq, qup_ap, vup_ap, vcpy_ap, kc8_0, kc8_1, kc8_2, lc_lt, lc_gt, lc_eq, Option.toList_some, Option.toList_none, List.cons_append, List.nil_append, lay_len, lay_sz, Nat.reduceAdd, Nat.reduceSub, Nat.reduceMul, Int.reduceToNat, Int.reduceLE, Int.reduceLT, Int.reduceEq, Int.reduceAdd, Int.reduceSub, Int.reduceMul, Int.reduceNeg, Nat.reduceLeDiff, Nat.reduceLT, true_and, and_true, false_and, and_false, qcat_0, qcat_1, qcat_3, qcat_9, Nat.reduceEqDiff, if_true, if_false, ite_self, or_true, true_or, or_false, false_or, forall_const, not_true_eq_false, not_false_eq_true, false_implies, implies_true, qtK0, qtK1, qtK2, qtK3, qtK4, List.getD_cons_zero, List.getD_cons_succ, hx, Int.toNat_natCast, ne_eq, qcK]
  exact hloop na 0 F (by omega) hR hPS
def pAgn (n : Nat) (t : Int) (a : Nat) (S : XT × LT) : XT × LT := if S.1 98 a = 1 ∧ cpTo S.2 (a : Int) n = 0 then (if S.1 101 a < S.1 97 0 ∧ 8 ≤ S.1 69 62 then pSend n (qup (qup (qup S.1 69 62 (w32 (S.1 69 62 - 8))) 101 a (w32 (S.1 101 a + 1))) 69 65 (w32 (S.1 69 65 + 1)), S.2) (a : Int) t else (qup (qup S.1 98 a 3) 99 a t, S.2)) else S
def pAgns (n na : Nat) (t : Int) (S : XT × LT) : XT × LT := itr (pAgn n t) na S
theorem r145 {tb : qTb} {C X F : XT} {L : LT} {R : Option qV → qM → Prop} (hR : RR C X L F) (n na : Nat) (t : Int) (P : XT × LT → Prop) (hPS : P (X, L)) (hP : ∀ a S, a < na → P S → P (pAgn n t a S)) (hc : ∀ S, P S → SendC n na S) (hk : ∀ F2, RR C (pAgns n na t (X, L)).1 (pAgns n na t (X, L)).2 F2 → P (pAgns n na t (X, L)) → R none (LAY, F2)) : qW tb 145 (119, 1262) 0 [(3, 69), (0, t), (9, 0)] [] (LAY, F) R := by
  have hr := Rf_k hR.rf
  have hx := hR.k
  have hloop : ∀ (m a : Nat) (F : XT), a + m = na → RR C (itr (pAgn n t) a (X, L)).1 (itr (pAgn n t) a (X, L)).2 F → P (itr (pAgn n t) a (X, L)) → qW tb 145 (119, 1262) 2 [(3, 69), (0, t), (0, (a : Int))] [] (LAY, F) R := by
    intro m
    induction m with
    | zero =>
      intro a F he hR hPa
      have hr := Rf_k hR.rf
      have hx := hR.k
      obtain ⟨g1, g2, g3, g4, g5, g6⟩ := hc _ hPa
      have b1 : ((a : Int) < (na : Int)) = False := eq_false (by omega)
      have e : a = na := by omega
      subst e
      have hq := hk F hR hPa
      rw [h145_2]
      simp only [YK, c145, t145, tgK, lyK, rkK, wK, rfK, hr, qRes_eq, qNon_eq, qup_ap, vup_ap, vcpy_ap, kc8_0, kc8_1, kc8_2, lc_lt, lc_gt, lc_eq, Option.toList_some, Option.toList_none, List.cons_append, List.nil_append, lay_len, lay_sz, Nat.reduceAdd, Nat.reduceSub, Nat.reduceMul, Int.reduceToNat, Int.reduceLE, Int.reduceLT, Int.reduceEq, Int.reduceAdd, Int.reduceSub, Int.reduceMul, Int.reduceNeg, Nat.reduceLeDiff, Nat.reduceLT, true_and, and_true, false_and, and_false, qcat_0, qcat_1, qcat_3, qcat_9, Nat.reduceEqDiff, if_true, if_false, ite_self, or_true, true_or, or_false, false_or, forall_const, not_true_eq_false, not_false_eq_true, false_implies, implies_true, qtK0, qtK1, qtK2, qtK3, qtK4, List.getD_cons_zero, List.getD_cons_succ, hx, Int.toNat_natCast, ne_eq, qcK, g3, b1]
      exact hq
    | succ m ih =>
      intro a F he hR hPa
      have hr := Rf_k hR.rf
      have hx := hR.k
      obtain ⟨g1, g2, g3, g4, g5, g6⟩ := hc _ hPa
      have b1 : ((a : Int) < (na : Int)) = True := eq_true (by omega)
      have b2 : (0 ≤ (a : Int) ∧ (a : Int) < 12) = True := eq_true (by omega)
      have w1 : w32 ((a : Int) + 1) = ((a + 1 : Nat) : Int) := by rw [w32_id ⟨by omega, by omega⟩]; omega
      have hn := hP a _ (by omega) hPa
      have hi := fun F2 h => ih (a + 1) F2 (by omega) h hn
      unfold itr at hi
      generalize hSS : itr (pAgn n t) a (X, L) = S at *
      unfold pAgn at hi
      rw [h145_2]
      by_cases c1 : S.1 98 a = 1
      · simp only [YK, c145, t145, cl129, tgK, lyK, rkK, wK, rfK, hr, qRes_eq, qNon_eq, qup_ap, vup_ap, vcpy_ap, kc8_0, kc8_1, kc8_2, lc_lt, lc_gt, lc_eq, Option.toList_some, Option.toList_none, List.cons_append, List.nil_append, lay_len, lay_sz, Nat.reduceAdd, Nat.reduceSub, Nat.reduceMul, Int.reduceToNat, Int.reduceLE, Int.reduceLT, Int.reduceEq, Int.reduceAdd, Int.reduceSub, Int.reduceMul, Int.reduceNeg, Nat.reduceLeDiff, Nat.reduceLT, true_and, and_true, false_and, and_false, qcat_0, qcat_1, qcat_3, qcat_9, Nat.reduceEqDiff, if_true, if_false, ite_self, or_true, true_or, or_false, false_or, forall_const, not_true_eq_false, not_false_eq_true, false_implies, implies_true, qtK0, qtK1, qtK2, qtK3, qtK4, List.getD_cons_zero, List.getD_cons_succ, hx, Int.toNat_natCast, ne_eq, qcK, g3, b1, b2, c1, w1]
        refine r129 hR (a : Int) n g1 g2 ?_
        by_cases c2 : cpTo S.2 (a : Int) n = 0
        · rw [if_pos ⟨c1, c2⟩] at hi
          by_cases c3 : S.1 101 a < S.1 97 0
          · by_cases c4 : S.1 69 62 < 8
            · rw [if_neg (by omega)] at hi
              have hq := hi _ ((hR.upA a 3 (c := 98) (by unfold nl; decide) (by decide)).upA a t (c := 99) (by unfold nl; decide) (by decide))
              simp only [YK, c145, t145, cl136, tgK, lyK, rkK, wK, rfK, hr, qRes_eq, qNon_eq, qup_ap, vup_ap, vcpy_ap, kc8_0, kc8_1, kc8_2, lc_lt, lc_gt, lc_eq, Option.toList_some, Option.toList_none, List.cons_append, List.nil_append, lay_len, lay_sz, Nat.reduceAdd, Nat.reduceSub, Nat.reduceMul, Int.reduceToNat, Int.reduceLE, Int.reduceLT, Int.reduceEq, Int.reduceAdd, Int.reduceSub, Int.reduceMul, Int.reduceNeg, Nat.reduceLeDiff, Nat.reduceLT, true_and, and_true, false_and, and_false, qcat_0, qcat_1, qcat_3, qcat_9, Nat.reduceEqDiff, if_true, if_false, ite_self, or_true, true_or, or_false, false_or, forall_const, not_true_eq_false, not_false_eq_true, false_implies, implies_true, qtK0, qtK1, qtK2, qtK3, qtK4, List.getD_cons_zero, List.getD_cons_succ, hx, Int.toNat_natCast, ne_eq, qcK, b2, c2, c3, c4, w1]
              exact hq
            · rw [if_pos ⟨c3, by omega⟩] at hi
              simp only [YK, c145, t145, cl136, tgK, lyK, rkK, wK, rfK, hr, qRes_eq, qNon_eq, qup_ap, vup_ap, vcpy_ap, kc8_0, kc8_1, kc8_2, lc_lt, lc_gt, lc_eq, Option.toList_some, Option.toList_none, List.cons_append, List.nil_append, lay_len, lay_sz, Nat.reduceAdd, Nat.reduceSub, Nat.reduceMul, Int.reduceToNat, Int.reduceLE, Int.reduceLT, Int.reduceEq, Int.reduceAdd, Int.reduceSub, Int.reduceMul, Int.reduceNeg, Nat.reduceLeDiff, Nat.reduceLT, true_and, and_true, false_and, and_false, qcat_0, qcat_1, qcat_3, qcat_9, Nat.reduceEqDiff, if_true, if_false, ite_self, or_true, true_or, or_false, false_or, forall_const, not_true_eq_false, not_false_eq_true, false_implies, implies_true, qtK0, qtK1, qtK2, qtK3, qtK4, List.getD_cons_zero, List.getD_cons_succ, hx, Int.toNat_natCast, ne_eq, qcK, b2, c2, c3, c4, w1]
              refine r136 (((hR.up (w32 (S.1 69 62 - 8)) (c := 69) (j := 62) (by unfold nl; decide) (by decide)).upA a (w32 (S.1 101 a + 1)) (c := 101) (by unfold nl; decide) (by decide)).up (w32 (S.1 69 65 + 1)) (c := 69) (j := 65) (by unfold nl; decide) (by decide)) (a : Int) t n g1 g2 ⟨by omega, by omega⟩ g5 g6 ?_
              intro F2 hF2
              have hq := hi F2 hF2
              simp only [YK, c145, t145, tgK, lyK, rkK, wK, rfK, qRes_eq, qNon_eq, qup_ap, vup_ap, vcpy_ap, kc8_0, kc8_1, kc8_2, lc_lt, lc_gt, lc_eq, Option.toList_some, Option.toList_none, List.cons_append, List.nil_append, lay_len, lay_sz, Nat.reduceAdd, Nat.reduceSub, Nat.reduceMul, Int.reduceToNat, Int.reduceLE, Int.reduceLT, Int.reduceEq, Int.reduceAdd, Int.reduceSub, Int.reduceMul, Int.reduceNeg, Nat.reduceLeDiff, Nat.reduceLT, true_and, and_true, false_and, and_false, qcat_0, qcat_1, qcat_3, qcat_9, Nat.reduceEqDiff, if_true, if_false, ite_self, or_true, true_or, or_false, false_or, forall_const, not_true_eq_false, not_false_eq_true, false_implies, implies_true, qtK0, qtK1, qtK2, qtK3, qtK4, List.getD_cons_zero, List.getD_cons_succ, Int.toNat_natCast, ne_eq, qcK, w1]
              exact hq
          · rw [if_neg (fun q => c3 q.1)] at hi
            have hq := hi _ ((hR.upA a 3 (c := 98) (by unfold nl; decide) (by decide)).upA a t (c := 99) (by unfold nl; decide) (by decide))
            simp only [YK, c145, t145, tgK, lyK, rkK, wK, rfK, hr, qRes_eq, qNon_eq, qup_ap, vup_ap, vcpy_ap, kc8_0, kc8_1, kc8_2, lc_lt, lc_gt, lc_eq, Option.toList_some, Option.toList_none, List.cons_append, List.nil_append, lay_len, lay_sz, Nat.reduceAdd, Nat.reduceSub, Nat.reduceMul, Int.reduceToNat, Int.reduceLE, Int.reduceLT, Int.reduceEq, Int.reduceAdd, Int.reduceSub, Int.reduceMul, Int.reduceNeg, Nat.reduceLeDiff, Nat.reduceLT, true_and, and_true, false_and, and_false, qcat_0, qcat_1, qcat_3, qcat_9, Nat.reduceEqDiff, if_true, if_false, ite_self, or_true, true_or, or_false, false_or, forall_const, not_true_eq_false, not_false_eq_true, false_implies, implies_true, qtK0, qtK1, qtK2, qtK3, qtK4, List.getD_cons_zero, List.getD_cons_succ, hx, Int.toNat_natCast, ne_eq, qcK, b2, c2, c3, w1]
            exact hq
        · rw [if_neg (fun q => c2 q.2)] at hi
          have hq := hi F hR
          simp only [YK, c145, t145, tgK, lyK, rkK, wK, rfK, hr, qRes_eq, qNon_eq, qup_ap, vup_ap, vcpy_ap, kc8_0, kc8_1, kc8_2, lc_lt, lc_gt, lc_eq, Option.toList_some, Option.toList_none, List.cons_append, List.nil_append, lay_len, lay_sz, Nat.reduceAdd, Nat.reduceSub, Nat.reduceMul, Int.reduceToNat, Int.reduceLE, Int.reduceLT, Int.reduceEq, Int.reduceAdd, Int.reduceSub, Int.reduceMul, Int.reduceNeg, Nat.reduceLeDiff, Nat.reduceLT, true_and, and_true, false_and, and_false, qcat_0, qcat_1, qcat_3, qcat_9, Nat.reduceEqDiff, if_true, if_false, ite_self, or_true, true_or, or_false, false_or, forall_const, not_true_eq_false, not_false_eq_true, false_implies, implies_true, qtK0, qtK1, qtK2, qtK3, qtK4, List.getD_cons_zero, List.getD_cons_succ, hx, Int.toNat_natCast, ne_eq, qcK, b2, c2, w1]
          exact hq
      · rw [if_neg (fun q => c1 q.1)] at hi
        have hq := hi F hR
        simp only [YK, c145, t145, cl129, tgK, lyK, rkK, wK, rfK, hr, qRes_eq, qNon_eq, qup_ap, vup_ap, vcpy_ap, kc8_0, kc8_1, kc8_2, lc_lt, lc_gt, lc_eq, Option.toList_some, Option.toList_none, List.cons_append, List.nil_append, lay_len, lay_sz, Nat.reduceAdd, Nat.reduceSub, Nat.reduceMul, Int.reduceToNat, Int.reduceLE, Int.reduceLT, Int.reduceEq, Int.reduceAdd, Int.reduceSub, Int.reduceMul, Int.reduceNeg, Nat.reduceLeDiff, Nat.reduceLT, true_and, and_true, false_and, and_false, qcat_0, qcat_1, qcat_3, qcat_9, Nat.reduceEqDiff, if_true, if_false, ite_self, or_true, true_or, or_false, false_or, forall_const, not_true_eq_false, not_false_eq_true, false_implies, implies_true, qtK0, qtK1, qtK2, qtK3, qtK4, List.getD_cons_zero, List.getD_cons_succ, hx, Int.toNat_natCast, ne_eq, qcK, g3, b1, b2, c1, w1]
        exact hq
  simp only [YK, c145, t145, tgK, lyK, rkK, wK, rfK, hr, qRes_eq, qNon_eq, qup_ap, vup_ap, vcpy_ap, kc8_0, kc8_1, kc8_2, lc_lt, lc_gt, lc_eq, Option.toList_some, Option.toList_none, List.cons_append, List.nil_append, lay_len, lay_sz, Nat.reduceAdd, Nat.reduceSub, Nat.reduceMul, Int.reduceToNat, Int.reduceLE, Int.reduceLT, Int.reduceEq, Int.reduceAdd, Int.reduceSub, Int.reduceMul, Int.reduceNeg, Nat.reduceLeDiff, Nat.reduceLT, true_and, and_true, false_and, and_false, qcat_0, qcat_1, qcat_3, qcat_9, Nat.reduceEqDiff, if_true, if_false, ite_self, or_true, true_or, or_false, false_or, forall_const, not_true_eq_false, not_false_eq_true, false_implies, implies_true, qtK0, qtK1, qtK2, qtK3, qtK4, List.getD_cons_zero, List.getD_cons_succ, hx, Int.toNat_natCast, ne_eq, qcK]
  exact hloop na 0 F (by omega) hR hPS
