/-! a tick, a run; the class: a run from its start -/
def pTick (n ns na : Nat) (t : Int) (S : XT × LT) : XT × LT := pBegs n t (pHeds n na t (pAgns n na t (pComs n na t (pLims n na t (pEnds n ns t S)))))
def pRunT (n ns na : Nat) : Nat → XT × LT → XT × LT
  | 0, S => S
  | k + 1, S => pTick n ns na (k : Int) (pRunT n ns na k S)
theorem Inv_tick {n ns na : Nat} {t : Int} (hF : FLT) (ht : 0 ≤ t ∧ t ≤ 79) {S : XT × LT} (hI : Inv n ns na 0 t S) : Inv n ns na 0 (t + 1) (pTick n ns na t S) := by
  unfold pTick
  have h1 := Inv_ends hF ht hI
  have h2 : Inv n ns na 1 t (pLims n na t (pEnds n ns t S)) := itr_P h1 (fun a S ha hS => Inv_lim hS ha) na (Nat.le_refl na)
  have h3 := Inv_coms h2
  have h4 : Inv n ns na 2 t (pAgns n na t (pComs n na t (pLims n na t (pEnds n ns t S)))) := itr_P h3 (fun a S ha hS => Inv_agn hS ha) na (Nat.le_refl na)
  have h5 : Inv n ns na 2 t (pHeds n na t (pAgns n na t (pComs n na t (pLims n na t (pEnds n ns t S))))) := by
    unfold pHeds
    split
    · exact itr_P h4 (fun a S ha hS => Inv_hed hS ha) na (Nat.le_refl na)
    · exact h4
  have h6 : Inv n ns na 2 t (pBegs n t (pHeds n na t (pAgns n na t (pComs n na t (pLims n na t (pEnds n ns t S)))))) := itr_P h5 (fun h S hh hS => Inv_begH ht hh 3 S hS) n (Nat.le_refl n)
  exact Inv_next h6
theorem Inv_run {n ns na : Nat} (hF : FLT) {S : XT × LT} (hI : Inv n ns na 0 0 S) : ∀ k : Nat, k ≤ 80 → Inv n ns na 0 (k : Int) (pRunT n ns na k S) := by
  intro k
  induction k with
  | zero => intro _; exact hI
  | succ k ih =>
    intro hk
    have := Inv_tick hF (t := (k : Int)) (by omega) (ih (by omega))
    unfold pRunT
    have e : ((k + 1 : Nat) : Int) = (k : Int) + 1 := by omega
    rw [e]
    exact this
theorem itr_id {f : Nat → XT × LT → XT × LT} {S : XT × LT} {n : Nat} (h : ∀ i, i < n → f i S = S) : ∀ k, k ≤ n → itr f k S = S := by
  intro k
  induction k with
  | zero => intro _; rfl
  | succ k ih =>
    intro hk
    unfold itr
    rw [ih (by omega)]
    exact h k (by omega)
/-- when all asks have ended and nothing is worked at, a tick changes nothing -/
theorem over_tick {n ns na : Nat} {t : Int} {S : XT × LT} (hI : Inv n ns na 0 t S) (h1 : ∀ a : Nat, a < na → 2 ≤ S.1 98 a) (h2 : ∀ h : Nat, h < n → (S.2 1 h).length = 0) : pTick n ns na t S = S := by
  obtain ⟨hC, hRI, hT, -, -⟩ := hI
  have hn4 := hC.1.2
  have h0 : ∀ h : Nat, h < n → (S.2 0 h).length = 0 := by
    intro h hh
    rcases hl : S.2 0 h with _ | ⟨c, r⟩
    · rfl
    · exfalso
      have q := (hRI h (by omega)).1 c (by rw [hl]; exact List.mem_cons_self)
      have := h1 c.toNat (by omega)
      omega
  have e1 : pEnds n ns t S = S := by
    unfold pEnds
    apply itr_id (n := n) _ n (Nat.le_refl n)
    intro h hh
    have hl := (hRI h (by omega)).2.2.2.2.2.1
    have := h2 h hh
    unfold pEndsH
    rw [if_neg]
    simp only [endsB, Bool.and_eq_true, decide_eq_true_eq]
    omega
  have e2 : pLims n na t S = S := by
    unfold pLims
    apply itr_id (n := na) _ na (Nat.le_refl na)
    intro a ha
    have := h1 a ha
    unfold pLim
    rw [if_neg (by omega)]
  have e3 : pComs n na t S = S := by
    unfold pComs
    apply itr_id (n := na) _ na (Nat.le_refl na)
    intro a ha
    have := h1 a ha
    have := ((hT a ha).2.2 (by omega)).2 (Or.inl rfl)
    unfold pCom
    rw [if_neg (by omega)]
  have e4 : pAgns n na t S = S := by
    unfold pAgns
    apply itr_id (n := na) _ na (Nat.le_refl na)
    intro a ha
    have := h1 a ha
    unfold pAgn
    rw [if_neg (by omega)]
  have e5 : pHeds n na t S = S := by
    unfold pHeds
    split
    · apply itr_id (n := na) _ na (Nat.le_refl na)
      intro a ha
      have := h1 a ha
      unfold pHed
      rw [if_neg (by omega)]
    · rfl
  have e6 : pBegs n t S = S := by
    unfold pBegs
    apply itr_id (n := n) _ n (Nat.le_refl n)
    intro h hh
    have := h0 h hh
    unfold pBegH
    rw [if_neg (by omega)]
  unfold pTick
  rw [e1, e2, e3, e4, e5, e6]
theorem over_run {n ns na : Nat} (hF : FLT) {S : XT × LT} (hI : Inv n ns na 0 0 S) {k : Nat} (h1 : ∀ a : Nat, a < na → 2 ≤ (pRunT n ns na k S).1 98 a) (h2 : ∀ h : Nat, h < n → ((pRunT n ns na k S).2 1 h).length = 0) : ∀ m : Nat, k + m ≤ 80 → pRunT n ns na (k + m) S = pRunT n ns na k S := by
  intro m
  induction m with
  | zero => intro _; rfl
  | succ m ih =>
    intro hm
    have e := ih (by omega)
    show pTick n ns na ((k + m : Nat) : Int) (pRunT n ns na (k + m) S) = _
    have hv := Inv_run hF hI (k + m) (by omega)
    rw [e] at hv ⊢
    exact over_tick hv h1 h2
theorem k10 {tb : qTb} {p u : Nat} {sp : Int} {C X F : XT} {L : LT} {e b : Int} {R : Option qV → qM → Prop} (hR : CR p u sp C X L e b F) (na : Nat) (h3 : C 3 2 = (na : Int)) (hk : R (some (0, b01 ((na : Int) ≤ e ∧ b = 0))) (LAY, F)) : qW tb 10 (119, 1262) 0 [(3, 35)] [] (LAY, F) R := by
  have hr := Rf_k hR.rf
  have hx := hR.k
  unfold CD at hx
  by_cases c1 : (na : Int) ≤ e
  · have c1' : (e < (na : Int)) = False := eq_false (by omega)
    by_cases c2 : b = 0
    · rw [b01_t ⟨c1, c2⟩] at hk
      simp only [YK, c10, t10, tgK, lyK, rkK, wK, rfK, hr, qRes_eq, qNon_eq, qup_ap, vup_ap, vcpy_ap, kc8_0, kc8_1, kc8_2, lc_lt, lc_gt, lc_eq, Option.toList_some, Option.toList_none, List.cons_append, List.nil_append, lay_len, lay_sz, Nat.reduceAdd, Nat.reduceSub, Nat.reduceMul, Int.reduceToNat, Int.reduceLE, Int.reduceLT, Int.reduceEq, Int.reduceAdd, Int.reduceSub, Int.reduceMul, Int.reduceNeg, Nat.reduceLeDiff, Nat.reduceLT, true_and, and_true, false_and, and_false, qcat_0, qcat_1, qcat_3, qcat_9, Nat.reduceEqDiff, if_true, if_false, ite_self, or_true, true_or, or_false, false_or, forall_const, not_true_eq_false, not_false_eq_true, false_implies, implies_true, qtK0, qtK1, qtK2, qtK3, qtK4, List.getD_cons_zero, List.getD_cons_succ, hx, Int.toNat_natCast, ne_eq, qcK, hbF, bsetF, bclrF, h3, c1', c2]
      exact hk
    · rw [b01_f (fun q => c2 q.2)] at hk
      simp only [YK, c10, t10, tgK, lyK, rkK, wK, rfK, hr, qRes_eq, qNon_eq, qup_ap, vup_ap, vcpy_ap, kc8_0, kc8_1, kc8_2, lc_lt, lc_gt, lc_eq, Option.toList_some, Option.toList_none, List.cons_append, List.nil_append, lay_len, lay_sz, Nat.reduceAdd, Nat.reduceSub, Nat.reduceMul, Int.reduceToNat, Int.reduceLE, Int.reduceLT, Int.reduceEq, Int.reduceAdd, Int.reduceSub, Int.reduceMul, Int.reduceNeg, Nat.reduceLeDiff, Nat.reduceLT, true_and, and_true, false_and, and_false, qcat_0, qcat_1, qcat_3, qcat_9, Nat.reduceEqDiff, if_true, if_false, ite_self, or_true, true_or, or_false, false_or, forall_const, not_true_eq_false, not_false_eq_true, false_implies, implies_true, qtK0, qtK1, qtK2, qtK3, qtK4, List.getD_cons_zero, List.getD_cons_succ, hx, Int.toNat_natCast, ne_eq, qcK, hbF, bsetF, bclrF, h3, c1', c2]
      exact hk
  · have c1' : (e < (na : Int)) = True := eq_true (by omega)
    rw [b01_f (fun q => c1 q.1)] at hk
    simp only [YK, c10, t10, tgK, lyK, rkK, wK, rfK, hr, qRes_eq, qNon_eq, qup_ap, vup_ap, vcpy_ap, kc8_0, kc8_1, kc8_2, lc_lt, lc_gt, lc_eq, Option.toList_some, Option.toList_none, List.cons_append, List.nil_append, lay_len, lay_sz, Nat.reduceAdd, Nat.reduceSub, Nat.reduceMul, Int.reduceToNat, Int.reduceLE, Int.reduceLT, Int.reduceEq, Int.reduceAdd, Int.reduceSub, Int.reduceMul, Int.reduceNeg, Nat.reduceLeDiff, Nat.reduceLT, true_and, and_true, false_and, and_false, qcat_0, qcat_1, qcat_3, qcat_9, Nat.reduceEqDiff, if_true, if_false, ite_self, or_true, true_or, or_false, false_or, forall_const, not_true_eq_false, not_false_eq_true, false_implies, implies_true, qtK0, qtK1, qtK2, qtK3, qtK4, List.getD_cons_zero, List.getD_cons_succ, hx, Int.toNat_natCast, ne_eq, qcK, hbF, bsetF, bclrF, h3, c1']
    exact hk
theorem fl_step (F : XT) (c i : Nat) (v : Int) : qup (va_up F c (fun j => if j < i then v else F c j)) c i v = va_up F c (fun j => if j < i + 1 then v else F c j) := by
  funext c2 j
  rw [qup_ap, vup_ap, vup_ap]
  by_cases hc : c2 = c
  · rw [if_pos hc, if_pos hc, if_pos hc]
    by_cases hj : j = i
    · rw [if_pos hj, if_pos (by omega)]
    · rw [if_neg hj]
      by_cases h2 : j < i
      · rw [if_pos h2, if_pos (by omega)]
      · rw [if_neg h2, if_neg (by omega)]
  · rw [if_neg hc, if_neg hc, if_neg hc]
theorem fl_zero (F : XT) (c : Nat) (v : Int) : va_up F c (fun j => if j < 0 then v else F c j) = F := by
  funext c2 j
  rw [vup_ap]
  by_cases hc : c2 = c
  · rw [if_pos hc, if_neg (by omega), hc]
  · rw [if_neg hc]
theorem k182_37 {tb : qTb} {F : XT} {R : Option qV → qM → Prop} (v : Int) (hk : R none (LAY, va_up F 37 (fun j => if j < 12 then v else F 37 j))) : qW tb 182 (119, 1262) 0 [(3, 37), (0, v), (9, 0), (9, 0)] [] (LAY, F) R := by
  have hloop : ∀ (m i : Nat), i + m = 12 → qW tb 182 (119, 1262) 5 [(3, 37), (0, v), (0, (i : Int)), (0, 12)] [] (LAY, va_up F 37 (fun j => if j < i then v else F 37 j)) R := by
    intro m
    induction m with
    | zero =>
      intro i hi
      have ei : i = 12 := by omega
      subst ei
      have e12 : ((12 : Nat) : Int) = 12 := rfl
      rw [h182_5]
      simp only [YK, c182, t182, tgK, lyK, rkK, wK, rfK, qRes_eq, qNon_eq, qup_ap, vup_ap, vcpy_ap, kc8_0, kc8_1, kc8_2, lc_lt, lc_gt, lc_eq, Option.toList_some, Option.toList_none, List.cons_append, List.nil_append, lay_len, lay_sz, Nat.reduceAdd, Nat.reduceSub, Nat.reduceMul, Int.reduceToNat, Int.reduceLE, Int.reduceLT, Int.reduceEq, Int.reduceAdd, Int.reduceSub, Int.reduceMul, Int.reduceNeg, Nat.reduceLeDiff, Nat.reduceLT, true_and, and_true, false_and, and_false, qcat_0, qcat_1, qcat_3, qcat_9, Nat.reduceEqDiff, if_true, if_false, ite_self, or_true, true_or, or_false, false_or, forall_const, not_true_eq_false, not_false_eq_true, false_implies, implies_true, qtK0, qtK1, qtK2, qtK3, qtK4, List.getD_cons_zero, List.getD_cons_succ, Int.toNat_natCast, ne_eq, qcK, hbF, bsetF, bclrF, e12]
      exact hk
    | succ m ih =>
      intro i hi
      have b1 : ((i : Int) < 12) = True := eq_true (by omega)
      have b2 : (0 ≤ (i : Int)) = True := eq_true (by omega)
      have w1 : w32 ((i : Int) + 1) = ((i + 1 : Nat) : Int) := by rw [w32_id ⟨by omega, by omega⟩]; omega
      have hi2 := ih (i + 1) (by omega)
      rw [← fl_step] at hi2
      rw [h182_5]
      simp only [YK, c182, t182, tgK, lyK, rkK, wK, rfK, qRes_eq, qNon_eq, qup_ap, vup_ap, vcpy_ap, kc8_0, kc8_1, kc8_2, lc_lt, lc_gt, lc_eq, Option.toList_some, Option.toList_none, List.cons_append, List.nil_append, lay_len, lay_sz, Nat.reduceAdd, Nat.reduceSub, Nat.reduceMul, Int.reduceToNat, Int.reduceLE, Int.reduceLT, Int.reduceEq, Int.reduceAdd, Int.reduceSub, Int.reduceMul, Int.reduceNeg, Nat.reduceLeDiff, Nat.reduceLT, true_and, and_true, false_and, and_false, qcat_0, qcat_1, qcat_3, qcat_9, Nat.reduceEqDiff, if_true, if_false, ite_self, or_true, true_or, or_false, false_or, forall_const, not_true_eq_false, not_false_eq_true, false_implies, implies_true, qtK0, qtK1, qtK2, qtK3, qtK4, List.getD_cons_zero, List.getD_cons_succ, Int.toNat_natCast, ne_eq, qcK, hbF, bsetF, bclrF, b1, b2, w1]
      exact hi2
  have h0 := hloop 12 0 (by omega)
  rw [fl_zero] at h0
  simp only [YK, c182, t182, tgK, lyK, rkK, wK, rfK, qRes_eq, qNon_eq, qup_ap, vup_ap, vcpy_ap, kc8_0, kc8_1, kc8_2, lc_lt, lc_gt, lc_eq, Option.toList_some, Option.toList_none, List.cons_append, List.nil_append, lay_len, lay_sz, Nat.reduceAdd, Nat.reduceSub, Nat.reduceMul, Int.reduceToNat, Int.reduceLE, Int.reduceLT, Int.reduceEq, Int.reduceAdd, Int.reduceSub, Int.reduceMul, Int.reduceNeg, Nat.reduceLeDiff, Nat.reduceLT, true_and, and_true, false_and, and_false, qcat_0, qcat_1, qcat_3, qcat_9, Nat.reduceEqDiff, if_true, if_false, ite_self, or_true, true_or, or_false, false_or, forall_const, not_true_eq_false, not_false_eq_true, false_implies, implies_true, qtK0, qtK1, qtK2, qtK3, qtK4, List.getD_cons_zero, List.getD_cons_succ, Int.toNat_natCast, ne_eq, qcK, hbF, bsetF, bclrF]
  exact h0
theorem k182_38 {tb : qTb} {F : XT} {R : Option qV → qM → Prop} (v : Int) (hk : R none (LAY, va_up F 38 (fun j => if j < 12 then v else F 38 j))) : qW tb 182 (119, 1262) 0 [(3, 38), (0, v), (9, 0), (9, 0)] [] (LAY, F) R := by
  have hloop : ∀ (m i : Nat), i + m = 12 → qW tb 182 (119, 1262) 5 [(3, 38), (0, v), (0, (i : Int)), (0, 12)] [] (LAY, va_up F 38 (fun j => if j < i then v else F 38 j)) R := by
    intro m
    induction m with
    | zero =>
      intro i hi
      have ei : i = 12 := by omega
      subst ei
      have e12 : ((12 : Nat) : Int) = 12 := rfl
      rw [h182_5]
      simp only [YK, c182, t182, tgK, lyK, rkK, wK, rfK, qRes_eq, qNon_eq, qup_ap, vup_ap, vcpy_ap, kc8_0, kc8_1, kc8_2, lc_lt, lc_gt, lc_eq, Option.toList_some, Option.toList_none, List.cons_append, List.nil_append, lay_len, lay_sz, Nat.reduceAdd, Nat.reduceSub, Nat.reduceMul, Int.reduceToNat, Int.reduceLE, Int.reduceLT, Int.reduceEq, Int.reduceAdd, Int.reduceSub, Int.reduceMul, Int.reduceNeg, Nat.reduceLeDiff, Nat.reduceLT, true_and, and_true, false_and, and_false, qcat_0, qcat_1, qcat_3, qcat_9, Nat.reduceEqDiff, if_true, if_false, ite_self, or_true, true_or, or_false, false_or, forall_const, not_true_eq_false, not_false_eq_true, false_implies, implies_true, qtK0, qtK1, qtK2, qtK3, qtK4, List.getD_cons_zero, List.getD_cons_succ, Int.toNat_natCast, ne_eq, qcK, hbF, bsetF, bclrF, e12]
      exact hk
    | succ m ih =>
      intro i hi
      have b1 : ((i : Int) < 12) = True := eq_true (by omega)
      have b2 : (0 ≤ (i : Int)) = True := eq_true (by omega)
      have w1 : w32 ((i : Int) + 1) = ((i + 1 : Nat) : Int) := by rw [w32_id ⟨by omega, by omega⟩]; omega
      have hi2 := ih (i + 1) (by omega)
      rw [← fl_step] at hi2
      rw [h182_5]
      simp only [YK, c182, t182, tgK, lyK, rkK, wK, rfK, qRes_eq, qNon_eq, qup_ap, vup_ap, vcpy_ap, kc8_0, kc8_1, kc8_2, lc_lt, lc_gt, lc_eq, Option.toList_some, Option.toList_none, List.cons_append, List.nil_append, lay_len, lay_sz, Nat.reduceAdd, Nat.reduceSub, Nat.reduceMul, Int.reduceToNat, Int.reduceLE, Int.reduceLT, Int.reduceEq, Int.reduceAdd, Int.reduceSub, Int.reduceMul, Int.reduceNeg, Nat.reduceLeDiff, Nat.reduceLT, true_and, and_true, false_and, and_false, qcat_0, qcat_1, qcat_3, qcat_9, Nat.reduceEqDiff, if_true, if_false, ite_self, or_true, true_or, or_false, false_or, forall_const, not_true_eq_false, not_false_eq_true, false_implies, implies_true, qtK0, qtK1, qtK2, qtK3, qtK4, List.getD_cons_zero, List.getD_cons_succ, Int.toNat_natCast, ne_eq, qcK, hbF, bsetF, bclrF, b1, b2, w1]
      exact hi2
  have h0 := hloop 12 0 (by omega)
  rw [fl_zero] at h0
  simp only [YK, c182, t182, tgK, lyK, rkK, wK, rfK, qRes_eq, qNon_eq, qup_ap, vup_ap, vcpy_ap, kc8_0, kc8_1, kc8_2, lc_lt, lc_gt, lc_eq, Option.toList_some, Option.toList_none, List.cons_append, List.nil_append, lay_len, lay_sz, Nat.reduceAdd, Nat.reduceSub, Nat.reduceMul, Int.reduceToNat, Int.reduceLE, Int.reduceLT, Int.reduceEq, Int.reduceAdd, Int.reduceSub, Int.reduceMul, Int.reduceNeg, Nat.reduceLeDiff, Nat.reduceLT, true_and, and_true, false_and, and_false, qcat_0, qcat_1, qcat_3, qcat_9, Nat.reduceEqDiff, if_true, if_false, ite_self, or_true, true_or, or_false, false_or, forall_const, not_true_eq_false, not_false_eq_true, false_implies, implies_true, qtK0, qtK1, qtK2, qtK3, qtK4, List.getD_cons_zero, List.getD_cons_succ, Int.toNat_natCast, ne_eq, qcK, hbF, bsetF, bclrF]
  exact h0
theorem k182_39 {tb : qTb} {F : XT} {R : Option qV → qM → Prop} (v : Int) (hk : R none (LAY, va_up F 39 (fun j => if j < 12 then v else F 39 j))) : qW tb 182 (119, 1262) 0 [(3, 39), (0, v), (9, 0), (9, 0)] [] (LAY, F) R := by
  have hloop : ∀ (m i : Nat), i + m = 12 → qW tb 182 (119, 1262) 5 [(3, 39), (0, v), (0, (i : Int)), (0, 12)] [] (LAY, va_up F 39 (fun j => if j < i then v else F 39 j)) R := by
    intro m
    induction m with
    | zero =>
      intro i hi
      have ei : i = 12 := by omega
      subst ei
      have e12 : ((12 : Nat) : Int) = 12 := rfl
      rw [h182_5]
      simp only [YK, c182, t182, tgK, lyK, rkK, wK, rfK, qRes_eq, qNon_eq, qup_ap, vup_ap, vcpy_ap, kc8_0, kc8_1, kc8_2, lc_lt, lc_gt, lc_eq, Option.toList_some, Option.toList_none, List.cons_append, List.nil_append, lay_len, lay_sz, Nat.reduceAdd, Nat.reduceSub, Nat.reduceMul, Int.reduceToNat, Int.reduceLE, Int.reduceLT, Int.reduceEq, Int.reduceAdd, Int.reduceSub, Int.reduceMul, Int.reduceNeg, Nat.reduceLeDiff, Nat.reduceLT, true_and, and_true, false_and, and_false, qcat_0, qcat_1, qcat_3, qcat_9, Nat.reduceEqDiff, if_true, if_false, ite_self, or_true, true_or, or_false, false_or, forall_const, not_true_eq_false, not_false_eq_true, false_implies, implies_true, qtK0, qtK1, qtK2, qtK3, qtK4, List.getD_cons_zero, List.getD_cons_succ, Int.toNat_natCast, ne_eq, qcK, hbF, bsetF, bclrF, e12]
      exact hk
    | succ m ih =>
      intro i hi
      have b1 : ((i : Int) < 12) = True := eq_true (by omega)
      have b2 : (0 ≤ (i : Int)) = True := eq_true (by omega)
      have w1 : w32 ((i : Int) + 1) = ((i + 1 : Nat) : Int) := by rw [w32_id ⟨by omega, by omega⟩]; omega
      have hi2 := ih (i + 1) (by omega)
      rw [← fl_step] at hi2
      rw [h182_5]
      simp only [YK, c182, t182, tgK, lyK, rkK, wK, rfK, qRes_eq, qNon_eq, qup_ap, vup_ap, vcpy_ap, kc8_0, kc8_1, kc8_2, lc_lt, lc_gt, lc_eq, Option.toList_some, Option.toList_none, List.cons_append, List.nil_append, lay_len, lay_sz, Nat.reduceAdd, Nat.reduceSub, Nat.reduceMul, Int.reduceToNat, Int.reduceLE, Int.reduceLT, Int.reduceEq, Int.reduceAdd, Int.reduceSub, Int.reduceMul, Int.reduceNeg, Nat.reduceLeDiff, Nat.reduceLT, true_and, and_true, false_and, and_false, qcat_0, qcat_1, qcat_3, qcat_9, Nat.reduceEqDiff, if_true, if_false, ite_self, or_true, true_or, or_false, false_or, forall_const, not_true_eq_false, not_false_eq_true, false_implies, implies_true, qtK0, qtK1, qtK2, qtK3, qtK4, List.getD_cons_zero, List.getD_cons_succ, Int.toNat_natCast, ne_eq, qcK, hbF, bsetF, bclrF, b1, b2, w1]
      exact hi2
  have h0 := hloop 12 0 (by omega)
  rw [fl_zero] at h0
  simp only [YK, c182, t182, tgK, lyK, rkK, wK, rfK, qRes_eq, qNon_eq, qup_ap, vup_ap, vcpy_ap, kc8_0, kc8_1, kc8_2, lc_lt, lc_gt, lc_eq, Option.toList_some, Option.toList_none, List.cons_append, List.nil_append, lay_len, lay_sz, Nat.reduceAdd, Nat.reduceSub, Nat.reduceMul, Int.reduceToNat, Int.reduceLE, Int.reduceLT, Int.reduceEq, Int.reduceAdd, Int.reduceSub, Int.reduceMul, Int.reduceNeg, Nat.reduceLeDiff, Nat.reduceLT, true_and, and_true, false_and, and_false, qcat_0, qcat_1, qcat_3, qcat_9, Nat.reduceEqDiff, if_true, if_false, ite_self, or_true, true_or, or_false, false_or, forall_const, not_true_eq_false, not_false_eq_true, false_implies, implies_true, qtK0, qtK1, qtK2, qtK3, qtK4, List.getD_cons_zero, List.getD_cons_succ, Int.toNat_natCast, ne_eq, qcK, hbF, bsetF, bclrF]
  exact h0
theorem k182_40 {tb : qTb} {F : XT} {R : Option qV → qM → Prop} (v : Int) (hk : R none (LAY, va_up F 40 (fun j => if j < 12 then v else F 40 j))) : qW tb 182 (119, 1262) 0 [(3, 40), (0, v), (9, 0), (9, 0)] [] (LAY, F) R := by
  have hloop : ∀ (m i : Nat), i + m = 12 → qW tb 182 (119, 1262) 5 [(3, 40), (0, v), (0, (i : Int)), (0, 12)] [] (LAY, va_up F 40 (fun j => if j < i then v else F 40 j)) R := by
    intro m
    induction m with
    | zero =>
      intro i hi
      have ei : i = 12 := by omega
      subst ei
      have e12 : ((12 : Nat) : Int) = 12 := rfl
      rw [h182_5]
      simp only [YK, c182, t182, tgK, lyK, rkK, wK, rfK, qRes_eq, qNon_eq, qup_ap, vup_ap, vcpy_ap, kc8_0, kc8_1, kc8_2, lc_lt, lc_gt, lc_eq, Option.toList_some, Option.toList_none, List.cons_append, List.nil_append, lay_len, lay_sz, Nat.reduceAdd, Nat.reduceSub, Nat.reduceMul, Int.reduceToNat, Int.reduceLE, Int.reduceLT, Int.reduceEq, Int.reduceAdd, Int.reduceSub, Int.reduceMul, Int.reduceNeg, Nat.reduceLeDiff, Nat.reduceLT, true_and, and_true, false_and, and_false, qcat_0, qcat_1, qcat_3, qcat_9, Nat.reduceEqDiff, if_true, if_false, ite_self, or_true, true_or, or_false, false_or, forall_const, not_true_eq_false, not_false_eq_true, false_implies, implies_true, qtK0, qtK1, qtK2, qtK3, qtK4, List.getD_cons_zero, List.getD_cons_succ, Int.toNat_natCast, ne_eq, qcK, hbF, bsetF, bclrF, e12]
      exact hk
    | succ m ih =>
      intro i hi
      have b1 : ((i : Int) < 12) = True := eq_true (by omega)
      have b2 : (0 ≤ (i : Int)) = True := eq_true (by omega)
      have w1 : w32 ((i : Int) + 1) = ((i + 1 : Nat) : Int) := by rw [w32_id ⟨by omega, by omega⟩]; omega
      have hi2 := ih (i + 1) (by omega)
      rw [← fl_step] at hi2
      rw [h182_5]
      simp only [YK, c182, t182, tgK, lyK, rkK, wK, rfK, qRes_eq, qNon_eq, qup_ap, vup_ap, vcpy_ap, kc8_0, kc8_1, kc8_2, lc_lt, lc_gt, lc_eq, Option.toList_some, Option.toList_none, List.cons_append, List.nil_append, lay_len, lay_sz, Nat.reduceAdd, Nat.reduceSub, Nat.reduceMul, Int.reduceToNat, Int.reduceLE, Int.reduceLT, Int.reduceEq, Int.reduceAdd, Int.reduceSub, Int.reduceMul, Int.reduceNeg, Nat.reduceLeDiff, Nat.reduceLT, true_and, and_true, false_and, and_false, qcat_0, qcat_1, qcat_3, qcat_9, Nat.reduceEqDiff, if_true, if_false, ite_self, or_true, true_or, or_false, false_or, forall_const, not_true_eq_false, not_false_eq_true, false_implies, implies_true, qtK0, qtK1, qtK2, qtK3, qtK4, List.getD_cons_zero, List.getD_cons_succ, Int.toNat_natCast, ne_eq, qcK, hbF, bsetF, bclrF, b1, b2, w1]
      exact hi2
  have h0 := hloop 12 0 (by omega)
  rw [fl_zero] at h0
  simp only [YK, c182, t182, tgK, lyK, rkK, wK, rfK, qRes_eq, qNon_eq, qup_ap, vup_ap, vcpy_ap, kc8_0, kc8_1, kc8_2, lc_lt, lc_gt, lc_eq, Option.toList_some, Option.toList_none, List.cons_append, List.nil_append, lay_len, lay_sz, Nat.reduceAdd, Nat.reduceSub, Nat.reduceMul, Int.reduceToNat, Int.reduceLE, Int.reduceLT, Int.reduceEq, Int.reduceAdd, Int.reduceSub, Int.reduceMul, Int.reduceNeg, Nat.reduceLeDiff, Nat.reduceLT, true_and, and_true, false_and, and_false, qcat_0, qcat_1, qcat_3, qcat_9, Nat.reduceEqDiff, if_true, if_false, ite_self, or_true, true_or, or_false, false_or, forall_const, not_true_eq_false, not_false_eq_true, false_implies, implies_true, qtK0, qtK1, qtK2, qtK3, qtK4, List.getD_cons_zero, List.getD_cons_succ, Int.toNat_natCast, ne_eq, qcK, hbF, bsetF, bclrF]
  exact h0
theorem k182_41 {tb : qTb} {F : XT} {R : Option qV → qM → Prop} (v : Int) (hk : R none (LAY, va_up F 41 (fun j => if j < 12 then v else F 41 j))) : qW tb 182 (119, 1262) 0 [(3, 41), (0, v), (9, 0), (9, 0)] [] (LAY, F) R := by
  have hloop : ∀ (m i : Nat), i + m = 12 → qW tb 182 (119, 1262) 5 [(3, 41), (0, v), (0, (i : Int)), (0, 12)] [] (LAY, va_up F 41 (fun j => if j < i then v else F 41 j)) R := by
    intro m
    induction m with
    | zero =>
      intro i hi
      have ei : i = 12 := by omega
      subst ei
      have e12 : ((12 : Nat) : Int) = 12 := rfl
      rw [h182_5]
      simp only [YK, c182, t182, tgK, lyK, rkK, wK, rfK, qRes_eq, qNon_eq, qup_ap, vup_ap, vcpy_ap, kc8_0, kc8_1, kc8_2, lc_lt, lc_gt, lc_eq, Option.toList_some, Option.toList_none, List.cons_append, List.nil_append, lay_len, lay_sz, Nat.reduceAdd, Nat.reduceSub, Nat.reduceMul, Int.reduceToNat, Int.reduceLE, Int.reduceLT, Int.reduceEq, Int.reduceAdd, Int.reduceSub, Int.reduceMul, Int.reduceNeg, Nat.reduceLeDiff, Nat.reduceLT, true_and, and_true, false_and, and_false, qcat_0, qcat_1, qcat_3, qcat_9, Nat.reduceEqDiff, if_true, if_false, ite_self, or_true, true_or, or_false, false_or, forall_const, not_true_eq_false, not_false_eq_true, false_implies, implies_true, qtK0, qtK1, qtK2, qtK3, qtK4, List.getD_cons_zero, List.getD_cons_succ, Int.toNat_natCast, ne_eq, qcK, hbF, bsetF, bclrF, e12]
      exact hk
    | succ m ih =>
      intro i hi
      have b1 : ((i : Int) < 12) = True := eq_true (by omega)
      have b2 : (0 ≤ (i : Int)) = True := eq_true (by omega)
      have w1 : w32 ((i : Int) + 1) = ((i + 1 : Nat) : Int) := by rw [w32_id ⟨by omega, by omega⟩]; omega
      have hi2 := ih (i + 1) (by omega)
      rw [← fl_step] at hi2
      rw [h182_5]
      simp only [YK, c182, t182, tgK, lyK, rkK, wK, rfK, qRes_eq, qNon_eq, qup_ap, vup_ap, vcpy_ap, kc8_0, kc8_1, kc8_2, lc_lt, lc_gt, lc_eq, Option.toList_some, Option.toList_none, List.cons_append, List.nil_append, lay_len, lay_sz, Nat.reduceAdd, Nat.reduceSub, Nat.reduceMul, Int.reduceToNat, Int.reduceLE, Int.reduceLT, Int.reduceEq, Int.reduceAdd, Int.reduceSub, Int.reduceMul, Int.reduceNeg, Nat.reduceLeDiff, Nat.reduceLT, true_and, and_true, false_and, and_false, qcat_0, qcat_1, qcat_3, qcat_9, Nat.reduceEqDiff, if_true, if_false, ite_self, or_true, true_or, or_false, false_or, forall_const, not_true_eq_false, not_false_eq_true, false_implies, implies_true, qtK0, qtK1, qtK2, qtK3, qtK4, List.getD_cons_zero, List.getD_cons_succ, Int.toNat_natCast, ne_eq, qcK, hbF, bsetF, bclrF, b1, b2, w1]
      exact hi2
  have h0 := hloop 12 0 (by omega)
  rw [fl_zero] at h0
  simp only [YK, c182, t182, tgK, lyK, rkK, wK, rfK, qRes_eq, qNon_eq, qup_ap, vup_ap, vcpy_ap, kc8_0, kc8_1, kc8_2, lc_lt, lc_gt, lc_eq, Option.toList_some, Option.toList_none, List.cons_append, List.nil_append, lay_len, lay_sz, Nat.reduceAdd, Nat.reduceSub, Nat.reduceMul, Int.reduceToNat, Int.reduceLE, Int.reduceLT, Int.reduceEq, Int.reduceAdd, Int.reduceSub, Int.reduceMul, Int.reduceNeg, Nat.reduceLeDiff, Nat.reduceLT, true_and, and_true, false_and, and_false, qcat_0, qcat_1, qcat_3, qcat_9, Nat.reduceEqDiff, if_true, if_false, ite_self, or_true, true_or, or_false, false_or, forall_const, not_true_eq_false, not_false_eq_true, false_implies, implies_true, qtK0, qtK1, qtK2, qtK3, qtK4, List.getD_cons_zero, List.getD_cons_succ, Int.toNat_natCast, ne_eq, qcK, hbF, bsetF, bclrF]
  exact h0
/-- hosts that are as a run begins, the first k of them -/
def HZ (h : Nat) (F : XT) : Prop := (F (hO h) 4 = 0 ∧ F (hO h) 5 = 0 ∧ F (hO h) 6 = 0 ∧ F (hO h) 7 = 0 ∧ F (hO h) 8 = 0 ∧ F (hO h) 9 = 0 ∧ F (hO h) 10 = 0) ∧ F (hB h) 0 = 0 ∧ F (hB h) 1 = 0 ∧ F (hB h) 2 = -1 ∧ F (hB h) 3 = 0 ∧ F (hB h) 4 = 0 ∧ F (hB h) 5 = 0
def HS (F0 F : XT) (k : Nat) : Prop := (∀ c : Nat, (c < 44 ∨ 63 < c) → F c = F0 c) ∧ (∀ h : Nat, h < 4 → ∀ j : Nat, j < 4 → F (hO h) j = F0 (hO h) j) ∧ ∀ h : Nat, h < k → HZ h F
theorem HZ_eq {h : Nat} {F G : XT} (hz : HZ h F) (e1 : G (hO h) = F (hO h)) (e2 : G (hB h) = F (hB h)) : HZ h G := by unfold HZ at hz ⊢; rw [e1, e2]; exact hz
theorem k35 {tb : qTb} {F0 F : XT} {R : Option qV → qM → Prop} (hf : Rf F0) (h : Nat) (hh : h < 4) (hS : HS F0 F h) (hk : ∀ F2, HS F0 F2 (h + 1) → R none (LAY, F2)) : qW tb 35 (119, 1262) 0 [(3, ((hO h : Nat) : Int))] [] (LAY, F) R := by
  obtain ⟨s1, s2, s3⟩ := hS
  have g0 := (Rf_h hf hh).2.1
  rw [← s2 h hh 0 (by decide)] at g0
  have hc0 := hcK0 hh
  have hc1 := hcK1 h
  have hc2 := hcK2 h
  have hq := hk (qup (qup (qup (qup (qup (qup (qup (qup (qup (qup (qup (qup (qup F (hB h) 0 0) (hB h) 2 (-1)) (hB h) 1 0) (hB h) 3 0) (hB h) 4 0) (hB h) 5 0) (hO h) 4 0) (hO h) 5 0) (hO h) 6 0) (hO h) 7 0) (hO h) 8 0) (hO h) 9 0) (hO h) 10 0) (by
    have hcc : ∀ c, c ≠ hO h → c ≠ hB h → (qup (qup (qup (qup (qup (qup (qup (qup (qup (qup (qup (qup (qup F (hB h) 0 0) (hB h) 2 (-1)) (hB h) 1 0) (hB h) 3 0) (hB h) 4 0) (hB h) 5 0) (hO h) 4 0) (hO h) 5 0) (hO h) 6 0) (hO h) 7 0) (hO h) 8 0) (hO h) 9 0) (hO h) 10 0) c = F c := fun c h1 h2 => by
      rw [qup_c h1, qup_c h1, qup_c h1, qup_c h1, qup_c h1, qup_c h1, qup_c h1, qup_c h2, qup_c h2, qup_c h2, qup_c h2, qup_c h2, qup_c h2]
    refine ⟨?_, ?_, ?_⟩
    · intro c hc
      rw [hcc c (by unfold hO; omega) (by unfold hB; omega)]
      exact s1 c hc
    · intro g hg j hj
      by_cases hgh : g = h
      · subst hgh
        rw [← s2 g hg j hj]
        simp only [qup_ap, hc2, if_true, if_false]
        rw [if_neg (by omega), if_neg (by omega), if_neg (by omega), if_neg (by omega), if_neg (by omega), if_neg (by omega), if_neg (by omega)]
      · rw [hcc (hO g) (by unfold hO; omega) (by unfold hO hB; omega)]
        exact s2 g hg j hj
    · intro g hg
      by_cases hgh : g = h
      · subst hgh
        unfold HZ
        simp only [qup_ap, hc2, if_true, if_false, Nat.reduceEqDiff, and_self]
      · exact HZ_eq (s3 g (by omega)) (hcc (hO g) (by unfold hO; omega) (by unfold hO hB; omega)) (hcc (hB g) (by unfold hO hB; omega) (by unfold hB; omega)))
  simp only [YK, c35, t35, c1, t1, c2, t2, cl1, cl2, tgK, lyK, rkK, wK, rfK, qRes_eq, qNon_eq, qup_ap, vup_ap, vcpy_ap, kc8_0, kc8_1, kc8_2, lc_lt, lc_gt, lc_eq, Option.toList_some, Option.toList_none, List.cons_append, List.nil_append, lay_len, lay_sz, Nat.reduceAdd, Nat.reduceSub, Nat.reduceMul, Int.reduceToNat, Int.reduceLE, Int.reduceLT, Int.reduceEq, Int.reduceAdd, Int.reduceSub, Int.reduceMul, Int.reduceNeg, Nat.reduceLeDiff, Nat.reduceLT, true_and, and_true, false_and, and_false, qcat_0, qcat_1, qcat_3, qcat_9, Nat.reduceEqDiff, if_true, if_false, ite_self, or_true, true_or, or_false, false_or, forall_const, not_true_eq_false, not_false_eq_true, false_implies, implies_true, qtK0, qtK1, qtK2, qtK3, qtK4, List.getD_cons_zero, List.getD_cons_succ, Int.toNat_natCast, ne_eq, qcK, hbF, bsetF, bclrF, g0, hc0, hc1, hc2]
  exact hq
/-- the numbers as a run begins -/
def St0 (X : XT) : Prop := (∀ a : Nat, a < 12 → X 98 a = 0 ∧ X 99 a = -9 ∧ X 100 a = -9 ∧ X 101 a = 0 ∧ X 102 a = 0) ∧ (X 69 62 = 8 ∧ X 69 63 = 1082130432 ∧ X 69 64 = 0 ∧ X 69 65 = 0 ∧ X 69 66 = 0 ∧ X 69 67 = 0) ∧ ∀ h : Nat, h < 4 → X 109 h = 1 ∧ X 110 h = 0 ∧ X 111 h = 0 ∧ X 112 h = 0 ∧ X 113 h = 0 ∧ X 114 h = 0 ∧ X 115 h = 0 ∧ X 116 h = 0 ∧ X 117 h = 0
def L0 : LT := fun _ _ => []
theorem hbit_0 : ∀ a : Nat, a < 12 → hbit 0 (a : Int) = 0 := by decide +kernel
theorem St0_CR {p u : Nat} {sp : Int} {C X F F0 : XT} (hX : St0 X) (hC : Rf C) (h1 : ∀ c : Nat, fx c → F c = C c) (h2 : ∀ j : Nat, j < 7 → F 35 j = C 35 j) (h3 : F 35 7 = (p : Int) ∧ F 35 8 = (u : Int) ∧ F 35 9 = sp ∧ F 35 10 = 8 ∧ F 35 11 = 1082130432 ∧ F 35 12 = 0 ∧ F 35 13 = 0 ∧ F 35 14 = 0 ∧ F 35 15 = 0 ∧ F 35 16 = 0 ∧ F 35 17 = 0) (h4 : ∀ a : Nat, a < 12 → F 37 a = 0 ∧ F 38 a = -9 ∧ F 39 a = -9 ∧ F 40 a = 0 ∧ F 41 a = 0) (h5 : ∀ h : Nat, h < 4 → (∀ j : Nat, j < 4 → F (hO h) j = C (hO h) j) ∧ HZ h F) : CR p u sp C X L0 0 0 F := by
  obtain ⟨x1, ⟨x2, x3, x4, x5, x6, x7⟩, x8⟩ := hX
  refine ⟨hC, h1, h2, ?_, ?_, ?_⟩
  · unfold CD
    rw [x2, x3, x4, x5, x6, x7]
    exact h3
  · intro a ha
    obtain ⟨y1, y2, y3, y4, y5⟩ := x1 a ha
    rw [y1, y2, y3, y4, y5]
    exact h4 a ha
  · intro h hh
    obtain ⟨y1, y2, y3, y4, y5, y6, y7, y8, y9⟩ := x8 h hh
    obtain ⟨z1, ⟨z2, z3, z4, z5, z6, z7, z8⟩, z9, z10, z11, z12, z13, z14⟩ := h5 h hh
    unfold CH CBk
    rw [y1, y2, y3, y4, y5, y6, y7, y8, y9]
    refine ⟨z1, ⟨z2, fun k hk => absurd hk (by unfold L0; simp), by unfold L0; simp⟩, ⟨z3, fun k hk => absurd hk (by unfold L0; simp), fun k hk => absurd hk (by unfold L0; simp), by unfold L0; simp, rfl⟩, ?_, ⟨z5, z6, z7, z8, by decide⟩, z9, z10, by rw [z11, if_neg (by decide)], fun _ => by rw [z12]; exact Or.inl ⟨rfl, by decide⟩, fun _ => ⟨z13, z14⟩⟩
    intro a ha
    rw [z4, hbit_0 a ha, b01_f]
    unfold L0
    simp
theorem k9 {tb : qTb} {p u : Nat} {sp : Int} {C X F : XT} {R : Option qV → qM → Prop} (hX : St0 X) (hC : Rf C) (h1 : ∀ c : Nat, c ≠ 35 → F c = C c) (h2 : ∀ j : Nat, j < 7 → F 35 j = C 35 j) (h3 : F 35 7 = (p : Int) ∧ F 35 8 = (u : Int) ∧ F 35 9 = sp) (hk : ∀ F2, CR p u sp C X L0 0 0 F2 → R none (LAY, F2)) : qW tb 9 (119, 1262) 0 [(3, 35), (9, 0)] [] (LAY, F) R := by
  have hf : Rf F := by
    intro q hq
    rw [← hC q hq]
    by_cases c : q.1 = 35
    · rcases RFL_c q hq with h | h | h
      · exact absurd c h.1
      · rw [c]; exact h2 _ h.2
      · omega
    · rw [h1 _ c]
  have hloop : ∀ (m h : Nat) (G : XT), h + m = 4 → HS F G h → qW tb 9 (119, 1262) 2 [(3, 35), (0, (h : Int))] [] (LAY, G) R := by
    intro m
    induction m with
    | zero =>
      intro h G hm hS
      have eh : h = 4 := by omega
      subst eh
      have e4 : ((4 : Nat) : Int) = 4 := rfl
      obtain ⟨s1, s2, s3⟩ := hS
      have r35 := s1 35 (by decide)
      have g35 : G 35 0 = 36 ∧ G 35 1 = 37 ∧ G 35 3 = 38 ∧ G 35 4 = 39 ∧ G 35 5 = 40 ∧ G 35 6 = 41 := by
        rw [r35]
        exact ⟨(Rf_k hf).2.1.2.2.2.2.2.2.2.2.2.2.2.2.2.2.2.2.2.2.2, (Rf_k hf).2.2.1.1, (Rf_k hf).2.2.1.2.2.1, (Rf_k hf).2.2.1.2.2.2.1, (Rf_k hf).2.2.1.2.2.2.2.1, (Rf_k hf).2.2.1.2.2.2.2.2.1⟩
      rw [h9_2]
      simp only [YK, c9, t9, cl182, tgK, lyK, rkK, wK, rfK, qRes_eq, qNon_eq, qup_ap, vup_ap, vcpy_ap, kc8_0, kc8_1, kc8_2, lc_lt, lc_gt, lc_eq, Option.toList_some, Option.toList_none, List.cons_append, List.nil_append, lay_len, lay_sz, Nat.reduceAdd, Nat.reduceSub, Nat.reduceMul, Int.reduceToNat, Int.reduceLE, Int.reduceLT, Int.reduceEq, Int.reduceAdd, Int.reduceSub, Int.reduceMul, Int.reduceNeg, Nat.reduceLeDiff, Nat.reduceLT, true_and, and_true, false_and, and_false, qcat_0, qcat_1, qcat_3, qcat_9, Nat.reduceEqDiff, if_true, if_false, ite_self, or_true, true_or, or_false, false_or, forall_const, not_true_eq_false, not_false_eq_true, false_implies, implies_true, qtK0, qtK1, qtK2, qtK3, qtK4, List.getD_cons_zero, List.getD_cons_succ, Int.toNat_natCast, ne_eq, qcK, hbF, bsetF, bclrF, e4, g35]
      refine k182_37 0 ?_
      simp only [YK, c9, t9, cl182, tgK, lyK, rkK, wK, rfK, qRes_eq, qNon_eq, qup_ap, vup_ap, vcpy_ap, kc8_0, kc8_1, kc8_2, lc_lt, lc_gt, lc_eq, Option.toList_some, Option.toList_none, List.cons_append, List.nil_append, lay_len, lay_sz, Nat.reduceAdd, Nat.reduceSub, Nat.reduceMul, Int.reduceToNat, Int.reduceLE, Int.reduceLT, Int.reduceEq, Int.reduceAdd, Int.reduceSub, Int.reduceMul, Int.reduceNeg, Nat.reduceLeDiff, Nat.reduceLT, true_and, and_true, false_and, and_false, qcat_0, qcat_1, qcat_3, qcat_9, Nat.reduceEqDiff, if_true, if_false, ite_self, or_true, true_or, or_false, false_or, forall_const, not_true_eq_false, not_false_eq_true, false_implies, implies_true, qtK0, qtK1, qtK2, qtK3, qtK4, List.getD_cons_zero, List.getD_cons_succ, Int.toNat_natCast, ne_eq, qcK, hbF, bsetF, bclrF, e4, g35]
      refine k182_38 (-9) ?_
      simp only [YK, c9, t9, cl182, tgK, lyK, rkK, wK, rfK, qRes_eq, qNon_eq, qup_ap, vup_ap, vcpy_ap, kc8_0, kc8_1, kc8_2, lc_lt, lc_gt, lc_eq, Option.toList_some, Option.toList_none, List.cons_append, List.nil_append, lay_len, lay_sz, Nat.reduceAdd, Nat.reduceSub, Nat.reduceMul, Int.reduceToNat, Int.reduceLE, Int.reduceLT, Int.reduceEq, Int.reduceAdd, Int.reduceSub, Int.reduceMul, Int.reduceNeg, Nat.reduceLeDiff, Nat.reduceLT, true_and, and_true, false_and, and_false, qcat_0, qcat_1, qcat_3, qcat_9, Nat.reduceEqDiff, if_true, if_false, ite_self, or_true, true_or, or_false, false_or, forall_const, not_true_eq_false, not_false_eq_true, false_implies, implies_true, qtK0, qtK1, qtK2, qtK3, qtK4, List.getD_cons_zero, List.getD_cons_succ, Int.toNat_natCast, ne_eq, qcK, hbF, bsetF, bclrF, e4, g35]
      refine k182_39 (-9) ?_
      simp only [YK, c9, t9, cl182, tgK, lyK, rkK, wK, rfK, qRes_eq, qNon_eq, qup_ap, vup_ap, vcpy_ap, kc8_0, kc8_1, kc8_2, lc_lt, lc_gt, lc_eq, Option.toList_some, Option.toList_none, List.cons_append, List.nil_append, lay_len, lay_sz, Nat.reduceAdd, Nat.reduceSub, Nat.reduceMul, Int.reduceToNat, Int.reduceLE, Int.reduceLT, Int.reduceEq, Int.reduceAdd, Int.reduceSub, Int.reduceMul, Int.reduceNeg, Nat.reduceLeDiff, Nat.reduceLT, true_and, and_true, false_and, and_false, qcat_0, qcat_1, qcat_3, qcat_9, Nat.reduceEqDiff, if_true, if_false, ite_self, or_true, true_or, or_false, false_or, forall_const, not_true_eq_false, not_false_eq_true, false_implies, implies_true, qtK0, qtK1, qtK2, qtK3, qtK4, List.getD_cons_zero, List.getD_cons_succ, Int.toNat_natCast, ne_eq, qcK, hbF, bsetF, bclrF, e4, g35]
      refine k182_40 0 ?_
      simp only [YK, c9, t9, cl182, tgK, lyK, rkK, wK, rfK, qRes_eq, qNon_eq, qup_ap, vup_ap, vcpy_ap, kc8_0, kc8_1, kc8_2, lc_lt, lc_gt, lc_eq, Option.toList_some, Option.toList_none, List.cons_append, List.nil_append, lay_len, lay_sz, Nat.reduceAdd, Nat.reduceSub, Nat.reduceMul, Int.reduceToNat, Int.reduceLE, Int.reduceLT, Int.reduceEq, Int.reduceAdd, Int.reduceSub, Int.reduceMul, Int.reduceNeg, Nat.reduceLeDiff, Nat.reduceLT, true_and, and_true, false_and, and_false, qcat_0, qcat_1, qcat_3, qcat_9, Nat.reduceEqDiff, if_true, if_false, ite_self, or_true, true_or, or_false, false_or, forall_const, not_true_eq_false, not_false_eq_true, false_implies, implies_true, qtK0, qtK1, qtK2, qtK3, qtK4, List.getD_cons_zero, List.getD_cons_succ, Int.toNat_natCast, ne_eq, qcK, hbF, bsetF, bclrF, e4, g35]
      refine k182_41 0 ?_
      have hq := hk (qup (qup (qup (qup (qup (qup (qup (qup (va_up (va_up (va_up (va_up (va_up G 37 (fun j => if j < 12 then 0 else G 37 j)) 38 (fun j => if j < 12 then -9 else G 38 j)) 39 (fun j => if j < 12 then -9 else G 39 j)) 40 (fun j => if j < 12 then 0 else G 40 j)) 41 (fun j => if j < 12 then 0 else G 41 j)) 35 10 8) 35 11 1082130432) 35 12 0) 35 13 0) 35 14 0) 35 15 0) 35 16 0) 35 17 0) (by
        have hcc : ∀ c, c ≠ 35 → (c < 37 ∨ 41 < c) → (qup (qup (qup (qup (qup (qup (qup (qup (va_up (va_up (va_up (va_up (va_up G 37 (fun j => if j < 12 then 0 else G 37 j)) 38 (fun j => if j < 12 then -9 else G 38 j)) 39 (fun j => if j < 12 then -9 else G 39 j)) 40 (fun j => if j < 12 then 0 else G 40 j)) 41 (fun j => if j < 12 then 0 else G 41 j)) 35 10 8) 35 11 1082130432) 35 12 0) 35 13 0) 35 14 0) 35 15 0) 35 16 0) 35 17 0) c = G c := fun c c1 c2 => by
          rw [qup_c c1, qup_c c1, qup_c c1, qup_c c1, qup_c c1, qup_c c1, qup_c c1, qup_c c1]
          funext j
          rw [vup_ap, if_neg (by omega), vup_ap, if_neg (by omega), vup_ap, if_neg (by omega), vup_ap, if_neg (by omega), vup_ap, if_neg (by omega)]
        refine St0_CR (F0 := F) hX hC ?_ ?_ ?_ ?_ ?_
        · intro c hc
          obtain ⟨c1, c2, c3⟩ := hc
          rw [hcc c c1 c2, s1 c c3, h1 c c1]
        · intro j hj
          rw [← h2 j hj, ← r35]
          simp only [qup_ap, vup_ap, if_true, if_false, Nat.reduceEqDiff]
          rw [if_neg (by omega), if_neg (by omega), if_neg (by omega), if_neg (by omega), if_neg (by omega), if_neg (by omega), if_neg (by omega), if_neg (by omega)]
        · simp only [qup_ap, vup_ap, if_true, if_false, Nat.reduceEqDiff, r35, h3, and_self]
        · intro a ha
          simp only [qup_ap, vup_ap, if_true, if_false, Nat.reduceEqDiff, ha, and_self]
        · intro h hh
          have g1 := hcc (hO h) (by unfold hO; omega) (by unfold hO; omega)
          have g2 := hcc (hB h) (by unfold hB; omega) (by unfold hB; omega)
          refine ⟨?_, HZ_eq (s3 h hh) g1 g2⟩
          intro j hj
          rw [g1, s2 h hh j hj, h1 (hO h) (by unfold hO; omega)])
      simp only [YK, c9, t9, tgK, lyK, rkK, wK, rfK, qRes_eq, qNon_eq, qup_ap, vup_ap, vcpy_ap, kc8_0, kc8_1, kc8_2, lc_lt, lc_gt, lc_eq, Option.toList_some, Option.toList_none, List.cons_append, List.nil_append, lay_len, lay_sz, Nat.reduceAdd, Nat.reduceSub, Nat.reduceMul, Int.reduceToNat, Int.reduceLE, Int.reduceLT, Int.reduceEq, Int.reduceAdd, Int.reduceSub, Int.reduceMul, Int.reduceNeg, Nat.reduceLeDiff, Nat.reduceLT, true_and, and_true, false_and, and_false, qcat_0, qcat_1, qcat_3, qcat_9, Nat.reduceEqDiff, if_true, if_false, ite_self, or_true, true_or, or_false, false_or, forall_const, not_true_eq_false, not_false_eq_true, false_implies, implies_true, qtK0, qtK1, qtK2, qtK3, qtK4, List.getD_cons_zero, List.getD_cons_succ, Int.toNat_natCast, ne_eq, qcK, hbF, bsetF, bclrF, g35]
      exact hq
    | succ m ih =>
      intro h G hm hS
      have hh : h < 4 := by omega
      obtain ⟨s1, s2, s3⟩ := hS
      have g36 : G 36 h = ((hO h : Nat) : Int) := by rw [s1 36 (by decide)]; exact (Rf_h hf hh).1
      have g35 : G 35 0 = 36 := by rw [s1 35 (by decide)]; exact (Rf_k hf).2.1.2.2.2.2.2.2.2.2.2.2.2.2.2.2.2.2.2.2.2
      have hc0 := hcK0 hh
      have hc1 := hcK1 h
      have b1 : ((h : Int) < 4) = True := eq_true (by omega)
      have b2 : (0 ≤ (h : Int)) = True := eq_true (by omega)
      have w1 : w32 ((h : Int) + 1) = ((h + 1 : Nat) : Int) := by rw [w32_id ⟨by omega, by omega⟩]; omega
      rw [h9_2]
      simp only [YK, c9, t9, cl35, tgK, lyK, rkK, wK, rfK, qRes_eq, qNon_eq, qup_ap, vup_ap, vcpy_ap, kc8_0, kc8_1, kc8_2, lc_lt, lc_gt, lc_eq, Option.toList_some, Option.toList_none, List.cons_append, List.nil_append, lay_len, lay_sz, Nat.reduceAdd, Nat.reduceSub, Nat.reduceMul, Int.reduceToNat, Int.reduceLE, Int.reduceLT, Int.reduceEq, Int.reduceAdd, Int.reduceSub, Int.reduceMul, Int.reduceNeg, Nat.reduceLeDiff, Nat.reduceLT, true_and, and_true, false_and, and_false, qcat_0, qcat_1, qcat_3, qcat_9, Nat.reduceEqDiff, if_true, if_false, ite_self, or_true, true_or, or_false, false_or, forall_const, not_true_eq_false, not_false_eq_true, false_implies, implies_true, qtK0, qtK1, qtK2, qtK3, qtK4, List.getD_cons_zero, List.getD_cons_succ, Int.toNat_natCast, ne_eq, qcK, hbF, bsetF, bclrF, g35, g36, hc0, hc1, b1, b2]
      refine k35 hf h hh ⟨s1, s2, s3⟩ ?_
      intro F2 hS2
      have hq := ih (h + 1) F2 (by omega) hS2
      simp only [YK, c9, t9, tgK, lyK, rkK, wK, rfK, qRes_eq, qNon_eq, qup_ap, vup_ap, vcpy_ap, kc8_0, kc8_1, kc8_2, lc_lt, lc_gt, lc_eq, Option.toList_some, Option.toList_none, List.cons_append, List.nil_append, lay_len, lay_sz, Nat.reduceAdd, Nat.reduceSub, Nat.reduceMul, Int.reduceToNat, Int.reduceLE, Int.reduceLT, Int.reduceEq, Int.reduceAdd, Int.reduceSub, Int.reduceMul, Int.reduceNeg, Nat.reduceLeDiff, Nat.reduceLT, true_and, and_true, false_and, and_false, qcat_0, qcat_1, qcat_3, qcat_9, Nat.reduceEqDiff, if_true, if_false, ite_self, or_true, true_or, or_false, false_or, forall_const, not_true_eq_false, not_false_eq_true, false_implies, implies_true, qtK0, qtK1, qtK2, qtK3, qtK4, List.getD_cons_zero, List.getD_cons_succ, Int.toNat_natCast, ne_eq, qcK, hbF, bsetF, bclrF, w1]
      exact hq
  simp only [YK, c9, t9, tgK, lyK, rkK, wK, rfK, qRes_eq, qNon_eq, qup_ap, vup_ap, vcpy_ap, kc8_0, kc8_1, kc8_2, lc_lt, lc_gt, lc_eq, Option.toList_some, Option.toList_none, List.cons_append, List.nil_append, lay_len, lay_sz, Nat.reduceAdd, Nat.reduceSub, Nat.reduceMul, Int.reduceToNat, Int.reduceLE, Int.reduceLT, Int.reduceEq, Int.reduceAdd, Int.reduceSub, Int.reduceMul, Int.reduceNeg, Nat.reduceLeDiff, Nat.reduceLT, true_and, and_true, false_and, and_false, qcat_0, qcat_1, qcat_3, qcat_9, Nat.reduceEqDiff, if_true, if_false, ite_self, or_true, true_or, or_false, false_or, forall_const, not_true_eq_false, not_false_eq_true, false_implies, implies_true, qtK0, qtK1, qtK2, qtK3, qtK4, List.getD_cons_zero, List.getD_cons_succ, Int.toNat_natCast, ne_eq, qcK, hbF, bsetF, bclrF]
  exact hloop 4 0 F (by omega) ⟨fun _ _ => rfl, fun _ _ _ _ => rfl, fun h hh => absurd hh (by omega)⟩
