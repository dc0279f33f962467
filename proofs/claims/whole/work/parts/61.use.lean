/-! runs, as the calls use them -/
theorem r104 {tb : qTb} {F : XT} {R : Option qV → qM → Prop} (v l h : Int) (hk : R (some (0, b01 (l ≤ v ∧ v ≤ h))) (LAY, F)) : qW tb 104 (119, 1262) 0 [(1, v), (9, 0), (1, l), (9, 0), (1, h), (9, 0)] [] (LAY, F) R := by
  by_cases c1 : l ≤ v
  · have d1 : (v < l) = False := eq_false (by omega)
    by_cases c2 : v ≤ h
    · have d2 : (h < v) = False := eq_false (by omega)
      rw [b01_t ⟨c1, c2⟩] at hk
      simp only [YK, c104, t104, tgK, lyK, rkK, wK, rfK, qRes_eq, qNon_eq, qup_ap, vup_ap, vcpy_ap, kc8_0, kc8_1, kc8_2, lc_lt, lc_gt, lc_eq, Option.toList_some, Option.toList_none, List.cons_append, List.nil_append, lay_len, lay_sz, Nat.reduceAdd, Nat.reduceSub, Nat.reduceMul, Int.reduceToNat, Int.reduceLE, Int.reduceLT, Int.reduceEq, Int.reduceAdd, Int.reduceSub, Int.reduceMul, Int.reduceNeg, Nat.reduceLeDiff, Nat.reduceLT, true_and, and_true, false_and, and_false, qcat_0, qcat_1, qcat_3, qcat_9, Nat.reduceEqDiff, if_true, if_false, ite_self, or_true, true_or, or_false, false_or, forall_const, not_true_eq_false, not_false_eq_true, false_implies, implies_true, qtK0, qtK1, qtK2, qtK3, qtK4, List.getD_cons_zero, List.getD_cons_succ, Int.toNat_natCast, ne_eq, qcK]
      simp only [d1, d2, false_implies, forall_const, not_false_eq_true, not_true_eq_false, true_and, and_true, implies_true]
      exact hk
    · have d2 : (h < v) = True := eq_true (by omega)
      rw [b01_f (fun q => c2 q.2)] at hk
      simp only [YK, c104, t104, tgK, lyK, rkK, wK, rfK, qRes_eq, qNon_eq, qup_ap, vup_ap, vcpy_ap, kc8_0, kc8_1, kc8_2, lc_lt, lc_gt, lc_eq, Option.toList_some, Option.toList_none, List.cons_append, List.nil_append, lay_len, lay_sz, Nat.reduceAdd, Nat.reduceSub, Nat.reduceMul, Int.reduceToNat, Int.reduceLE, Int.reduceLT, Int.reduceEq, Int.reduceAdd, Int.reduceSub, Int.reduceMul, Int.reduceNeg, Nat.reduceLeDiff, Nat.reduceLT, true_and, and_true, false_and, and_false, qcat_0, qcat_1, qcat_3, qcat_9, Nat.reduceEqDiff, if_true, if_false, ite_self, or_true, true_or, or_false, false_or, forall_const, not_true_eq_false, not_false_eq_true, false_implies, implies_true, qtK0, qtK1, qtK2, qtK3, qtK4, List.getD_cons_zero, List.getD_cons_succ, Int.toNat_natCast, ne_eq, qcK]
      simp only [d1, d2, false_implies, forall_const, not_false_eq_true, not_true_eq_false, true_and, and_true, implies_true]
      exact hk
  · have d1 : (v < l) = True := eq_true (by omega)
    rw [b01_f (fun q => c1 q.1)] at hk
    simp only [YK, c104, t104, tgK, lyK, rkK, wK, rfK, qRes_eq, qNon_eq, qup_ap, vup_ap, vcpy_ap, kc8_0, kc8_1, kc8_2, lc_lt, lc_gt, lc_eq, Option.toList_some, Option.toList_none, List.cons_append, List.nil_append, lay_len, lay_sz, Nat.reduceAdd, Nat.reduceSub, Nat.reduceMul, Int.reduceToNat, Int.reduceLE, Int.reduceLT, Int.reduceEq, Int.reduceAdd, Int.reduceSub, Int.reduceMul, Int.reduceNeg, Nat.reduceLeDiff, Nat.reduceLT, true_and, and_true, false_and, and_false, qcat_0, qcat_1, qcat_3, qcat_9, Nat.reduceEqDiff, if_true, if_false, ite_self, or_true, true_or, or_false, false_or, forall_const, not_true_eq_false, not_false_eq_true, false_implies, implies_true, qtK0, qtK1, qtK2, qtK3, qtK4, List.getD_cons_zero, List.getD_cons_succ, Int.toNat_natCast, ne_eq, qcK]
    simp only [d1, false_implies, forall_const, not_false_eq_true, not_true_eq_false, true_and, and_true, implies_true]
    exact hk
theorem r158 {tb : qTb} {F : XT} {R : Option qV → qM → Prop} (hf : Rf F) (a : Int) (na : Nat) (h3 : F 69 3 = (na : Int)) (hna : na ≤ 12) (hk : R (some (0, b01 (0 ≤ a ∧ a < (na : Int)))) (LAY, F)) : qW tb 158 (119, 1262) 0 [(3, 69), (0, a)] [] (LAY, F) R := by
  have hr := Rf_k hf
  have w1 : w32 ((na : Int) - 1) = (na : Int) - 1 := w32_id ⟨by omega, by omega⟩
  have e : b01 (0 ≤ a ∧ a ≤ (na : Int) - 1) = b01 (0 ≤ a ∧ a < (na : Int)) := b01_eq (by omega)
  have e0 : ((0 : Nat) : Int) = 0 := rfl
  simp only [YK, c158, t158, cl104, tgK, lyK, rkK, wK, rfK, hr, qRes_eq, qNon_eq, qup_ap, vup_ap, vcpy_ap, kc8_0, kc8_1, kc8_2, lc_lt, lc_gt, lc_eq, Option.toList_some, Option.toList_none, List.cons_append, List.nil_append, lay_len, lay_sz, Nat.reduceAdd, Nat.reduceSub, Nat.reduceMul, Int.reduceToNat, Int.reduceLE, Int.reduceLT, Int.reduceEq, Int.reduceAdd, Int.reduceSub, Int.reduceMul, Int.reduceNeg, Nat.reduceLeDiff, Nat.reduceLT, true_and, and_true, false_and, and_false, qcat_0, qcat_1, qcat_3, qcat_9, Nat.reduceEqDiff, if_true, if_false, ite_self, or_true, true_or, or_false, false_or, forall_const, not_true_eq_false, not_false_eq_true, false_implies, implies_true, qtK0, qtK1, qtK2, qtK3, qtK4, List.getD_cons_zero, List.getD_cons_succ, Int.toNat_natCast, ne_eq, qcK, h3, w1, e0]
  refine r104 a 0 ((na : Int) - 1) ?_
  rw [e]
  have := b01_r (p := 0 ≤ a ∧ a < (na : Int))
  simp only [YK, c158, t158, tgK, lyK, rkK, wK, rfK, qRes_eq, qNon_eq, qup_ap, vup_ap, vcpy_ap, kc8_0, kc8_1, kc8_2, lc_lt, lc_gt, lc_eq, Option.toList_some, Option.toList_none, List.cons_append, List.nil_append, lay_len, lay_sz, Nat.reduceAdd, Nat.reduceSub, Nat.reduceMul, Int.reduceToNat, Int.reduceLE, Int.reduceLT, Int.reduceEq, Int.reduceAdd, Int.reduceSub, Int.reduceMul, Int.reduceNeg, Nat.reduceLeDiff, Nat.reduceLT, true_and, and_true, false_and, and_false, qcat_0, qcat_1, qcat_3, qcat_9, Nat.reduceEqDiff, if_true, if_false, ite_self, or_true, true_or, or_false, false_or, forall_const, not_true_eq_false, not_false_eq_true, false_implies, implies_true, qtK0, qtK1, qtK2, qtK3, qtK4, List.getD_cons_zero, List.getD_cons_succ, Int.toNat_natCast, ne_eq, qcK]
  exact ⟨this, hk⟩
theorem r157 {tb : qTb} {F : XT} {R : Option qV → qM → Prop} (hf : Rf F) (a : Int) (n : Nat) (h3 : F 69 2 = (n : Int)) (hn : n ≤ 4) (hk : R (some (0, b01 (0 ≤ a ∧ a < (n : Int)))) (LAY, F)) : qW tb 157 (119, 1262) 0 [(3, 69), (0, a)] [] (LAY, F) R := by
  have hr := Rf_k hf
  have w1 : w32 ((n : Int) - 1) = (n : Int) - 1 := w32_id ⟨by omega, by omega⟩
  have e : b01 (0 ≤ a ∧ a ≤ (n : Int) - 1) = b01 (0 ≤ a ∧ a < (n : Int)) := b01_eq (by omega)
  have e0 : ((0 : Nat) : Int) = 0 := rfl
  simp only [YK, c157, t157, cl104, tgK, lyK, rkK, wK, rfK, hr, qRes_eq, qNon_eq, qup_ap, vup_ap, vcpy_ap, kc8_0, kc8_1, kc8_2, lc_lt, lc_gt, lc_eq, Option.toList_some, Option.toList_none, List.cons_append, List.nil_append, lay_len, lay_sz, Nat.reduceAdd, Nat.reduceSub, Nat.reduceMul, Int.reduceToNat, Int.reduceLE, Int.reduceLT, Int.reduceEq, Int.reduceAdd, Int.reduceSub, Int.reduceMul, Int.reduceNeg, Nat.reduceLeDiff, Nat.reduceLT, true_and, and_true, false_and, and_false, qcat_0, qcat_1, qcat_3, qcat_9, Nat.reduceEqDiff, if_true, if_false, ite_self, or_true, true_or, or_false, false_or, forall_const, not_true_eq_false, not_false_eq_true, false_implies, implies_true, qtK0, qtK1, qtK2, qtK3, qtK4, List.getD_cons_zero, List.getD_cons_succ, Int.toNat_natCast, ne_eq, qcK, h3, w1, e0]
  refine r104 a 0 ((n : Int) - 1) ?_
  rw [e]
  have := b01_r (p := 0 ≤ a ∧ a < (n : Int))
  simp only [YK, c157, t157, tgK, lyK, rkK, wK, rfK, qRes_eq, qNon_eq, qup_ap, vup_ap, vcpy_ap, kc8_0, kc8_1, kc8_2, lc_lt, lc_gt, lc_eq, Option.toList_some, Option.toList_none, List.cons_append, List.nil_append, lay_len, lay_sz, Nat.reduceAdd, Nat.reduceSub, Nat.reduceMul, Int.reduceToNat, Int.reduceLE, Int.reduceLT, Int.reduceEq, Int.reduceAdd, Int.reduceSub, Int.reduceMul, Int.reduceNeg, Nat.reduceLeDiff, Nat.reduceLT, true_and, and_true, false_and, and_false, qcat_0, qcat_1, qcat_3, qcat_9, Nat.reduceEqDiff, if_true, if_false, ite_self, or_true, true_or, or_false, false_or, forall_const, not_true_eq_false, not_false_eq_true, false_implies, implies_true, qtK0, qtK1, qtK2, qtK3, qtK4, List.getD_cons_zero, List.getD_cons_succ, Int.toNat_natCast, ne_eq, qcK]
  exact ⟨this, hk⟩
theorem k65 {tb : qTb} {F : XT} {R : Option qV → qM → Prop} (hf : Rf F) (a : Int) (na : Nat) (h3 : F 3 2 = (na : Int)) (hk : R (some (0, b01 (0 ≤ a ∧ a < (na : Int)))) (LAY, F)) : qW tb 65 (119, 1262) 0 [(3, 3), (0, a)] [] (LAY, F) R := by
  have hr := Rf_k hf
  by_cases c1 : 0 ≤ a
  · have d1 : (a < 0) = False := eq_false (by omega)
    by_cases c2 : a < (na : Int)
    · rw [b01_t ⟨c1, c2⟩] at hk
      simp only [YK, c65, t65, tgK, lyK, rkK, wK, rfK, hr, qRes_eq, qNon_eq, qup_ap, vup_ap, vcpy_ap, kc8_0, kc8_1, kc8_2, lc_lt, lc_gt, lc_eq, Option.toList_some, Option.toList_none, List.cons_append, List.nil_append, lay_len, lay_sz, Nat.reduceAdd, Nat.reduceSub, Nat.reduceMul, Int.reduceToNat, Int.reduceLE, Int.reduceLT, Int.reduceEq, Int.reduceAdd, Int.reduceSub, Int.reduceMul, Int.reduceNeg, Nat.reduceLeDiff, Nat.reduceLT, true_and, and_true, false_and, and_false, qcat_0, qcat_1, qcat_3, qcat_9, Nat.reduceEqDiff, if_true, if_false, ite_self, or_true, true_or, or_false, false_or, forall_const, not_true_eq_false, not_false_eq_true, false_implies, implies_true, qtK0, qtK1, qtK2, qtK3, qtK4, List.getD_cons_zero, List.getD_cons_succ, Int.toNat_natCast, ne_eq, qcK, h3, d1, c2]
      exact hk
    · rw [b01_f (fun q => c2 q.2)] at hk
      simp only [YK, c65, t65, tgK, lyK, rkK, wK, rfK, hr, qRes_eq, qNon_eq, qup_ap, vup_ap, vcpy_ap, kc8_0, kc8_1, kc8_2, lc_lt, lc_gt, lc_eq, Option.toList_some, Option.toList_none, List.cons_append, List.nil_append, lay_len, lay_sz, Nat.reduceAdd, Nat.reduceSub, Nat.reduceMul, Int.reduceToNat, Int.reduceLE, Int.reduceLT, Int.reduceEq, Int.reduceAdd, Int.reduceSub, Int.reduceMul, Int.reduceNeg, Nat.reduceLeDiff, Nat.reduceLT, true_and, and_true, false_and, and_false, qcat_0, qcat_1, qcat_3, qcat_9, Nat.reduceEqDiff, if_true, if_false, ite_self, or_true, true_or, or_false, false_or, forall_const, not_true_eq_false, not_false_eq_true, false_implies, implies_true, qtK0, qtK1, qtK2, qtK3, qtK4, List.getD_cons_zero, List.getD_cons_succ, Int.toNat_natCast, ne_eq, qcK, h3, d1, c2]
      exact hk
  · have d1 : (a < 0) = True := eq_true (by omega)
    rw [b01_f (fun q => c1 q.1)] at hk
    simp only [YK, c65, t65, tgK, lyK, rkK, wK, rfK, hr, qRes_eq, qNon_eq, qup_ap, vup_ap, vcpy_ap, kc8_0, kc8_1, kc8_2, lc_lt, lc_gt, lc_eq, Option.toList_some, Option.toList_none, List.cons_append, List.nil_append, lay_len, lay_sz, Nat.reduceAdd, Nat.reduceSub, Nat.reduceMul, Int.reduceToNat, Int.reduceLE, Int.reduceLT, Int.reduceEq, Int.reduceAdd, Int.reduceSub, Int.reduceMul, Int.reduceNeg, Nat.reduceLeDiff, Nat.reduceLT, true_and, and_true, false_and, and_false, qcat_0, qcat_1, qcat_3, qcat_9, Nat.reduceEqDiff, if_true, if_false, ite_self, or_true, true_or, or_false, false_or, forall_const, not_true_eq_false, not_false_eq_true, false_implies, implies_true, qtK0, qtK1, qtK2, qtK3, qtK4, List.getD_cons_zero, List.getD_cons_succ, Int.toNat_natCast, ne_eq, qcK, d1]
    exact hk
theorem k64 {tb : qTb} {F : XT} {R : Option qV → qM → Prop} (hf : Rf F) (a : Int) (n : Nat) (h3 : F 3 0 = (n : Int)) (hk : R (some (0, b01 (0 ≤ a ∧ a < (n : Int)))) (LAY, F)) : qW tb 64 (119, 1262) 0 [(3, 3), (0, a)] [] (LAY, F) R := by
  have hr := Rf_k hf
  by_cases c1 : 0 ≤ a
  · have d1 : (a < 0) = False := eq_false (by omega)
    by_cases c2 : a < (n : Int)
    · rw [b01_t ⟨c1, c2⟩] at hk
      simp only [YK, c64, t64, tgK, lyK, rkK, wK, rfK, hr, qRes_eq, qNon_eq, qup_ap, vup_ap, vcpy_ap, kc8_0, kc8_1, kc8_2, lc_lt, lc_gt, lc_eq, Option.toList_some, Option.toList_none, List.cons_append, List.nil_append, lay_len, lay_sz, Nat.reduceAdd, Nat.reduceSub, Nat.reduceMul, Int.reduceToNat, Int.reduceLE, Int.reduceLT, Int.reduceEq, Int.reduceAdd, Int.reduceSub, Int.reduceMul, Int.reduceNeg, Nat.reduceLeDiff, Nat.reduceLT, true_and, and_true, false_and, and_false, qcat_0, qcat_1, qcat_3, qcat_9, Nat.reduceEqDiff, if_true, if_false, ite_self, or_true, true_or, or_false, false_or, forall_const, not_true_eq_false, not_false_eq_true, false_implies, implies_true, qtK0, qtK1, qtK2, qtK3, qtK4, List.getD_cons_zero, List.getD_cons_succ, Int.toNat_natCast, ne_eq, qcK, h3, d1, c2]
      exact hk
    · rw [b01_f (fun q => c2 q.2)] at hk
      simp only [YK, c64, t64, tgK, lyK, rkK, wK, rfK, hr, qRes_eq, qNon_eq, qup_ap, vup_ap, vcpy_ap, kc8_0, kc8_1, kc8_2, lc_lt, lc_gt, lc_eq, Option.toList_some, Option.toList_none, List.cons_append, List.nil_append, lay_len, lay_sz, Nat.reduceAdd, Nat.reduceSub, Nat.reduceMul, Int.reduceToNat, Int.reduceLE, Int.reduceLT, Int.reduceEq, Int.reduceAdd, Int.reduceSub, Int.reduceMul, Int.reduceNeg, Nat.reduceLeDiff, Nat.reduceLT, true_and, and_true, false_and, and_false, qcat_0, qcat_1, qcat_3, qcat_9, Nat.reduceEqDiff, if_true, if_false, ite_self, or_true, true_or, or_false, false_or, forall_const, not_true_eq_false, not_false_eq_true, false_implies, implies_true, qtK0, qtK1, qtK2, qtK3, qtK4, List.getD_cons_zero, List.getD_cons_succ, Int.toNat_natCast, ne_eq, qcK, h3, d1, c2]
      exact hk
  · have d1 : (a < 0) = True := eq_true (by omega)
    rw [b01_f (fun q => c1 q.1)] at hk
    simp only [YK, c64, t64, tgK, lyK, rkK, wK, rfK, hr, qRes_eq, qNon_eq, qup_ap, vup_ap, vcpy_ap, kc8_0, kc8_1, kc8_2, lc_lt, lc_gt, lc_eq, Option.toList_some, Option.toList_none, List.cons_append, List.nil_append, lay_len, lay_sz, Nat.reduceAdd, Nat.reduceSub, Nat.reduceMul, Int.reduceToNat, Int.reduceLE, Int.reduceLT, Int.reduceEq, Int.reduceAdd, Int.reduceSub, Int.reduceMul, Int.reduceNeg, Nat.reduceLeDiff, Nat.reduceLT, true_and, and_true, false_and, and_false, qcat_0, qcat_1, qcat_3, qcat_9, Nat.reduceEqDiff, if_true, if_false, ite_self, or_true, true_or, or_false, false_or, forall_const, not_true_eq_false, not_false_eq_true, false_implies, implies_true, qtK0, qtK1, qtK2, qtK3, qtK4, List.getD_cons_zero, List.getD_cons_succ, Int.toNat_natCast, ne_eq, qcK, d1]
    exact hk
/-- the class's own way to the bits of a float -/
def CBO (b : Int) : Prop := ∀ (tb : qTb) (F : XT) (R : Option qV → qM → Prop), R (some (0, b)) (LAY, F) → qW tb 101 (119, 1262) 0 [(2, b), (9, 0), (9, 0), (9, 0), (9, 0)] [] (LAY, F) R
/-- all that is wanted of floats -/
def FA : Prop := FLT ∧ FLT2 ∧ BO4 ∧ (∀ b : Int, LnOK b → CBO b) ∧ ∀ m b : Int, RtOK m b → -3 ≤ m → m ≤ 24 → CBO b
def runX (F : XT) : XT := pIni 89 (-9) (layH F)
theorem PB89 {F : XT} (h : Rel F) : PB (F 89) (F 89 5) := by
  obtain ⟨-, -, -, ⟨p1, p2, p3⟩, -⟩ := h
  unfold PB at p1 ⊢
  rw [p3, p2 0 (by decide), p2 1 (by decide), p2 2 (by decide), p2 3 (by decide), p2 4 (by decide)]
  exact p1
theorem hours_ok {F : XT} {n ns na : Nat} (hR : Rel F) (hd : DN F n ns na) : ∀ a : Nat, a < na → F 10 a = layH F 96 a ∧ 0 ≤ layH F 96 a ∧ layH F 96 a ≤ 40 := by
  intro a ha
  obtain ⟨-, -, hD, -⟩ := hR
  obtain ⟨g1, g2, g3⟩ := hd
  have h2 := hD.2.1
  have := hD.2.2.2.2.2 a (by omega)
  rw [layH_96 (by omega)]
  omega
theorem now_ok {F : XT} {n ns na : Nat} (hR : Rel F) (hd : DN F n ns na) : Inv n ns na 0 0 (runX F, L0) ∧ ST n ns na 23 24 10 (-1) F (runX F) := by
  have hP := hR.2.2.2.1
  exact run_ok (F := F) (Fc := F) (G := layH F) (p := 23) (s := 24) (u := 10) (y := 89) (sp := -1) (v := -9) hR hd ⟨Or.inl ⟨rfl, rfl⟩, Or.inl rfl⟩ (fun c _ _ => rfl) (fun c h1 h2 => layH_c (by omega)) (fun j _ => by rw [layH_c (by decide)]) ⟨(Rf_k hR.1).2.1.2.2.2.2.2.2.2.2.2.2.2.1, fun k hk => by rw [layH_c (by decide)]; exact (hP.2.1 k hk).symm, by rw [layH_c (by decide)]; exact hP.2.2.symm⟩ (by rw [layH_c (by decide)]; exact PB89 hR) (hours_ok hR hd) (Or.inl ⟨rfl, rfl⟩)
theorem c_now {tb : qTb} {F : XT} {n ns na : Nat} {R : Option qV → qM → Prop} (hA : FA) (hR : Rel F) (hd : DN F n ns na) (last : Nat) (hl : last ≤ 79) (hk : ∀ F1, CC n na 23 10 (-1) F (pRunT n ns na (last + 1) (runX F, L0)) F1 → R none (LAY, F1)) : qW tb 8 (119, 1262) 0 [(3, 35), (3, 23), (3, 10), (0, -1), (0, (last : Int)), (9, 0)] [] (LAY, F) R :=
  k8 (p := 23) (s := 24) (u := 10) hA.1 hA.2.1 hR.1 (pIni_St0 89 (-9) (layH F)) (now_ok hR hd).2 (now_ok hR hd).1 last hl hk
theorem CR_Rel {p u : Nat} {sp : Int} {C X F : XT} {L : LT} {e b : Int} (hR : CR p u sp C X L e b F) (h : Rel C) : Rel F := by
  refine Rel_eq h hR.rf (fun c hc => hR.2.1 c (by unfold rlc at hc; unfold fx; omega)) (fun j _ => by rw [hR.2.1 69 (by unfold fx; decide)])
theorem CR_fx {p u : Nat} {sp : Int} {C X F : XT} {L : LT} {e b : Int} (hR : CR p u sp C X L e b F) : ∀ c : Nat, 69 ≤ c → F c = C c := fun c hc => hR.2.1 c (by unfold fx; omega)
theorem layH_eq {F G : XT} (h : ∀ c : Nat, 69 ≤ c → G c = F c) : ∀ c : Nat, 69 ≤ c → layH G c = layH F c := by
  intro c hc
  funext j
  unfold layH
  rw [vup_ap, vup_ap, h c hc, h 77 (by decide), h 96 (by decide)]
theorem runX_eq {F G : XT} (h : ∀ c : Nat, 69 ≤ c → G c = F c) : ∀ c : Nat, 69 ≤ c → runX F c = pIni 89 (-9) (layH G) c := fun c hc => (pIni_eq (by decide) (layH_eq h) c hc).symm
theorem r_now {tb : qTb} {F : XT} {n ns na : Nat} {R : Option qV → qM → Prop} (hA : FA) (hR : Rel F) (X : XT) (hX : ∀ c : Nat, 69 ≤ c → X c = pIni 89 (-9) (layH F) c) (hI : Inv n ns na 0 0 (X, L0)) (last : Nat) (hl : last ≤ 79) (hk : ∀ F2, RR (layH F) (pRunT n ns na (last + 1) (X, L0)).1 (pRunT n ns na (last + 1) (X, L0)).2 F2 → Rel F2 → R none (LAY, F2)) : qW tb 149 (119, 1262) 0 [(3, 69), (0, (last : Int))] [] (LAY, F) R := by
  have hr := Rf_k hR.1
  simp only [YK, c149, t149, cl150, tgK, lyK, rkK, wK, rfK, hr, qRes_eq, qNon_eq, qup_ap, vup_ap, vcpy_ap, kc8_0, kc8_1, kc8_2, lc_lt, lc_gt, lc_eq, Option.toList_some, Option.toList_none, List.cons_append, List.nil_append, lay_len, lay_sz, Nat.reduceAdd, Nat.reduceSub, Nat.reduceMul, Int.reduceToNat, Int.reduceLE, Int.reduceLT, Int.reduceEq, Int.reduceAdd, Int.reduceSub, Int.reduceMul, Int.reduceNeg, Nat.reduceLeDiff, Nat.reduceLT, true_and, and_true, false_and, and_false, qcat_0, qcat_1, qcat_3, qcat_9, Nat.reduceEqDiff, if_true, if_false, ite_self, or_true, true_or, or_false, false_or, forall_const, not_true_eq_false, not_false_eq_true, false_implies, implies_true, qtK0, qtK1, qtK2, qtK3, qtK4, List.getD_cons_zero, List.getD_cons_succ, Int.toNat_natCast, ne_eq, qcK]
  refine r150 hR.1 ?_
  have hr1 : layH F 69 28 = 89 := by rw [layH_c (by decide)]; exact (Rf_k hR.1).2.2.2.2.1.2.2.2.2.2.2.2.2.1
  simp only [YK, c149, t149, cl148, tgK, lyK, rkK, wK, rfK, qRes_eq, qNon_eq, qup_ap, vup_ap, vcpy_ap, kc8_0, kc8_1, kc8_2, lc_lt, lc_gt, lc_eq, Option.toList_some, Option.toList_none, List.cons_append, List.nil_append, lay_len, lay_sz, Nat.reduceAdd, Nat.reduceSub, Nat.reduceMul, Int.reduceToNat, Int.reduceLE, Int.reduceLT, Int.reduceEq, Int.reduceAdd, Int.reduceSub, Int.reduceMul, Int.reduceNeg, Nat.reduceLeDiff, Nat.reduceLT, true_and, and_true, false_and, and_false, qcat_0, qcat_1, qcat_3, qcat_9, Nat.reduceEqDiff, if_true, if_false, ite_self, or_true, true_or, or_false, false_or, forall_const, not_true_eq_false, not_false_eq_true, false_implies, implies_true, qtK0, qtK1, qtK2, qtK3, qtK4, List.getD_cons_zero, List.getD_cons_succ, Int.toNat_natCast, ne_eq, qcK, hr1]
  refine r148 (y := 89) hA.1 hA.2.2.1 (layH_Rf hR.1) (Or.inl rfl) (-9) (fun c hc => hX c hc.1) hI last hl ?_
  intro F2 hRR
  have hq := hk F2 hRR (Rel_RR (G := layH F) hR (fun c hc => layH_c (by unfold rlc at hc; omega)) (fun j _ => by rw [layH_c (by decide)]) (fun c hc => hX c hc.1) (KP_run (S := (X, L0)) _) hRR)
  simp only [YK, c149, t149, tgK, lyK, rkK, wK, rfK, qRes_eq, qNon_eq, qup_ap, vup_ap, vcpy_ap, kc8_0, kc8_1, kc8_2, lc_lt, lc_gt, lc_eq, Option.toList_some, Option.toList_none, List.cons_append, List.nil_append, lay_len, lay_sz, Nat.reduceAdd, Nat.reduceSub, Nat.reduceMul, Int.reduceToNat, Int.reduceLE, Int.reduceLT, Int.reduceEq, Int.reduceAdd, Int.reduceSub, Int.reduceMul, Int.reduceNeg, Nat.reduceLeDiff, Nat.reduceLT, true_and, and_true, false_and, and_false, qcat_0, qcat_1, qcat_3, qcat_9, Nat.reduceEqDiff, if_true, if_false, ite_self, or_true, true_or, or_false, false_or, forall_const, not_true_eq_false, not_false_eq_true, false_implies, implies_true, qtK0, qtK1, qtK2, qtK3, qtK4, List.getD_cons_zero, List.getD_cons_succ, Int.toNat_natCast, ne_eq, qcK]
  exact hq
/-! how many asks are so, sums over hosts -/
def mT (X : XT) (how : Int) : Nat → Int
  | 0 => 0
  | k + 1 => mT X how k + b01 (X 98 k = how)
theorem mT_r (X : XT) (how : Int) : ∀ k : Nat, 0 ≤ mT X how k ∧ mT X how k ≤ (k : Int) := by
  intro k
  induction k with
  | zero => exact ⟨Int.le_refl _, Int.le_refl _⟩
  | succ k ih =>
    unfold mT
    have := b01_r (p := X 98 k = how)
    omega
def smT (f : Nat → Int) : Nat → Int
  | 0 => 0
  | k + 1 => w32 (smT f k + f k)
theorem r151 {tb : qTb} {C X F : XT} {L : LT} {R : Option qV → qM → Prop} (hR : RR C X L F) (how : Int) (na : Nat) (hn : X 69 3 = (na : Int)) (hna : na ≤ 12) (hk : R (some (0, mT X how na)) (LAY, F)) : qW tb 151 (119, 1262) 0 [(3, 69), (0, how), (9, 0), (9, 0)] [] (LAY, F) R := by
  have hr := Rf_k hR.rf
  have hx := hR.k
  have hloop : ∀ (m a : Nat), a + m = na → qW tb 151 (119, 1262) 4 [(3, 69), (0, how), (0, mT X how a), (0, (a : Int))] [] (LAY, F) R := by
    intro m
    induction m with
    | zero =>
      intro a hm
      have ea : a = na := by omega
      subst ea
      have b1 : ((a : Int) < (a : Int)) = False := eq_false (by omega)
      rw [h151_4]
      simp only [YK, c151, t151, tgK, lyK, rkK, wK, rfK, hr, qRes_eq, qNon_eq, qup_ap, vup_ap, vcpy_ap, kc8_0, kc8_1, kc8_2, lc_lt, lc_gt, lc_eq, Option.toList_some, Option.toList_none, List.cons_append, List.nil_append, lay_len, lay_sz, Nat.reduceAdd, Nat.reduceSub, Nat.reduceMul, Int.reduceToNat, Int.reduceLE, Int.reduceLT, Int.reduceEq, Int.reduceAdd, Int.reduceSub, Int.reduceMul, Int.reduceNeg, Nat.reduceLeDiff, Nat.reduceLT, true_and, and_true, false_and, and_false, qcat_0, qcat_1, qcat_3, qcat_9, Nat.reduceEqDiff, if_true, if_false, ite_self, or_true, true_or, or_false, false_or, forall_const, not_true_eq_false, not_false_eq_true, false_implies, implies_true, qtK0, qtK1, qtK2, qtK3, qtK4, List.getD_cons_zero, List.getD_cons_succ, hx, Int.toNat_natCast, ne_eq, qcK, hn, b1]
      exact hk
    | succ m ih =>
      intro a hm
      have b1 : ((a : Int) < (na : Int)) = True := eq_true (by omega)
      have b2 : (0 ≤ (a : Int) ∧ (a : Int) < 12) = True := eq_true (by omega)
      have w1 : w32 ((a : Int) + 1) = ((a + 1 : Nat) : Int) := by rw [w32_id ⟨by omega, by omega⟩]; omega
      have hb := mT_r X how a
      have hi := ih (a + 1) (by omega)
      unfold mT at hi
      rw [h151_4]
      by_cases c : X 98 a = how
      · rw [b01_t c] at hi
        have w2 : w32 (mT X how a + 1) = mT X how a + 1 := w32_id ⟨by omega, by omega⟩
        simp only [YK, c151, t151, tgK, lyK, rkK, wK, rfK, hr, qRes_eq, qNon_eq, qup_ap, vup_ap, vcpy_ap, kc8_0, kc8_1, kc8_2, lc_lt, lc_gt, lc_eq, Option.toList_some, Option.toList_none, List.cons_append, List.nil_append, lay_len, lay_sz, Nat.reduceAdd, Nat.reduceSub, Nat.reduceMul, Int.reduceToNat, Int.reduceLE, Int.reduceLT, Int.reduceEq, Int.reduceAdd, Int.reduceSub, Int.reduceMul, Int.reduceNeg, Nat.reduceLeDiff, Nat.reduceLT, true_and, and_true, false_and, and_false, qcat_0, qcat_1, qcat_3, qcat_9, Nat.reduceEqDiff, if_true, if_false, ite_self, or_true, true_or, or_false, false_or, forall_const, not_true_eq_false, not_false_eq_true, false_implies, implies_true, qtK0, qtK1, qtK2, qtK3, qtK4, List.getD_cons_zero, List.getD_cons_succ, hx, Int.toNat_natCast, ne_eq, qcK, hn, b1, b2, w1, c, w2]
        exact hi
      · rw [b01_f c] at hi
        have w2 : w32 (mT X how a + 0) = mT X how a + 0 := w32_id ⟨by omega, by omega⟩
        simp only [YK, c151, t151, tgK, lyK, rkK, wK, rfK, hr, qRes_eq, qNon_eq, qup_ap, vup_ap, vcpy_ap, kc8_0, kc8_1, kc8_2, lc_lt, lc_gt, lc_eq, Option.toList_some, Option.toList_none, List.cons_append, List.nil_append, lay_len, lay_sz, Nat.reduceAdd, Nat.reduceSub, Nat.reduceMul, Int.reduceToNat, Int.reduceLE, Int.reduceLT, Int.reduceEq, Int.reduceAdd, Int.reduceSub, Int.reduceMul, Int.reduceNeg, Nat.reduceLeDiff, Nat.reduceLT, true_and, and_true, false_and, and_false, qcat_0, qcat_1, qcat_3, qcat_9, Nat.reduceEqDiff, if_true, if_false, ite_self, or_true, true_or, or_false, false_or, forall_const, not_true_eq_false, not_false_eq_true, false_implies, implies_true, qtK0, qtK1, qtK2, qtK3, qtK4, List.getD_cons_zero, List.getD_cons_succ, hx, Int.toNat_natCast, ne_eq, qcK, hn, b1, b2, w1, c, w2]
        exact hi
  simp only [YK, c151, t151, tgK, lyK, rkK, wK, rfK, hr, qRes_eq, qNon_eq, qup_ap, vup_ap, vcpy_ap, kc8_0, kc8_1, kc8_2, lc_lt, lc_gt, lc_eq, Option.toList_some, Option.toList_none, List.cons_append, List.nil_append, lay_len, lay_sz, Nat.reduceAdd, Nat.reduceSub, Nat.reduceMul, Int.reduceToNat, Int.reduceLE, Int.reduceLT, Int.reduceEq, Int.reduceAdd, Int.reduceSub, Int.reduceMul, Int.reduceNeg, Nat.reduceLeDiff, Nat.reduceLT, true_and, and_true, false_and, and_false, qcat_0, qcat_1, qcat_3, qcat_9, Nat.reduceEqDiff, if_true, if_false, ite_self, or_true, true_or, or_false, false_or, forall_const, not_true_eq_false, not_false_eq_true, false_implies, implies_true, qtK0, qtK1, qtK2, qtK3, qtK4, List.getD_cons_zero, List.getD_cons_succ, hx, Int.toNat_natCast, ne_eq, qcK, hn]
  exact hloop na 0 (by omega)
theorem r152_115 {tb : qTb} {C X F : XT} {L : LT} {R : Option qV → qM → Prop} (hR : RR C X L F) (n : Nat) (hn : X 69 2 = (n : Int)) (hn4 : n ≤ 4) (hk : R (some (0, smT (X 115) n)) (LAY, F)) : qW tb 152 (119, 1262) 0 [(3, 69), (3, 115), (9, 0), (9, 0)] [] (LAY, F) R := by
  have hr := Rf_k hR.rf
  have hx := hR.k
  have hloop : ∀ (m h : Nat), h + m = n → qW tb 152 (119, 1262) 4 [(3, 69), (3, 115), (0, smT (X 115) h), (0, (h : Int))] [] (LAY, F) R := by
    intro m
    induction m with
    | zero =>
      intro h hm
      have eh : h = n := by omega
      subst eh
      have b1 : ((h : Int) < (h : Int)) = False := eq_false (by omega)
      rw [h152_4]
      simp only [YK, c152, t152, tgK, lyK, rkK, wK, rfK, hr, qRes_eq, qNon_eq, qup_ap, vup_ap, vcpy_ap, kc8_0, kc8_1, kc8_2, lc_lt, lc_gt, lc_eq, Option.toList_some, Option.toList_none, List.cons_append, List.nil_append, lay_len, lay_sz, Nat.reduceAdd, Nat.reduceSub, Nat.reduceMul, Int.reduceToNat, Int.reduceLE, Int.reduceLT, Int.reduceEq, Int.reduceAdd, Int.reduceSub, Int.reduceMul, Int.reduceNeg, Nat.reduceLeDiff, Nat.reduceLT, true_and, and_true, false_and, and_false, qcat_0, qcat_1, qcat_3, qcat_9, Nat.reduceEqDiff, if_true, if_false, ite_self, or_true, true_or, or_false, false_or, forall_const, not_true_eq_false, not_false_eq_true, false_implies, implies_true, qtK0, qtK1, qtK2, qtK3, qtK4, List.getD_cons_zero, List.getD_cons_succ, hx, Int.toNat_natCast, ne_eq, qcK, hn, b1]
      exact hk
    | succ m ih =>
      intro h hm
      have b1 : ((h : Int) < (n : Int)) = True := eq_true (by omega)
      have b2 : (0 ≤ (h : Int) ∧ (h : Int) < 4) = True := eq_true (by omega)
      have w1 : w32 ((h : Int) + 1) = ((h + 1 : Nat) : Int) := by rw [w32_id ⟨by omega, by omega⟩]; omega
      have hi := ih (h + 1) (by omega)
      unfold smT at hi
      rw [h152_4]
      simp only [YK, c152, t152, tgK, lyK, rkK, wK, rfK, hr, qRes_eq, qNon_eq, qup_ap, vup_ap, vcpy_ap, kc8_0, kc8_1, kc8_2, lc_lt, lc_gt, lc_eq, Option.toList_some, Option.toList_none, List.cons_append, List.nil_append, lay_len, lay_sz, Nat.reduceAdd, Nat.reduceSub, Nat.reduceMul, Int.reduceToNat, Int.reduceLE, Int.reduceLT, Int.reduceEq, Int.reduceAdd, Int.reduceSub, Int.reduceMul, Int.reduceNeg, Nat.reduceLeDiff, Nat.reduceLT, true_and, and_true, false_and, and_false, qcat_0, qcat_1, qcat_3, qcat_9, Nat.reduceEqDiff, if_true, if_false, ite_self, or_true, true_or, or_false, false_or, forall_const, not_true_eq_false, not_false_eq_true, false_implies, implies_true, qtK0, qtK1, qtK2, qtK3, qtK4, List.getD_cons_zero, List.getD_cons_succ, hx, Int.toNat_natCast, ne_eq, qcK, hn, b1, b2, w1]
      exact hi
  simp only [YK, c152, t152, tgK, lyK, rkK, wK, rfK, hr, qRes_eq, qNon_eq, qup_ap, vup_ap, vcpy_ap, kc8_0, kc8_1, kc8_2, lc_lt, lc_gt, lc_eq, Option.toList_some, Option.toList_none, List.cons_append, List.nil_append, lay_len, lay_sz, Nat.reduceAdd, Nat.reduceSub, Nat.reduceMul, Int.reduceToNat, Int.reduceLE, Int.reduceLT, Int.reduceEq, Int.reduceAdd, Int.reduceSub, Int.reduceMul, Int.reduceNeg, Nat.reduceLeDiff, Nat.reduceLT, true_and, and_true, false_and, and_false, qcat_0, qcat_1, qcat_3, qcat_9, Nat.reduceEqDiff, if_true, if_false, ite_self, or_true, true_or, or_false, false_or, forall_const, not_true_eq_false, not_false_eq_true, false_implies, implies_true, qtK0, qtK1, qtK2, qtK3, qtK4, List.getD_cons_zero, List.getD_cons_succ, hx, Int.toNat_natCast, ne_eq, qcK, hn]
  exact hloop n 0 (by omega)
theorem r152_117 {tb : qTb} {C X F : XT} {L : LT} {R : Option qV → qM → Prop} (hR : RR C X L F) (n : Nat) (hn : X 69 2 = (n : Int)) (hn4 : n ≤ 4) (hk : R (some (0, smT (X 117) n)) (LAY, F)) : qW tb 152 (119, 1262) 0 [(3, 69), (3, 117), (9, 0), (9, 0)] [] (LAY, F) R := by
  have hr := Rf_k hR.rf
  have hx := hR.k
  have hloop : ∀ (m h : Nat), h + m = n → qW tb 152 (119, 1262) 4 [(3, 69), (3, 117), (0, smT (X 117) h), (0, (h : Int))] [] (LAY, F) R := by
    intro m
    induction m with
    | zero =>
      intro h hm
      have eh : h = n := by omega
      subst eh
      have b1 : ((h : Int) < (h : Int)) = False := eq_false (by omega)
      rw [h152_4]
      simp only [YK, c152, t152, tgK, lyK, rkK, wK, rfK, hr, qRes_eq, qNon_eq, qup_ap, vup_ap, vcpy_ap, kc8_0, kc8_1, kc8_2, lc_lt, lc_gt, lc_eq, Option.toList_some, Option.toList_none, List.cons_append, List.nil_append, lay_len, lay_sz, Nat.reduceAdd, Nat.reduceSub, Nat.reduceMul, Int.reduceToNat, Int.reduceLE, Int.reduceLT, Int.reduceEq, Int.reduceAdd, Int.reduceSub, Int.reduceMul, Int.reduceNeg, Nat.reduceLeDiff, Nat.reduceLT, true_and, and_true, false_and, and_false, qcat_0, qcat_1, qcat_3, qcat_9, Nat.reduceEqDiff, if_true, if_false, ite_self, or_true, true_or, or_false, false_or, forall_const, not_true_eq_false, not_false_eq_true, false_implies, implies_true, qtK0, qtK1, qtK2, qtK3, qtK4, List.getD_cons_zero, List.getD_cons_succ, hx, Int.toNat_natCast, ne_eq, qcK, hn, b1]
      exact hk
    | succ m ih =>
      intro h hm
      have b1 : ((h : Int) < (n : Int)) = True := eq_true (by omega)
      have b2 : (0 ≤ (h : Int) ∧ (h : Int) < 4) = True := eq_true (by omega)
      have w1 : w32 ((h : Int) + 1) = ((h + 1 : Nat) : Int) := by rw [w32_id ⟨by omega, by omega⟩]; omega
      have hi := ih (h + 1) (by omega)
      unfold smT at hi
      rw [h152_4]
      simp only [YK, c152, t152, tgK, lyK, rkK, wK, rfK, hr, qRes_eq, qNon_eq, qup_ap, vup_ap, vcpy_ap, kc8_0, kc8_1, kc8_2, lc_lt, lc_gt, lc_eq, Option.toList_some, Option.toList_none, List.cons_append, List.nil_append, lay_len, lay_sz, Nat.reduceAdd, Nat.reduceSub, Nat.reduceMul, Int.reduceToNat, Int.reduceLE, Int.reduceLT, Int.reduceEq, Int.reduceAdd, Int.reduceSub, Int.reduceMul, Int.reduceNeg, Nat.reduceLeDiff, Nat.reduceLT, true_and, and_true, false_and, and_false, qcat_0, qcat_1, qcat_3, qcat_9, Nat.reduceEqDiff, if_true, if_false, ite_self, or_true, true_or, or_false, false_or, forall_const, not_true_eq_false, not_false_eq_true, false_implies, implies_true, qtK0, qtK1, qtK2, qtK3, qtK4, List.getD_cons_zero, List.getD_cons_succ, hx, Int.toNat_natCast, ne_eq, qcK, hn, b1, b2, w1]
      exact hi
  simp only [YK, c152, t152, tgK, lyK, rkK, wK, rfK, hr, qRes_eq, qNon_eq, qup_ap, vup_ap, vcpy_ap, kc8_0, kc8_1, kc8_2, lc_lt, lc_gt, lc_eq, Option.toList_some, Option.toList_none, List.cons_append, List.nil_append, lay_len, lay_sz, Nat.reduceAdd, Nat.reduceSub, Nat.reduceMul, Int.reduceToNat, Int.reduceLE, Int.reduceLT, Int.reduceEq, Int.reduceAdd, Int.reduceSub, Int.reduceMul, Int.reduceNeg, Nat.reduceLeDiff, Nat.reduceLT, true_and, and_true, false_and, and_false, qcat_0, qcat_1, qcat_3, qcat_9, Nat.reduceEqDiff, if_true, if_false, ite_self, or_true, true_or, or_false, false_or, forall_const, not_true_eq_false, not_false_eq_true, false_implies, implies_true, qtK0, qtK1, qtK2, qtK3, qtK4, List.getD_cons_zero, List.getD_cons_succ, hx, Int.toNat_natCast, ne_eq, qcK, hn]
  exact hloop n 0 (by omega)
theorem k26 {tb : qTb} {p u : Nat} {sp : Int} {C X F : XT} {L : LT} {e b : Int} {R : Option qV → qM → Prop} (hR : CR p u sp C X L e b F) (how : Int) (na : Nat) (h3 : C 3 2 = (na : Int)) (hna : na ≤ 12) (hk : R (some (0, mT X how na)) (LAY, F)) : qW tb 26 (119, 1262) 0 [(3, 35), (0, how), (9, 0), (9, 0)] [] (LAY, F) R := by
  have hr := Rf_k hR.rf
  have hx := hR.k
  unfold CD at hx
  have hloop : ∀ (m a : Nat), a + m = na → qW tb 26 (119, 1262) 4 [(3, 35), (0, how), (0, mT X how a), (0, (a : Int))] [] (LAY, F) R := by
    intro m
    induction m with
    | zero =>
      intro a hm
      have ea : a = na := by omega
      subst ea
      have b1 : ((a : Int) < (a : Int)) = False := eq_false (by omega)
      rw [h26_4]
      simp only [YK, c26, t26, tgK, lyK, rkK, wK, rfK, hr, qRes_eq, qNon_eq, qup_ap, vup_ap, vcpy_ap, kc8_0, kc8_1, kc8_2, lc_lt, lc_gt, lc_eq, Option.toList_some, Option.toList_none, List.cons_append, List.nil_append, lay_len, lay_sz, Nat.reduceAdd, Nat.reduceSub, Nat.reduceMul, Int.reduceToNat, Int.reduceLE, Int.reduceLT, Int.reduceEq, Int.reduceAdd, Int.reduceSub, Int.reduceMul, Int.reduceNeg, Nat.reduceLeDiff, Nat.reduceLT, true_and, and_true, false_and, and_false, qcat_0, qcat_1, qcat_3, qcat_9, Nat.reduceEqDiff, if_true, if_false, ite_self, or_true, true_or, or_false, false_or, forall_const, not_true_eq_false, not_false_eq_true, false_implies, implies_true, qtK0, qtK1, qtK2, qtK3, qtK4, List.getD_cons_zero, List.getD_cons_succ, hx, Int.toNat_natCast, ne_eq, qcK, hbF, bsetF, bclrF, h3, b1]
      exact hk
    | succ m ih =>
      intro a hm
      have b1 : ((a : Int) < (na : Int)) = True := eq_true (by omega)
      have b2 : (0 ≤ (a : Int) ∧ (a : Int) < 12) = True := eq_true (by omega)
      have w1 : w32 ((a : Int) + 1) = ((a + 1 : Nat) : Int) := by rw [w32_id ⟨by omega, by omega⟩]; omega
      have hb := mT_r X how a
      have e37 := (hR.2.2.2.2.1 a (by omega)).1
      have hi := ih (a + 1) (by omega)
      unfold mT at hi
      rw [h26_4]
      by_cases c : X 98 a = how
      · rw [b01_t c] at hi
        have w2 : w32 (mT X how a + 1) = mT X how a + 1 := w32_id ⟨by omega, by omega⟩
        simp only [YK, c26, t26, tgK, lyK, rkK, wK, rfK, hr, qRes_eq, qNon_eq, qup_ap, vup_ap, vcpy_ap, kc8_0, kc8_1, kc8_2, lc_lt, lc_gt, lc_eq, Option.toList_some, Option.toList_none, List.cons_append, List.nil_append, lay_len, lay_sz, Nat.reduceAdd, Nat.reduceSub, Nat.reduceMul, Int.reduceToNat, Int.reduceLE, Int.reduceLT, Int.reduceEq, Int.reduceAdd, Int.reduceSub, Int.reduceMul, Int.reduceNeg, Nat.reduceLeDiff, Nat.reduceLT, true_and, and_true, false_and, and_false, qcat_0, qcat_1, qcat_3, qcat_9, Nat.reduceEqDiff, if_true, if_false, ite_self, or_true, true_or, or_false, false_or, forall_const, not_true_eq_false, not_false_eq_true, false_implies, implies_true, qtK0, qtK1, qtK2, qtK3, qtK4, List.getD_cons_zero, List.getD_cons_succ, hx, Int.toNat_natCast, ne_eq, qcK, hbF, bsetF, bclrF, h3, b1, b2, w1, e37, c, w2]
        exact hi
      · rw [b01_f c] at hi
        have w2 : w32 (mT X how a + 0) = mT X how a + 0 := w32_id ⟨by omega, by omega⟩
        simp only [YK, c26, t26, tgK, lyK, rkK, wK, rfK, hr, qRes_eq, qNon_eq, qup_ap, vup_ap, vcpy_ap, kc8_0, kc8_1, kc8_2, lc_lt, lc_gt, lc_eq, Option.toList_some, Option.toList_none, List.cons_append, List.nil_append, lay_len, lay_sz, Nat.reduceAdd, Nat.reduceSub, Nat.reduceMul, Int.reduceToNat, Int.reduceLE, Int.reduceLT, Int.reduceEq, Int.reduceAdd, Int.reduceSub, Int.reduceMul, Int.reduceNeg, Nat.reduceLeDiff, Nat.reduceLT, true_and, and_true, false_and, and_false, qcat_0, qcat_1, qcat_3, qcat_9, Nat.reduceEqDiff, if_true, if_false, ite_self, or_true, true_or, or_false, false_or, forall_const, not_true_eq_false, not_false_eq_true, false_implies, implies_true, qtK0, qtK1, qtK2, qtK3, qtK4, List.getD_cons_zero, List.getD_cons_succ, hx, Int.toNat_natCast, ne_eq, qcK, hbF, bsetF, bclrF, h3, b1, b2, w1, e37, c, w2]
        exact hi
  simp only [YK, c26, t26, tgK, lyK, rkK, wK, rfK, hr, qRes_eq, qNon_eq, qup_ap, vup_ap, vcpy_ap, kc8_0, kc8_1, kc8_2, lc_lt, lc_gt, lc_eq, Option.toList_some, Option.toList_none, List.cons_append, List.nil_append, lay_len, lay_sz, Nat.reduceAdd, Nat.reduceSub, Nat.reduceMul, Int.reduceToNat, Int.reduceLE, Int.reduceLT, Int.reduceEq, Int.reduceAdd, Int.reduceSub, Int.reduceMul, Int.reduceNeg, Nat.reduceLeDiff, Nat.reduceLT, true_and, and_true, false_and, and_false, qcat_0, qcat_1, qcat_3, qcat_9, Nat.reduceEqDiff, if_true, if_false, ite_self, or_true, true_or, or_false, false_or, forall_const, not_true_eq_false, not_false_eq_true, false_implies, implies_true, qtK0, qtK1, qtK2, qtK3, qtK4, List.getD_cons_zero, List.getD_cons_succ, hx, Int.toNat_natCast, ne_eq, qcK, hbF, bsetF, bclrF, h3]
  exact hloop na 0 (by omega)
theorem k27 {tb : qTb} {p u : Nat} {sp : Int} {C X F : XT} {L : LT} {e b : Int} {R : Option qV → qM → Prop} (hR : CR p u sp C X L e b F) (n : Nat) (h3 : C 3 0 = (n : Int)) (hn4 : n ≤ 4) (hk : R (some (0, smT (X 115) n)) (LAY, F)) : qW tb 27 (119, 1262) 0 [(3, 35), (9, 0), (9, 0)] [] (LAY, F) R := by
  have hr := Rf_k hR.rf
  have hx := hR.k
  unfold CD at hx
  have hloop : ∀ (m h : Nat), h + m = n → qW tb 27 (119, 1262) 4 [(3, 35), (0, smT (X 115) h), (0, (h : Int))] [] (LAY, F) R := by
    intro m
    induction m with
    | zero =>
      intro h hm
      have eh : h = n := by omega
      subst eh
      have b1 : ((h : Int) < (h : Int)) = False := eq_false (by omega)
      rw [h27_4]
      simp only [YK, c27, t27, tgK, lyK, rkK, wK, rfK, hr, qRes_eq, qNon_eq, qup_ap, vup_ap, vcpy_ap, kc8_0, kc8_1, kc8_2, lc_lt, lc_gt, lc_eq, Option.toList_some, Option.toList_none, List.cons_append, List.nil_append, lay_len, lay_sz, Nat.reduceAdd, Nat.reduceSub, Nat.reduceMul, Int.reduceToNat, Int.reduceLE, Int.reduceLT, Int.reduceEq, Int.reduceAdd, Int.reduceSub, Int.reduceMul, Int.reduceNeg, Nat.reduceLeDiff, Nat.reduceLT, true_and, and_true, false_and, and_false, qcat_0, qcat_1, qcat_3, qcat_9, Nat.reduceEqDiff, if_true, if_false, ite_self, or_true, true_or, or_false, false_or, forall_const, not_true_eq_false, not_false_eq_true, false_implies, implies_true, qtK0, qtK1, qtK2, qtK3, qtK4, List.getD_cons_zero, List.getD_cons_succ, hx, Int.toNat_natCast, ne_eq, qcK, hbF, bsetF, bclrF, h3, b1]
      exact hk
    | succ m ih =>
      intro h hm
      have hh : h < 4 := by omega
      have hg := hR.h hh
      have hc0 := hcK0 hh
      have hc1 := hcK1 h
      have b1 : ((h : Int) < (n : Int)) = True := eq_true (by omega)
      have b2 : (0 ≤ (h : Int) ∧ (h : Int) < 4) = True := eq_true (by omega)
      have w1 : w32 ((h : Int) + 1) = ((h + 1 : Nat) : Int) := by rw [w32_id ⟨by omega, by omega⟩]; omega
      have hi := ih (h + 1) (by omega)
      unfold smT at hi
      rw [h27_4]
      simp only [YK, c27, t27, tgK, lyK, rkK, wK, rfK, hr, qRes_eq, qNon_eq, qup_ap, vup_ap, vcpy_ap, kc8_0, kc8_1, kc8_2, lc_lt, lc_gt, lc_eq, Option.toList_some, Option.toList_none, List.cons_append, List.nil_append, lay_len, lay_sz, Nat.reduceAdd, Nat.reduceSub, Nat.reduceMul, Int.reduceToNat, Int.reduceLE, Int.reduceLT, Int.reduceEq, Int.reduceAdd, Int.reduceSub, Int.reduceMul, Int.reduceNeg, Nat.reduceLeDiff, Nat.reduceLT, true_and, and_true, false_and, and_false, qcat_0, qcat_1, qcat_3, qcat_9, Nat.reduceEqDiff, if_true, if_false, ite_self, or_true, true_or, or_false, false_or, forall_const, not_true_eq_false, not_false_eq_true, false_implies, implies_true, qtK0, qtK1, qtK2, qtK3, qtK4, List.getD_cons_zero, List.getD_cons_succ, hx, Int.toNat_natCast, ne_eq, qcK, hbF, bsetF, bclrF, h3, hg, hc0, hc1, b1, b2, w1]
      exact hi
  simp only [YK, c27, t27, tgK, lyK, rkK, wK, rfK, hr, qRes_eq, qNon_eq, qup_ap, vup_ap, vcpy_ap, kc8_0, kc8_1, kc8_2, lc_lt, lc_gt, lc_eq, Option.toList_some, Option.toList_none, List.cons_append, List.nil_append, lay_len, lay_sz, Nat.reduceAdd, Nat.reduceSub, Nat.reduceMul, Int.reduceToNat, Int.reduceLE, Int.reduceLT, Int.reduceEq, Int.reduceAdd, Int.reduceSub, Int.reduceMul, Int.reduceNeg, Nat.reduceLeDiff, Nat.reduceLT, true_and, and_true, false_and, and_false, qcat_0, qcat_1, qcat_3, qcat_9, Nat.reduceEqDiff, if_true, if_false, ite_self, or_true, true_or, or_false, false_or, forall_const, not_true_eq_false, not_false_eq_true, false_implies, implies_true, qtK0, qtK1, qtK2, qtK3, qtK4, List.getD_cons_zero, List.getD_cons_succ, hx, Int.toNat_natCast, ne_eq, qcK, hbF, bsetF, bclrF, h3]
  exact hloop n 0 (by omega)
theorem k28 {tb : qTb} {p u : Nat} {sp : Int} {C X F : XT} {L : LT} {e b : Int} {R : Option qV → qM → Prop} (hR : CR p u sp C X L e b F) (n : Nat) (h3 : C 3 0 = (n : Int)) (hn4 : n ≤ 4) (hk : R (some (0, smT (X 117) n)) (LAY, F)) : qW tb 28 (119, 1262) 0 [(3, 35), (9, 0), (9, 0)] [] (LAY, F) R := by
  have hr := Rf_k hR.rf
  have hx := hR.k
  unfold CD at hx
  have hloop : ∀ (m h : Nat), h + m = n → qW tb 28 (119, 1262) 4 [(3, 35), (0, smT (X 117) h), (0, (h : Int))] [] (LAY, F) R := by
    intro m
    induction m with
    | zero =>
      intro h hm
      have eh : h = n := by omega
      subst eh
      have b1 : ((h : Int) < (h : Int)) = False := eq_false (by omega)
      rw [h28_4]
      simp only [YK, c28, t28, tgK, lyK, rkK, wK, rfK, hr, qRes_eq, qNon_eq, qup_ap, vup_ap, vcpy_ap, kc8_0, kc8_1, kc8_2, lc_lt, lc_gt, lc_eq, Option.toList_some, Option.toList_none, List.cons_append, List.nil_append, lay_len, lay_sz, Nat.reduceAdd, Nat.reduceSub, Nat.reduceMul, Int.reduceToNat, Int.reduceLE, Int.reduceLT, Int.reduceEq, Int.reduceAdd, Int.reduceSub, Int.reduceMul, Int.reduceNeg, Nat.reduceLeDiff, Nat.reduceLT, true_and, and_true, false_and, and_false, qcat_0, qcat_1, qcat_3, qcat_9, Nat.reduceEqDiff, if_true, if_false, ite_self, or_true, true_or, or_false, false_or, forall_const, not_true_eq_false, not_false_eq_true, false_implies, implies_true, qtK0, qtK1, qtK2, qtK3, qtK4, List.getD_cons_zero, List.getD_cons_succ, hx, Int.toNat_natCast, ne_eq, qcK, hbF, bsetF, bclrF, h3, b1]
      exact hk
    | succ m ih =>
      intro h hm
      have hh : h < 4 := by omega
      have hg := hR.h hh
      have hc0 := hcK0 hh
      have hc1 := hcK1 h
      have b1 : ((h : Int) < (n : Int)) = True := eq_true (by omega)
      have b2 : (0 ≤ (h : Int) ∧ (h : Int) < 4) = True := eq_true (by omega)
      have w1 : w32 ((h : Int) + 1) = ((h + 1 : Nat) : Int) := by rw [w32_id ⟨by omega, by omega⟩]; omega
      have hi := ih (h + 1) (by omega)
      unfold smT at hi
      rw [h28_4]
      simp only [YK, c28, t28, tgK, lyK, rkK, wK, rfK, hr, qRes_eq, qNon_eq, qup_ap, vup_ap, vcpy_ap, kc8_0, kc8_1, kc8_2, lc_lt, lc_gt, lc_eq, Option.toList_some, Option.toList_none, List.cons_append, List.nil_append, lay_len, lay_sz, Nat.reduceAdd, Nat.reduceSub, Nat.reduceMul, Int.reduceToNat, Int.reduceLE, Int.reduceLT, Int.reduceEq, Int.reduceAdd, Int.reduceSub, Int.reduceMul, Int.reduceNeg, Nat.reduceLeDiff, Nat.reduceLT, true_and, and_true, false_and, and_false, qcat_0, qcat_1, qcat_3, qcat_9, Nat.reduceEqDiff, if_true, if_false, ite_self, or_true, true_or, or_false, false_or, forall_const, not_true_eq_false, not_false_eq_true, false_implies, implies_true, qtK0, qtK1, qtK2, qtK3, qtK4, List.getD_cons_zero, List.getD_cons_succ, hx, Int.toNat_natCast, ne_eq, qcK, hbF, bsetF, bclrF, h3, hg, hc0, hc1, b1, b2, w1]
      exact hi
  simp only [YK, c28, t28, tgK, lyK, rkK, wK, rfK, hr, qRes_eq, qNon_eq, qup_ap, vup_ap, vcpy_ap, kc8_0, kc8_1, kc8_2, lc_lt, lc_gt, lc_eq, Option.toList_some, Option.toList_none, List.cons_append, List.nil_append, lay_len, lay_sz, Nat.reduceAdd, Nat.reduceSub, Nat.reduceMul, Int.reduceToNat, Int.reduceLE, Int.reduceLT, Int.reduceEq, Int.reduceAdd, Int.reduceSub, Int.reduceMul, Int.reduceNeg, Nat.reduceLeDiff, Nat.reduceLT, true_and, and_true, false_and, and_false, qcat_0, qcat_1, qcat_3, qcat_9, Nat.reduceEqDiff, if_true, if_false, ite_self, or_true, true_or, or_false, false_or, forall_const, not_true_eq_false, not_false_eq_true, false_implies, implies_true, qtK0, qtK1, qtK2, qtK3, qtK4, List.getD_cons_zero, List.getD_cons_succ, hx, Int.toNat_natCast, ne_eq, qcK, hbF, bsetF, bclrF, h3]
  exact hloop n 0 (by omega)
/-- second copies: told or not -/
theorem H2_run {n ns na : Nat} {S : XT × LT} (h0 : ∀ a : Nat, a < 12 → S.1 102 a = 0 ∨ S.1 102 a = 1) : ∀ k : Nat, ∀ a : Nat, a < 12 → (pRunT n ns na k S).1 102 a = 0 ∨ (pRunT n ns na k S).1 102 a = 1 := by
  have q : ∀ (f : Nat → XT × LT → XT × LT), (∀ i S, (∀ a : Nat, a < 12 → S.1 102 a = 0 ∨ S.1 102 a = 1) → ∀ a : Nat, a < 12 → (f i S).1 102 a = 0 ∨ (f i S).1 102 a = 1) → ∀ (k : Nat) (S : XT × LT), (∀ a : Nat, a < 12 → S.1 102 a = 0 ∨ S.1 102 a = 1) → ∀ a : Nat, a < 12 → (itr f k S).1 102 a = 0 ∨ (itr f k S).1 102 a = 1 := by
    intro f hf k
    induction k with
    | zero => intro S h; exact h
    | succ k ih => intro S h; exact hf k _ (ih S h)
  have qe : ∀ (h : Nat) (t : Int) (f : Nat) (S : XT × LT), (∀ a : Nat, a < 12 → S.1 102 a = 0 ∨ S.1 102 a = 1) → ∀ a : Nat, a < 12 → (pEndsH n ns h t f S).1 102 a = 0 ∨ (pEndsH n ns h t f S).1 102 a = 1 := by
    intro h t f
    induction f with
    | zero => intro S hS; exact hS
    | succ f ih =>
      intro S hS
      unfold pEndsH
      split
      · apply ih
        intro a ha
        rw [pEndOne_1, pNote_c (by decide) (by decide) (by decide) (by decide) (by decide) (by decide), pEY_c (by decide) (by decide) (by decide) (by decide) (by decide) (by decide) (by decide)]
        exact hS a ha
      · exact hS
  have qb : ∀ (h : Nat) (t : Int) (f : Nat) (S : XT × LT), (∀ a : Nat, a < 12 → S.1 102 a = 0 ∨ S.1 102 a = 1) → ∀ a : Nat, a < 12 → (pBegH h t f S).1 102 a = 0 ∨ (pBegH h t f S).1 102 a = 1 := by
    intro h t f
    induction f with
    | zero => intro S hS; exact hS
    | succ f ih =>
      intro S hS
      unfold pBegH
      split
      · exact ih (pBeg1 S h t) hS
      · exact hS
  intro k
  induction k with
  | zero => exact h0
  | succ k ih =>
    unfold pRunT pTick
    refine q _ (fun h S hS => qb h _ 3 S hS) n _ ?_
    unfold pHeds
    have h4 : ∀ a : Nat, a < 12 → (pAgns n na (k : Int) (pComs n na (k : Int) (pLims n na (k : Int) (pEnds n ns (k : Int) (pRunT n ns na k S))))).1 102 a = 0 ∨ (pAgns n na (k : Int) (pComs n na (k : Int) (pLims n na (k : Int) (pEnds n ns (k : Int) (pRunT n ns na k S))))).1 102 a = 1 := by
      refine q _ (fun i S hS => ?_) na _ ?_
      · unfold pAgn
        split
        · split
          · intro a ha
            rw [pSend_c (by decide) (by decide)]
            dsimp only
            rw [qup_c (by decide), qup_c (by decide), qup_c (by decide)]
            exact hS a ha
          · intro a ha
            dsimp only
            rw [qup_c (by decide), qup_c (by decide)]
            exact hS a ha
        · exact hS
      refine q _ (fun i S hS => ?_) na _ ?_
      · unfold pCom
        split
        · intro a ha
          rw [pSend_c (by decide) (by decide)]
          dsimp only
          rw [qup_c (by decide), qup_c (by decide), qup_c (by decide)]
          exact hS a ha
        · exact hS
      refine q _ (fun i S hS => ?_) na _ ?_
      · unfold pLim
        split
        · intro a ha
          dsimp only
          rw [qup_c (by decide), qup_c (by decide)]
          exact hS a ha
        · exact hS
      exact q _ (fun h S hS => qe h _ 3 S hS) n _ ih
    split
    · refine q _ (fun i S hS => ?_) na _ h4
      unfold pHed
      split
      · intro a ha
        rw [pSend_c (by decide) (by decide)]
        dsimp only
        rw [qup_c (by decide), qup_ap, if_pos rfl]
        split
        · exact Or.inr rfl
        · rw [qup_c (by decide)]; exact hS a ha
      · exact hS
    · exact h4
