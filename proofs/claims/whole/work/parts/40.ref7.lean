/-! the reference: works that end -/
def pE1 (X : XT) (ns : Nat) (h : Nat) (t : Int) : XT := qup (qup X 113 h (w32 (X 113 h + 1))) 114 h (w32 (X 114 h + bi (pSp X ns (h : Int) t)))
def pEndOne (n ns : Nat) (S : XT × LT) (h : Nat) (a t : Int) : XT × LT :=
  if S.1 98 a.toNat = 1 then
    if pSp S.1 ns (h : Int) t = true then (pNote (pE1 S.1 ns h t) h true t, S.2)
    else (pNote (qup (qup (qup (qup (pE1 S.1 ns h t) 98 a.toNat 2) 99 a.toNat t) 100 a.toNat (h : Int)) 69 63 (twF (S.1 69 63) (w32 (t - S.1 96 a.toNat)))) h false t, dropTo a S.2 n)
  else (pNote (qup (pE1 S.1 ns h t) 115 h (w32 (S.1 115 h + 1))) h (pSp S.1 ns (h : Int) t) t, S.2)
/-- what must be so that a work may end -/
def EndC (n ns : Nat) (X : XT) (h : Nat) (a t : Int) : Prop := X 69 2 = (n : Int) ∧ n ≤ 4 ∧ X 69 4 = (ns : Int) ∧ ns ≤ 4 ∧ (0 ≤ a ∧ a < 12) ∧ (0 ≤ X 110 h ∧ X 110 h < 256) ∧ (0 ≤ X 111 h ∧ X 111 h ≤ 8) ∧ (X 97 3 = 3 → TWOK (X 112 h) (bi (pSp X ns (h : Int) t))) ∧ (X 98 a.toNat = 1 → pSp X ns (h : Int) t = false → TWOK (X 69 63) (w32 (t - X 96 a.toNat)))
theorem r141 {tb : qTb} {C X F : XT} {L : LT} {R : Option qV → qM → Prop} (hR : RR C X L F) (n ns h : Nat) (hh : h < 4) (a t : Int) (hc : EndC n ns X h a t) (hk : ∀ F2, RR C (pEndOne n ns (X, L) h a t).1 (pEndOne n ns (X, L) h a t).2 F2 → R none (LAY, F2)) : qW tb 141 (119, 1262) 0 [(3, 69), (0, (h : Int)), (0, a), (0, t), (9, 0)] [] (LAY, F) R := by
  obtain ⟨g1, g2, g3, g4, ha, hN, hM, hT1, hT2⟩ := hc
  have hr := Rf_k hR.rf
  have hx := hR.k
  have b1 : (0 ≤ (h : Int) ∧ (h : Int) < 4) = True := eq_true (by omega)
  have b2 : (0 ≤ a ∧ a < 12) = True := eq_true ha
  unfold pEndOne at hk
  dsimp only at hk
  simp only [YK, c141, t141, cl137, cl131, cl115, cl140, tgK, lyK, rkK, wK, rfK, hr, qRes_eq, qNon_eq, qup_ap, vup_ap, vcpy_ap, kc8_0, kc8_1, kc8_2, lc_lt, lc_gt, lc_eq, Option.toList_some, Option.toList_none, List.cons_append, List.nil_append, lay_len, lay_sz, Nat.reduceAdd, Nat.reduceSub, Nat.reduceMul, Int.reduceToNat, Int.reduceLE, Int.reduceLT, Int.reduceEq, Int.reduceAdd, Int.reduceSub, Int.reduceMul, Int.reduceNeg, Nat.reduceLeDiff, Nat.reduceLT, true_and, and_true, false_and, and_false, qcat_0, qcat_1, qcat_3, qcat_9, Nat.reduceEqDiff, if_true, if_false, ite_self, or_true, true_or, or_false, false_or, forall_const, not_true_eq_false, not_false_eq_true, false_implies, implies_true, qtK0, qtK1, qtK2, qtK3, qtK4, List.getD_cons_zero, List.getD_cons_succ, hx, Int.toNat_natCast, ne_eq, qcK]
  refine r137 hR _ t ns g3 g4 ?_
  have hE := (hR.upA h (w32 (X 113 h + 1)) (c := 113) (by unfold nl; decide) (by decide)).upA h (w32 (X 114 h + bi (pSp X ns (h : Int) t))) (c := 114) (by unfold nl; decide) (by decide)
  cases hs : pSp X ns (h : Int) t
  · rw [hs] at hT1 hT2 hk hE
    rw [bi_f] at hE ⊢
    by_cases c1 : X 98 a.toNat = 1
    · rw [if_pos c1, if_neg (by decide)] at hk
      have hY := ((hE.upA a.toNat 2 (c := 98) (by unfold nl; decide) (by decide)).upA a.toNat t (c := 99) (by unfold nl; decide) (by decide)).upA a.toNat (h : Int) (c := 100) (by unfold nl; decide) (by decide)
      simp only [YK, c141, t141, cl137, cl131, cl115, cl140, tgK, lyK, rkK, wK, rfK, hr, qRes_eq, qNon_eq, qup_ap, vup_ap, vcpy_ap, kc8_0, kc8_1, kc8_2, lc_lt, lc_gt, lc_eq, Option.toList_some, Option.toList_none, List.cons_append, List.nil_append, lay_len, lay_sz, Nat.reduceAdd, Nat.reduceSub, Nat.reduceMul, Int.reduceToNat, Int.reduceLE, Int.reduceLT, Int.reduceEq, Int.reduceAdd, Int.reduceSub, Int.reduceMul, Int.reduceNeg, Nat.reduceLeDiff, Nat.reduceLT, true_and, and_true, false_and, and_false, qcat_0, qcat_1, qcat_3, qcat_9, Nat.reduceEqDiff, if_true, if_false, ite_self, or_true, true_or, or_false, false_or, forall_const, not_true_eq_false, not_false_eq_true, false_implies, implies_true, qtK0, qtK1, qtK2, qtK3, qtK4, List.getD_cons_zero, List.getD_cons_succ, hx, Int.toNat_natCast, ne_eq, qcK, b1, b2, c1]
      refine r131 hY a n g1 g2 ?_
      intro F2 hF2
      have hr2 := Rf_k hF2.rf
      have hx2 := hF2.k
      simp only [YK, c141, t141, cl137, cl131, cl115, cl140, tgK, lyK, rkK, wK, rfK, hr2, qRes_eq, qNon_eq, qup_ap, vup_ap, vcpy_ap, kc8_0, kc8_1, kc8_2, lc_lt, lc_gt, lc_eq, Option.toList_some, Option.toList_none, List.cons_append, List.nil_append, lay_len, lay_sz, Nat.reduceAdd, Nat.reduceSub, Nat.reduceMul, Int.reduceToNat, Int.reduceLE, Int.reduceLT, Int.reduceEq, Int.reduceAdd, Int.reduceSub, Int.reduceMul, Int.reduceNeg, Nat.reduceLeDiff, Nat.reduceLT, true_and, and_true, false_and, and_false, qcat_0, qcat_1, qcat_3, qcat_9, Nat.reduceEqDiff, if_true, if_false, ite_self, or_true, true_or, or_false, false_or, forall_const, not_true_eq_false, not_false_eq_true, false_implies, implies_true, qtK0, qtK1, qtK2, qtK3, qtK4, List.getD_cons_zero, List.getD_cons_succ, hx2, Int.toNat_natCast, ne_eq, qcK, b1, b2, c1]
      refine hT2 c1 rfl tb _ _ ?_
      simp only [YK, c141, t141, cl137, cl131, cl115, cl140, tgK, lyK, rkK, wK, rfK, hr2, qRes_eq, qNon_eq, qup_ap, vup_ap, vcpy_ap, kc8_0, kc8_1, kc8_2, lc_lt, lc_gt, lc_eq, Option.toList_some, Option.toList_none, List.cons_append, List.nil_append, lay_len, lay_sz, Nat.reduceAdd, Nat.reduceSub, Nat.reduceMul, Int.reduceToNat, Int.reduceLE, Int.reduceLT, Int.reduceEq, Int.reduceAdd, Int.reduceSub, Int.reduceMul, Int.reduceNeg, Nat.reduceLeDiff, Nat.reduceLT, true_and, and_true, false_and, and_false, qcat_0, qcat_1, qcat_3, qcat_9, Nat.reduceEqDiff, if_true, if_false, ite_self, or_true, true_or, or_false, false_or, forall_const, not_true_eq_false, not_false_eq_true, false_implies, implies_true, qtK0, qtK1, qtK2, qtK3, qtK4, List.getD_cons_zero, List.getD_cons_succ, hx2, Int.toNat_natCast, ne_eq, qcK, b1, b2, c1]
      refine r140 (hF2.up (twF (X 69 63) (w32 (t - X 96 a.toNat))) (c := 69) (j := 63) (by unfold nl; decide) (by decide)) h hh false t hN hM hT1 ?_
      intro F3 hF3
      have hq := hk F3 (by unfold pE1; rw [hs]; exact hF3)
      simp only [YK, c141, t141, tgK, lyK, rkK, wK, rfK, qRes_eq, qNon_eq, qup_ap, vup_ap, vcpy_ap, kc8_0, kc8_1, kc8_2, lc_lt, lc_gt, lc_eq, Option.toList_some, Option.toList_none, List.cons_append, List.nil_append, lay_len, lay_sz, Nat.reduceAdd, Nat.reduceSub, Nat.reduceMul, Int.reduceToNat, Int.reduceLE, Int.reduceLT, Int.reduceEq, Int.reduceAdd, Int.reduceSub, Int.reduceMul, Int.reduceNeg, Nat.reduceLeDiff, Nat.reduceLT, true_and, and_true, false_and, and_false, qcat_0, qcat_1, qcat_3, qcat_9, Nat.reduceEqDiff, if_true, if_false, ite_self, or_true, true_or, or_false, false_or, forall_const, not_true_eq_false, not_false_eq_true, false_implies, implies_true, qtK0, qtK1, qtK2, qtK3, qtK4, List.getD_cons_zero, List.getD_cons_succ, Int.toNat_natCast, ne_eq, qcK]
      exact hq
    · rw [if_neg c1] at hk
      have hY := hE.upA h (w32 (X 115 h + 1)) (c := 115) (by unfold nl; decide) (by decide)
      simp only [YK, c141, t141, cl137, cl131, cl115, cl140, tgK, lyK, rkK, wK, rfK, hr, qRes_eq, qNon_eq, qup_ap, vup_ap, vcpy_ap, kc8_0, kc8_1, kc8_2, lc_lt, lc_gt, lc_eq, Option.toList_some, Option.toList_none, List.cons_append, List.nil_append, lay_len, lay_sz, Nat.reduceAdd, Nat.reduceSub, Nat.reduceMul, Int.reduceToNat, Int.reduceLE, Int.reduceLT, Int.reduceEq, Int.reduceAdd, Int.reduceSub, Int.reduceMul, Int.reduceNeg, Nat.reduceLeDiff, Nat.reduceLT, true_and, and_true, false_and, and_false, qcat_0, qcat_1, qcat_3, qcat_9, Nat.reduceEqDiff, if_true, if_false, ite_self, or_true, true_or, or_false, false_or, forall_const, not_true_eq_false, not_false_eq_true, false_implies, implies_true, qtK0, qtK1, qtK2, qtK3, qtK4, List.getD_cons_zero, List.getD_cons_succ, hx, Int.toNat_natCast, ne_eq, qcK, b1, b2, c1]
      refine r140 hY h hh false t hN hM hT1 ?_
      intro F3 hF3
      have hq := hk F3 (by unfold pE1; rw [hs]; exact hF3)
      simp only [YK, c141, t141, tgK, lyK, rkK, wK, rfK, qRes_eq, qNon_eq, qup_ap, vup_ap, vcpy_ap, kc8_0, kc8_1, kc8_2, lc_lt, lc_gt, lc_eq, Option.toList_some, Option.toList_none, List.cons_append, List.nil_append, lay_len, lay_sz, Nat.reduceAdd, Nat.reduceSub, Nat.reduceMul, Int.reduceToNat, Int.reduceLE, Int.reduceLT, Int.reduceEq, Int.reduceAdd, Int.reduceSub, Int.reduceMul, Int.reduceNeg, Nat.reduceLeDiff, Nat.reduceLT, true_and, and_true, false_and, and_false, qcat_0, qcat_1, qcat_3, qcat_9, Nat.reduceEqDiff, if_true, if_false, ite_self, or_true, true_or, or_false, false_or, forall_const, not_true_eq_false, not_false_eq_true, false_implies, implies_true, qtK0, qtK1, qtK2, qtK3, qtK4, List.getD_cons_zero, List.getD_cons_succ, Int.toNat_natCast, ne_eq, qcK]
      exact hq
  · rw [hs] at hT1 hT2 hk hE
    rw [bi_t] at hE ⊢
    by_cases c1 : X 98 a.toNat = 1
    · rw [if_pos c1, if_pos rfl] at hk
      simp only [YK, c141, t141, cl137, cl131, cl115, cl140, tgK, lyK, rkK, wK, rfK, hr, qRes_eq, qNon_eq, qup_ap, vup_ap, vcpy_ap, kc8_0, kc8_1, kc8_2, lc_lt, lc_gt, lc_eq, Option.toList_some, Option.toList_none, List.cons_append, List.nil_append, lay_len, lay_sz, Nat.reduceAdd, Nat.reduceSub, Nat.reduceMul, Int.reduceToNat, Int.reduceLE, Int.reduceLT, Int.reduceEq, Int.reduceAdd, Int.reduceSub, Int.reduceMul, Int.reduceNeg, Nat.reduceLeDiff, Nat.reduceLT, true_and, and_true, false_and, and_false, qcat_0, qcat_1, qcat_3, qcat_9, Nat.reduceEqDiff, if_true, if_false, ite_self, or_true, true_or, or_false, false_or, forall_const, not_true_eq_false, not_false_eq_true, false_implies, implies_true, qtK0, qtK1, qtK2, qtK3, qtK4, List.getD_cons_zero, List.getD_cons_succ, hx, Int.toNat_natCast, ne_eq, qcK, b1, b2, c1]
      refine r140 hE h hh true t hN hM hT1 ?_
      intro F3 hF3
      have hq := hk F3 (by unfold pE1; rw [hs]; exact hF3)
      simp only [YK, c141, t141, tgK, lyK, rkK, wK, rfK, qRes_eq, qNon_eq, qup_ap, vup_ap, vcpy_ap, kc8_0, kc8_1, kc8_2, lc_lt, lc_gt, lc_eq, Option.toList_some, Option.toList_none, List.cons_append, List.nil_append, lay_len, lay_sz, Nat.reduceAdd, Nat.reduceSub, Nat.reduceMul, Int.reduceToNat, Int.reduceLE, Int.reduceLT, Int.reduceEq, Int.reduceAdd, Int.reduceSub, Int.reduceMul, Int.reduceNeg, Nat.reduceLeDiff, Nat.reduceLT, true_and, and_true, false_and, and_false, qcat_0, qcat_1, qcat_3, qcat_9, Nat.reduceEqDiff, if_true, if_false, ite_self, or_true, true_or, or_false, false_or, forall_const, not_true_eq_false, not_false_eq_true, false_implies, implies_true, qtK0, qtK1, qtK2, qtK3, qtK4, List.getD_cons_zero, List.getD_cons_succ, Int.toNat_natCast, ne_eq, qcK]
      exact hq
    · rw [if_neg c1] at hk
      have hY := hE.upA h (w32 (X 115 h + 1)) (c := 115) (by unfold nl; decide) (by decide)
      simp only [YK, c141, t141, cl137, cl131, cl115, cl140, tgK, lyK, rkK, wK, rfK, hr, qRes_eq, qNon_eq, qup_ap, vup_ap, vcpy_ap, kc8_0, kc8_1, kc8_2, lc_lt, lc_gt, lc_eq, Option.toList_some, Option.toList_none, List.cons_append, List.nil_append, lay_len, lay_sz, Nat.reduceAdd, Nat.reduceSub, Nat.reduceMul, Int.reduceToNat, Int.reduceLE, Int.reduceLT, Int.reduceEq, Int.reduceAdd, Int.reduceSub, Int.reduceMul, Int.reduceNeg, Nat.reduceLeDiff, Nat.reduceLT, true_and, and_true, false_and, and_false, qcat_0, qcat_1, qcat_3, qcat_9, Nat.reduceEqDiff, if_true, if_false, ite_self, or_true, true_or, or_false, false_or, forall_const, not_true_eq_false, not_false_eq_true, false_implies, implies_true, qtK0, qtK1, qtK2, qtK3, qtK4, List.getD_cons_zero, List.getD_cons_succ, hx, Int.toNat_natCast, ne_eq, qcK, b1, b2, c1]
      refine r140 hY h hh true t hN hM hT1 ?_
      intro F3 hF3
      have hq := hk F3 (by unfold pE1; rw [hs]; exact hF3)
      simp only [YK, c141, t141, tgK, lyK, rkK, wK, rfK, qRes_eq, qNon_eq, qup_ap, vup_ap, vcpy_ap, kc8_0, kc8_1, kc8_2, lc_lt, lc_gt, lc_eq, Option.toList_some, Option.toList_none, List.cons_append, List.nil_append, lay_len, lay_sz, Nat.reduceAdd, Nat.reduceSub, Nat.reduceMul, Int.reduceToNat, Int.reduceLE, Int.reduceLT, Int.reduceEq, Int.reduceAdd, Int.reduceSub, Int.reduceMul, Int.reduceNeg, Nat.reduceLeDiff, Nat.reduceLT, true_and, and_true, false_and, and_false, qcat_0, qcat_1, qcat_3, qcat_9, Nat.reduceEqDiff, if_true, if_false, ite_self, or_true, true_or, or_false, false_or, forall_const, not_true_eq_false, not_false_eq_true, false_implies, implies_true, qtK0, qtK1, qtK2, qtK3, qtK4, List.getD_cons_zero, List.getD_cons_succ, Int.toNat_natCast, ne_eq, qcK]
      exact hq
