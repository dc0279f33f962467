/-! the class: limits, comings, tries again -/
theorem aloop {f : Nat → XT × LT → XT × LT} {Q : Nat → XT × LT → XT → Prop} {W : Nat → XT → Prop} {na : Nat} {S0 : XT × LT} (hstep : ∀ a S F, a < na → Q a S F → (∀ F2, Q (a + 1) (f a S) F2 → W (a + 1) F2) → W a F) (hend : ∀ F, Q na (itr f na S0) F → W na F) : ∀ F, Q 0 S0 F → W 0 F := by
  have h : ∀ m a F, a + m = na → Q a (itr f a S0) F → W a F := by
    intro m
    induction m with
    | zero =>
      intro a F he hq
      have : a = na := by omega
      subst this
      exact hend F hq
    | succ m ih =>
      intro a F he hq
      exact hstep a _ F (by omega) hq (fun F2 h2 => ih (a + 1) F2 (by omega) h2)
  exact fun F hq => h na 0 F (by omega) hq
def Q1 (n ns na k : Nat) (t : Int) (p s u : Nat) (sp : Int) (C : XT) (S : XT × LT) (F : XT) : Prop := CC n na p u sp C S F ∧ CI n ns na k t p s u sp C S
theorem NZ_le {na a0 a1 : Nat} {t : Int} {X : XT} (h : NZ na a0 t X) (hl : a0 ≤ a1) : NZ na a1 t X := fun a h1 h2 h3 => h a (by omega) h2 h3
theorem wkC_L1 {L M : LT} (h : ∀ g, M 1 g = L 1 g) (k : Nat) : wkC M k = wkC L k := wkC_same k (fun g _ => by rw [h g])
theorem ST_send {n ns na p s u : Nat} {sp : Int} {C : XT} {S : XT × LT} (hS : ST n ns na p s u sp C S.1) (a t : Int) : ST n ns na p s u sp C (pSend n S a t).1 := by
  have q : ∀ c, c ≠ 69 → c ≠ 117 → (pSend n S a t).1 c = S.1 c := fun c h1 h2 => pSend_c h1 h2
  exact ST_eq hS (pSend_69 (by decide) (by decide)) (q _ (by decide) (by decide)) (q _ (by decide) (by decide)) (q _ (by decide) (by decide)) (q _ (by decide) (by decide)) (q _ (by decide) (by decide)) (q _ (by decide) (by decide)) (q _ (by decide) (by decide)) (q _ (by decide) (by decide)) (q _ (by decide) (by decide)) (q _ (by decide) (by decide))
theorem OB_of {n ns na k : Nat} {t : Int} {S : XT × LT} (hI : Inv n ns na k t S) (ht : 0 ≤ t ∧ t ≤ 79) : ∀ h : Nat, h < 4 → OB S.1 h := by
  intro h hh
  unfold OB
  rcases (hI.2.2.2.2.2 h hh).2.2.1 with q | q
  · exact Or.inl q
  · exact Or.inr ⟨q.1, q.2.1, by omega⟩
theorem OB_eq {X Y : XT} {h : Nat} (hO : OB X h) (e1 : Y 108 = X 108) (e2 : Y 109 = X 109) : OB Y h := by unfold OB at hO ⊢; rw [e1, e2]; exact hO
theorem k15s {tb : qTb} {n ns na p s u : Nat} {sp : Int} {C F : XT} {S : XT × LT} {R : Option qV → qM → Prop} (a : Nat) (ha : a < na) (t : Int) (ht : 0 ≤ t ∧ t ≤ 79) (hQ : Q1 n ns na 1 t p s u sp C S F) (hz : NZ na 0 t S.1) (hk : ∀ F2, Q1 n ns na 1 t p s u sp C (pLim n t a S) F2 → NZ na 0 t (pLim n t a S).1 → qW tb 15 (119, 1262) 2 [(3, 35), (0, t), (0, ((a + 1 : Nat) : Int))] [] (LAY, F2) R) : qW tb 15 (119, 1262) 2 [(3, 35), (0, t), (0, (a : Int))] [] (LAY, F) R := by
  have hR := hQ.1
  have hR0 := hR
  unfold CC at hR
  obtain ⟨hInv, hST⟩ := hQ.2
  have hST0 := hST
  have hr := Rf_k hR.rf
  have hx := hR.k
  unfold CD at hx
  obtain ⟨hPS, ⟨t1, t1b⟩, ⟨t2, t2b⟩, ⟨t3, t3b⟩, t4, t5, t6, ⟨t7, t8, t9⟩, t10⟩ := hST
  have hp0 := psK hPS
  have hps := hR.ps hPS
  have b1 : ((a : Int) < (na : Int)) = True := eq_true (by omega)
  have b2 : (0 ≤ (a : Int) ∧ (a : Int) < 12) = True := eq_true (by omega)
  have w1 : w32 ((a : Int) + 1) = ((a + 1 : Nat) : Int) := by rw [w32_id ⟨by omega, by omega⟩]; omega
  have e37 := (hR.2.2.2.2.1 a (by omega)).1
  obtain ⟨-, e79, e96⟩ := t6 a ha
  have hInv2 := Inv_lim hInv ha
  unfold pLim at hk hInv2
  have hec := endC_r S.1 na
  rw [h15_2]
  by_cases c1 : S.1 98 a = 1
  · by_cases c2 : w32 (S.1 96 a + S.1 79 a) ≤ t
    · rw [if_pos ⟨c1, c2⟩] at hk hInv2
      have c2' : (t < w32 (S.1 96 a + S.1 79 a)) = False := eq_false (by omega)
      simp only [YK, c15, t15, cl14, tgK, lyK, rkK, wK, rfK, hr, qRes_eq, qNon_eq, qup_ap, vup_ap, vcpy_ap, kc8_0, kc8_1, kc8_2, lc_lt, lc_gt, lc_eq, Option.toList_some, Option.toList_none, List.cons_append, List.nil_append, lay_len, lay_sz, Nat.reduceAdd, Nat.reduceSub, Nat.reduceMul, Int.reduceToNat, Int.reduceLE, Int.reduceLT, Int.reduceEq, Int.reduceAdd, Int.reduceSub, Int.reduceMul, Int.reduceNeg, Nat.reduceLeDiff, Nat.reduceLT, true_and, and_true, false_and, and_false, qcat_0, qcat_1, qcat_3, qcat_9, Nat.reduceEqDiff, if_true, if_false, ite_self, or_true, true_or, or_false, false_or, forall_const, not_true_eq_false, not_false_eq_true, false_implies, implies_true, qtK0, qtK1, qtK2, qtK3, qtK4, List.getD_cons_zero, List.getD_cons_succ, hx, Int.toNat_natCast, ne_eq, qcK, hbF, bsetF, bclrF, hp0, hps, t1, t2, t3, t7, b1, b2, e37, e79, e96, c1, c2']
      refine k14 hR hST0 a (by omega) 4 t (fun g hg => HI_of hInv.2.1 t3b hg) ?_
      intro F2 hR2
      have e98 : ∀ j, qup (qup S.1 98 a 4) 99 a t 98 j = if j = a then 4 else S.1 98 j := fun j => by rw [qup_c (by decide), qup_ap, if_pos rfl]
      have ee : w32 (endC S.1 na + 1) = endC (qup (qup S.1 98 a 4) 99 a t) na := by
        rw [endC_up (X := S.1) (Y := qup (qup S.1 98 a 4) 99 a t) (a := a) (by omega) (by rw [e98, if_pos rfl]; decide) na ha (fun c _ hn => by rw [e98, if_neg hn]), w32_id ⟨by omega, by omega⟩]
      rw [ee, ← wkC_L1 (M := dropTo (a : Int) S.2 n) (fun g => dropTo_i (by decide)) n] at hR2
      have hq := hk F2 ⟨hR2, hInv2, ST_up (ST_up hST0 98 a (by decide) 4) 99 a (by decide) t⟩ (fun j h1 h2 h3 => by
        dsimp only at h3 ⊢
        rw [qup_c (by decide), qup_c (by decide)] at h3
        rw [e98]
        have := hz j h1 h2 h3
        by_cases hj : j = a
        · subst hj; omega
        · rw [if_neg hj]; exact this)
      simp only [YK, c15, t15, tgK, lyK, rkK, wK, rfK, qRes_eq, qNon_eq, qup_ap, vup_ap, vcpy_ap, kc8_0, kc8_1, kc8_2, lc_lt, lc_gt, lc_eq, Option.toList_some, Option.toList_none, List.cons_append, List.nil_append, lay_len, lay_sz, Nat.reduceAdd, Nat.reduceSub, Nat.reduceMul, Int.reduceToNat, Int.reduceLE, Int.reduceLT, Int.reduceEq, Int.reduceAdd, Int.reduceSub, Int.reduceMul, Int.reduceNeg, Nat.reduceLeDiff, Nat.reduceLT, true_and, and_true, false_and, and_false, qcat_0, qcat_1, qcat_3, qcat_9, Nat.reduceEqDiff, if_true, if_false, ite_self, or_true, true_or, or_false, false_or, forall_const, not_true_eq_false, not_false_eq_true, false_implies, implies_true, qtK0, qtK1, qtK2, qtK3, qtK4, List.getD_cons_zero, List.getD_cons_succ, Int.toNat_natCast, ne_eq, qcK, hbF, bsetF, bclrF, w1]
      exact hq
    · rw [if_neg (fun q => c2 q.2)] at hk hInv2
      have c2' : (t < w32 (S.1 96 a + S.1 79 a)) = True := eq_true (by omega)
      have hq := hk F ⟨hR0, hInv, hST0⟩ hz
      simp only [YK, c15, t15, tgK, lyK, rkK, wK, rfK, hr, qRes_eq, qNon_eq, qup_ap, vup_ap, vcpy_ap, kc8_0, kc8_1, kc8_2, lc_lt, lc_gt, lc_eq, Option.toList_some, Option.toList_none, List.cons_append, List.nil_append, lay_len, lay_sz, Nat.reduceAdd, Nat.reduceSub, Nat.reduceMul, Int.reduceToNat, Int.reduceLE, Int.reduceLT, Int.reduceEq, Int.reduceAdd, Int.reduceSub, Int.reduceMul, Int.reduceNeg, Nat.reduceLeDiff, Nat.reduceLT, true_and, and_true, false_and, and_false, qcat_0, qcat_1, qcat_3, qcat_9, Nat.reduceEqDiff, if_true, if_false, ite_self, or_true, true_or, or_false, false_or, forall_const, not_true_eq_false, not_false_eq_true, false_implies, implies_true, qtK0, qtK1, qtK2, qtK3, qtK4, List.getD_cons_zero, List.getD_cons_succ, hx, Int.toNat_natCast, ne_eq, qcK, hbF, bsetF, bclrF, hp0, hps, t1, t2, t3, t7, b1, b2, e37, e79, e96, c1, c2', w1]
      exact hq
  · rw [if_neg (fun q => c1 q.1)] at hk
    have hq := hk F ⟨hR0, hInv, hST0⟩ hz
    simp only [YK, c15, t15, tgK, lyK, rkK, wK, rfK, hr, qRes_eq, qNon_eq, qup_ap, vup_ap, vcpy_ap, kc8_0, kc8_1, kc8_2, lc_lt, lc_gt, lc_eq, Option.toList_some, Option.toList_none, List.cons_append, List.nil_append, lay_len, lay_sz, Nat.reduceAdd, Nat.reduceSub, Nat.reduceMul, Int.reduceToNat, Int.reduceLE, Int.reduceLT, Int.reduceEq, Int.reduceAdd, Int.reduceSub, Int.reduceMul, Int.reduceNeg, Nat.reduceLeDiff, Nat.reduceLT, true_and, and_true, false_and, and_false, qcat_0, qcat_1, qcat_3, qcat_9, Nat.reduceEqDiff, if_true, if_false, ite_self, or_true, true_or, or_false, false_or, forall_const, not_true_eq_false, not_false_eq_true, false_implies, implies_true, qtK0, qtK1, qtK2, qtK3, qtK4, List.getD_cons_zero, List.getD_cons_succ, hx, Int.toNat_natCast, ne_eq, qcK, hbF, bsetF, bclrF, hp0, hps, t1, t2, t3, t7, b1, b2, e37, c1, w1]
    exact hq
theorem k15 {tb : qTb} {n ns na p s u : Nat} {sp : Int} {C F : XT} {S : XT × LT} {R : Option qV → qM → Prop} (t : Int) (ht : 0 ≤ t ∧ t ≤ 79) (hQ : Q1 n ns na 1 t p s u sp C S F) (hz : NZ na 0 t S.1) (hk : ∀ F2, Q1 n ns na 1 t p s u sp C (pLims n na t S) F2 → NZ na 0 t (pLims n na t S).1 → R none (LAY, F2)) : qW tb 15 (119, 1262) 0 [(3, 35), (0, t), (9, 0)] [] (LAY, F) R := by
  have hl := aloop (f := pLim n t) (Q := fun _ S F => Q1 n ns na 1 t p s u sp C S F ∧ NZ na 0 t S.1) (W := fun a F => qW tb 15 (119, 1262) 2 [(3, 35), (0, t), (0, (a : Int))] [] (LAY, F) R) (na := na) (S0 := S) (fun a S F ha hq hk2 => k15s a ha t ht hq.1 hq.2 (fun F2 h1 h2 => hk2 F2 ⟨h1, h2⟩)) (fun F ⟨hQ, hz⟩ => by
    have hq := hk F hQ hz
    have hR := hQ.1
    have hR0 := hR
    unfold CC at hR
    obtain ⟨hInv, hST⟩ := hQ.2
    have hST0 := hST
    have hr := Rf_k hR.rf
    have hx := hR.k
    unfold CD at hx
    obtain ⟨hPS, ⟨t1, t1b⟩, ⟨t2, t2b⟩, ⟨t3, t3b⟩, t4, t5, t6, ⟨t7, t8, t9⟩, t10⟩ := hST
    have hp0 := psK hPS
    have hps := hR.ps hPS
    have b1 : ((na : Int) < (na : Int)) = False := eq_false (by omega)
    rw [h15_2]
    simp only [YK, c15, t15, tgK, lyK, rkK, wK, rfK, hr, qRes_eq, qNon_eq, qup_ap, vup_ap, vcpy_ap, kc8_0, kc8_1, kc8_2, lc_lt, lc_gt, lc_eq, Option.toList_some, Option.toList_none, List.cons_append, List.nil_append, lay_len, lay_sz, Nat.reduceAdd, Nat.reduceSub, Nat.reduceMul, Int.reduceToNat, Int.reduceLE, Int.reduceLT, Int.reduceEq, Int.reduceAdd, Int.reduceSub, Int.reduceMul, Int.reduceNeg, Nat.reduceLeDiff, Nat.reduceLT, true_and, and_true, false_and, and_false, qcat_0, qcat_1, qcat_3, qcat_9, Nat.reduceEqDiff, if_true, if_false, ite_self, or_true, true_or, or_false, false_or, forall_const, not_true_eq_false, not_false_eq_true, false_implies, implies_true, qtK0, qtK1, qtK2, qtK3, qtK4, List.getD_cons_zero, List.getD_cons_succ, hx, Int.toNat_natCast, ne_eq, qcK, hbF, bsetF, bclrF, hp0, hps, t1, t2, t3, t7, b1]
    exact hq) F ⟨hQ, hz⟩
  have hR := hQ.1
  have hR0 := hR
  unfold CC at hR
  obtain ⟨hInv, hST⟩ := hQ.2
  have hST0 := hST
  have hr := Rf_k hR.rf
  have hx := hR.k
  unfold CD at hx
  obtain ⟨hPS, ⟨t1, t1b⟩, ⟨t2, t2b⟩, ⟨t3, t3b⟩, t4, t5, t6, ⟨t7, t8, t9⟩, t10⟩ := hST
  have hp0 := psK hPS
  have hps := hR.ps hPS
  simp only [YK, c15, t15, tgK, lyK, rkK, wK, rfK, hr, qRes_eq, qNon_eq, qup_ap, vup_ap, vcpy_ap, kc8_0, kc8_1, kc8_2, lc_lt, lc_gt, lc_eq, Option.toList_some, Option.toList_none, List.cons_append, List.nil_append, lay_len, lay_sz, Nat.reduceAdd, Nat.reduceSub, Nat.reduceMul, Int.reduceToNat, Int.reduceLE, Int.reduceLT, Int.reduceEq, Int.reduceAdd, Int.reduceSub, Int.reduceMul, Int.reduceNeg, Nat.reduceLeDiff, Nat.reduceLT, true_and, and_true, false_and, and_false, qcat_0, qcat_1, qcat_3, qcat_9, Nat.reduceEqDiff, if_true, if_false, ite_self, or_true, true_or, or_false, false_or, forall_const, not_true_eq_false, not_false_eq_true, false_implies, implies_true, qtK0, qtK1, qtK2, qtK3, qtK4, List.getD_cons_zero, List.getD_cons_succ, hx, Int.toNat_natCast, ne_eq, qcK, hbF, bsetF, bclrF, hp0, hps, t1, t2, t3, t7]
  exact hl
theorem RI_one {n na : Nat} {S : XT × LT} (hR : RI n na S) (a : Nat) (Y : XT) (hY : ∀ j, Y 98 j = if j = a then 1 else S.1 98 j) : RI n na (Y, S.2) := by
  intro h hh
  obtain ⟨q1, q2⟩ := hR h hh
  refine ⟨?_, q2⟩
  intro c hc
  refine ⟨(q1 c hc).1, ?_⟩
  dsimp only
  rw [hY]
  split
  · rfl
  · exact (q1 c hc).2
theorem k16s {tb : qTb} {n ns na p s u : Nat} {sp : Int} {C F : XT} {S : XT × LT} {R : Option qV → qM → Prop} (a : Nat) (ha : a < na) (t : Int) (ht : 0 ≤ t ∧ t ≤ 79) (hQ : Q1 n ns na 1 t p s u sp C S F) (hz : NZ na a t S.1) (hk : ∀ F2, Q1 n ns na 1 t p s u sp C (pCom n t a S) F2 → NZ na (a + 1) t (pCom n t a S).1 → qW tb 16 (119, 1262) 2 [(3, 35), (0, t), (0, ((a + 1 : Nat) : Int))] [] (LAY, F2) R) : qW tb 16 (119, 1262) 2 [(3, 35), (0, t), (0, (a : Int))] [] (LAY, F) R := by
  have hR := hQ.1
  have hR0 := hR
  unfold CC at hR
  obtain ⟨hInv, hST⟩ := hQ.2
  have hST0 := hST
  have hr := Rf_k hR.rf
  have hx := hR.k
  unfold CD at hx
  obtain ⟨hPS, ⟨t1, t1b⟩, ⟨t2, t2b⟩, ⟨t3, t3b⟩, t4, t5, t6, ⟨t7, t8, t9⟩, t10⟩ := hST
  have hp0 := psK hPS
  have hps := hR.ps hPS
  have b1 : ((a : Int) < (na : Int)) = True := eq_true (by omega)
  have b2 : (0 ≤ (a : Int) ∧ (a : Int) < 12) = True := eq_true (by omega)
  have w1 : w32 ((a : Int) + 1) = ((a + 1 : Nat) : Int) := by rw [w32_id ⟨by omega, by omega⟩]; omega
  have hp2 := psK2 hPS
  have s1 := t8 1 (by decide)
  obtain ⟨-, -, e96⟩ := t6 a ha
  have hInv2 := Inv_com hInv ha
  have hc98 := fun j => (pCom_98 (n := n) (t := t) (a := a) (b := j) (S := S))
  have hzz : NZ na (a + 1) t (pCom n t a S).1 := by
    intro j h1 h2 h3
    rw [(hc98 j).2] at h3
    rw [(hc98 j).1, if_neg (by omega)]
    exact hz j (by omega) h2 h3
  unfold pCom at hk hInv2 hzz
  rw [h16_2]
  by_cases c1 : S.1 96 a = t
  · rw [if_pos c1] at hk hInv2 hzz
    have hR1 : CR p u sp C (qup (qup (qup S.1 98 a 1) 69 62 (bud (S.1 69 62) (S.1 97 1))) 101 a 1) S.2 (endC S.1 na) (wkC S.2 n) (qup (qup (qup F 37 a 1) 35 10 (bud (S.1 69 62) (S.1 97 1))) 40 a 1) := ((hR.ask 0 (by decide) a 1).day 10 (by decide) (bud (S.1 69 62) (S.1 97 1))).ask 3 (by decide) a 1
    have hST1 : ST n ns na p s u sp C (qup (qup (qup S.1 98 a 1) 69 62 (bud (S.1 69 62) (S.1 97 1))) 101 a 1) := ST_up (ST_69 (ST_up hST0 98 a (by decide) 1) 62 (by decide) _) 101 a (by decide) 1
    have e98 : ∀ j, qup (qup (qup S.1 98 a 1) 69 62 (bud (S.1 69 62) (S.1 97 1))) 101 a 1 98 j = if j = a then 1 else S.1 98 j := fun j => by rw [qup_c (by decide), qup_c (by decide), qup_ap, if_pos rfl]
    have hz0 := hz a (Nat.le_refl a) ha c1
    have hfin : ∀ F2, CR p u sp C (pSend n (qup (qup (qup S.1 98 a 1) 69 62 (bud (S.1 69 62) (S.1 97 1))) 101 a 1, S.2) (a : Int) t).1 (pSend n (qup (qup (qup S.1 98 a 1) 69 62 (bud (S.1 69 62) (S.1 97 1))) 101 a 1, S.2) (a : Int) t).2 (endC S.1 na) (wkC S.2 n) F2 → qW tb 16 (119, 1262) 2 [(3, 35), (0, t), (0, ((a + 1 : Nat) : Int))] [] (LAY, F2) R := by
      intro F2 hR2
      rw [← wkC_L1 (M := (pSend n (qup (qup (qup S.1 98 a 1) 69 62 (bud (S.1 69 62) (S.1 97 1))) 101 a 1, S.2) (a : Int) t).2) (fun g => pSend_i (by decide)) n, ← endC_same (Y := (pSend n (qup (qup (qup S.1 98 a 1) 69 62 (bud (S.1 69 62) (S.1 97 1))) 101 a 1, S.2) (a : Int) t).1) na (fun j _ => by
        rw [pSend_c (by decide) (by decide)]
        dsimp only
        rw [e98]
        by_cases hj : j = a
        · rw [if_pos hj, hj, hz0]; decide
        · rw [if_neg hj])] at hR2
      exact hk F2 ⟨hR2, hInv2, ST_send (S := (_, S.2)) hST1 _ t⟩ hzz
    unfold bud at hR1 hfin hST1 e98
    simp only [YK, c16, t16, cl22, tgK, lyK, rkK, wK, rfK, hr, qRes_eq, qNon_eq, qup_ap, vup_ap, vcpy_ap, kc8_0, kc8_1, kc8_2, lc_lt, lc_gt, lc_eq, Option.toList_some, Option.toList_none, List.cons_append, List.nil_append, lay_len, lay_sz, Nat.reduceAdd, Nat.reduceSub, Nat.reduceMul, Int.reduceToNat, Int.reduceLE, Int.reduceLT, Int.reduceEq, Int.reduceAdd, Int.reduceSub, Int.reduceMul, Int.reduceNeg, Nat.reduceLeDiff, Nat.reduceLT, true_and, and_true, false_and, and_false, qcat_0, qcat_1, qcat_3, qcat_9, Nat.reduceEqDiff, if_true, if_false, ite_self, or_true, true_or, or_false, false_or, forall_const, not_true_eq_false, not_false_eq_true, false_implies, implies_true, qtK0, qtK1, qtK2, qtK3, qtK4, List.getD_cons_zero, List.getD_cons_succ, hx, Int.toNat_natCast, ne_eq, qcK, hbF, bsetF, bclrF, hp0, hps, t1, t2, t3, t7, b1, b2, e96, c1, s1, hp2]
    refine k22 hR1 hST1 a ha t (by omega) (fun h hh => OB_eq (OB_of hInv ht h hh) (by rw [qup_c (by decide), qup_c (by decide), qup_c (by decide)]) (by rw [qup_c (by decide), qup_c (by decide), qup_c (by decide)])) (by rw [qup_c (by decide), qup_c (by decide), qup_c (by decide)]; exact hInv.1.2.2.2.2.2.2.2.2.2.1) (RI_one hInv.2.1 a _ e98) ?_
    intro F2 hR2
    have hq := hfin F2 hR2
    simp only [YK, c16, t16, tgK, lyK, rkK, wK, rfK, qRes_eq, qNon_eq, qup_ap, vup_ap, vcpy_ap, kc8_0, kc8_1, kc8_2, lc_lt, lc_gt, lc_eq, Option.toList_some, Option.toList_none, List.cons_append, List.nil_append, lay_len, lay_sz, Nat.reduceAdd, Nat.reduceSub, Nat.reduceMul, Int.reduceToNat, Int.reduceLE, Int.reduceLT, Int.reduceEq, Int.reduceAdd, Int.reduceSub, Int.reduceMul, Int.reduceNeg, Nat.reduceLeDiff, Nat.reduceLT, true_and, and_true, false_and, and_false, qcat_0, qcat_1, qcat_3, qcat_9, Nat.reduceEqDiff, if_true, if_false, ite_self, or_true, true_or, or_false, false_or, forall_const, not_true_eq_false, not_false_eq_true, false_implies, implies_true, qtK0, qtK1, qtK2, qtK3, qtK4, List.getD_cons_zero, List.getD_cons_succ, Int.toNat_natCast, ne_eq, qcK, hbF, bsetF, bclrF, w1]
    exact hq
  · rw [if_neg c1] at hk hzz
    have hq := hk F ⟨hR0, hInv, hST0⟩ hzz
    simp only [YK, c16, t16, tgK, lyK, rkK, wK, rfK, hr, qRes_eq, qNon_eq, qup_ap, vup_ap, vcpy_ap, kc8_0, kc8_1, kc8_2, lc_lt, lc_gt, lc_eq, Option.toList_some, Option.toList_none, List.cons_append, List.nil_append, lay_len, lay_sz, Nat.reduceAdd, Nat.reduceSub, Nat.reduceMul, Int.reduceToNat, Int.reduceLE, Int.reduceLT, Int.reduceEq, Int.reduceAdd, Int.reduceSub, Int.reduceMul, Int.reduceNeg, Nat.reduceLeDiff, Nat.reduceLT, true_and, and_true, false_and, and_false, qcat_0, qcat_1, qcat_3, qcat_9, Nat.reduceEqDiff, if_true, if_false, ite_self, or_true, true_or, or_false, false_or, forall_const, not_true_eq_false, not_false_eq_true, false_implies, implies_true, qtK0, qtK1, qtK2, qtK3, qtK4, List.getD_cons_zero, List.getD_cons_succ, hx, Int.toNat_natCast, ne_eq, qcK, hbF, bsetF, bclrF, hp0, hps, t1, t2, t3, t7, b1, b2, e96, c1, w1]
    exact hq
theorem k16 {tb : qTb} {n ns na p s u : Nat} {sp : Int} {C F : XT} {S : XT × LT} {R : Option qV → qM → Prop} (t : Int) (ht : 0 ≤ t ∧ t ≤ 79) (hQ : Q1 n ns na 1 t p s u sp C S F) (hz : NZ na 0 t S.1) (hk : ∀ F2, Q1 n ns na 2 t p s u sp C (pComs n na t S) F2 → R none (LAY, F2)) : qW tb 16 (119, 1262) 0 [(3, 35), (0, t), (9, 0)] [] (LAY, F) R := by
  have hIC := Inv_coms hQ.2.1
  have hl := aloop (f := pCom n t) (Q := fun a S F => Q1 n ns na 1 t p s u sp C S F ∧ NZ na a t S.1) (W := fun a F => qW tb 16 (119, 1262) 2 [(3, 35), (0, t), (0, (a : Int))] [] (LAY, F) R) (na := na) (S0 := S) (fun a S F ha hq hk2 => k16s a ha t ht hq.1 hq.2 (fun F2 h1 h2 => hk2 F2 ⟨h1, h2⟩)) (fun F ⟨hQ, hz⟩ => by
    have hq := hk F ⟨hQ.1, hIC, hQ.2.2⟩
    have hR := hQ.1
    have hR0 := hR
    unfold CC at hR
    obtain ⟨hInv, hST⟩ := hQ.2
    have hST0 := hST
    have hr := Rf_k hR.rf
    have hx := hR.k
    unfold CD at hx
    obtain ⟨hPS, ⟨t1, t1b⟩, ⟨t2, t2b⟩, ⟨t3, t3b⟩, t4, t5, t6, ⟨t7, t8, t9⟩, t10⟩ := hST
    have hp0 := psK hPS
    have hps := hR.ps hPS
    have b1 : ((na : Int) < (na : Int)) = False := eq_false (by omega)
    rw [h16_2]
    simp only [YK, c16, t16, tgK, lyK, rkK, wK, rfK, hr, qRes_eq, qNon_eq, qup_ap, vup_ap, vcpy_ap, kc8_0, kc8_1, kc8_2, lc_lt, lc_gt, lc_eq, Option.toList_some, Option.toList_none, List.cons_append, List.nil_append, lay_len, lay_sz, Nat.reduceAdd, Nat.reduceSub, Nat.reduceMul, Int.reduceToNat, Int.reduceLE, Int.reduceLT, Int.reduceEq, Int.reduceAdd, Int.reduceSub, Int.reduceMul, Int.reduceNeg, Nat.reduceLeDiff, Nat.reduceLT, true_and, and_true, false_and, and_false, qcat_0, qcat_1, qcat_3, qcat_9, Nat.reduceEqDiff, if_true, if_false, ite_self, or_true, true_or, or_false, false_or, forall_const, not_true_eq_false, not_false_eq_true, false_implies, implies_true, qtK0, qtK1, qtK2, qtK3, qtK4, List.getD_cons_zero, List.getD_cons_succ, hx, Int.toNat_natCast, ne_eq, qcK, hbF, bsetF, bclrF, hp0, hps, t1, t2, t3, t7, b1]
    exact hq) F ⟨hQ, hz⟩
  have hR := hQ.1
  have hR0 := hR
  unfold CC at hR
  obtain ⟨hInv, hST⟩ := hQ.2
  have hST0 := hST
  have hr := Rf_k hR.rf
  have hx := hR.k
  unfold CD at hx
  obtain ⟨hPS, ⟨t1, t1b⟩, ⟨t2, t2b⟩, ⟨t3, t3b⟩, t4, t5, t6, ⟨t7, t8, t9⟩, t10⟩ := hST
  have hp0 := psK hPS
  have hps := hR.ps hPS
  simp only [YK, c16, t16, tgK, lyK, rkK, wK, rfK, hr, qRes_eq, qNon_eq, qup_ap, vup_ap, vcpy_ap, kc8_0, kc8_1, kc8_2, lc_lt, lc_gt, lc_eq, Option.toList_some, Option.toList_none, List.cons_append, List.nil_append, lay_len, lay_sz, Nat.reduceAdd, Nat.reduceSub, Nat.reduceMul, Int.reduceToNat, Int.reduceLE, Int.reduceLT, Int.reduceEq, Int.reduceAdd, Int.reduceSub, Int.reduceMul, Int.reduceNeg, Nat.reduceLeDiff, Nat.reduceLT, true_and, and_true, false_and, and_false, qcat_0, qcat_1, qcat_3, qcat_9, Nat.reduceEqDiff, if_true, if_false, ite_self, or_true, true_or, or_false, false_or, forall_const, not_true_eq_false, not_false_eq_true, false_implies, implies_true, qtK0, qtK1, qtK2, qtK3, qtK4, List.getD_cons_zero, List.getD_cons_succ, hx, Int.toNat_natCast, ne_eq, qcK, hbF, bsetF, bclrF, hp0, hps, t1, t2, t3, t7]
  exact hl
theorem dropTo_id {a : Int} {L : LT} {n : Nat} (h : ∀ g, g < n → a ∉ L 0 g) : dropTo a L n = L := by
  funext i g
  unfold dropTo
  by_cases c : i = 0 ∧ g < n
  · rw [if_pos c, flt_id (h g c.2), c.1]
  · rw [if_neg c]
theorem k17s {tb : qTb} {n ns na p s u : Nat} {sp : Int} {C F : XT} {S : XT × LT} {R : Option qV → qM → Prop} (a : Nat) (ha : a < na) (t : Int) (ht : 0 ≤ t ∧ t ≤ 79) (hQ : Q1 n ns na 2 t p s u sp C S F) (hk : ∀ F2, Q1 n ns na 2 t p s u sp C (pAgn n t a S) F2 → qW tb 17 (119, 1262) 2 [(3, 35), (0, t), (0, ((a + 1 : Nat) : Int))] [] (LAY, F2) R) : qW tb 17 (119, 1262) 2 [(3, 35), (0, t), (0, (a : Int))] [] (LAY, F) R := by
  have hR := hQ.1
  have hR0 := hR
  unfold CC at hR
  obtain ⟨hInv, hST⟩ := hQ.2
  have hST0 := hST
  have hr := Rf_k hR.rf
  have hx := hR.k
  unfold CD at hx
  obtain ⟨hPS, ⟨t1, t1b⟩, ⟨t2, t2b⟩, ⟨t3, t3b⟩, t4, t5, t6, ⟨t7, t8, t9⟩, t10⟩ := hST
  have hp0 := psK hPS
  have hps := hR.ps hPS
  have b1 : ((a : Int) < (na : Int)) = True := eq_true (by omega)
  have b2 : (0 ≤ (a : Int) ∧ (a : Int) < 12) = True := eq_true (by omega)
  have w1 : w32 ((a : Int) + 1) = ((a + 1 : Nat) : Int) := by rw [w32_id ⟨by omega, by omega⟩]; omega
  have hp2 := psK2 hPS
  have s0 := t8 0 (by decide)
  have e37 := (hR.2.2.2.2.1 a (by omega)).1
  have e40 := (hR.2.2.2.2.1 a (by omega)).2.2.2.1
  have hInv2 := Inv_agn hInv ha
  have hec := endC_r S.1 na
  unfold pAgn at hk hInv2
  rw [h17_2]
  by_cases c1 : S.1 98 a = 1
  · simp only [YK, c17, t17, cl21, tgK, lyK, rkK, wK, rfK, hr, qRes_eq, qNon_eq, qup_ap, vup_ap, vcpy_ap, kc8_0, kc8_1, kc8_2, lc_lt, lc_gt, lc_eq, Option.toList_some, Option.toList_none, List.cons_append, List.nil_append, lay_len, lay_sz, Nat.reduceAdd, Nat.reduceSub, Nat.reduceMul, Int.reduceToNat, Int.reduceLE, Int.reduceLT, Int.reduceEq, Int.reduceAdd, Int.reduceSub, Int.reduceMul, Int.reduceNeg, Nat.reduceLeDiff, Nat.reduceLT, true_and, and_true, false_and, and_false, qcat_0, qcat_1, qcat_3, qcat_9, Nat.reduceEqDiff, if_true, if_false, ite_self, or_true, true_or, or_false, false_or, forall_const, not_true_eq_false, not_false_eq_true, false_implies, implies_true, qtK0, qtK1, qtK2, qtK3, qtK4, List.getD_cons_zero, List.getD_cons_succ, hx, Int.toNat_natCast, ne_eq, qcK, hbF, bsetF, bclrF, hp0, hps, t1, t2, t3, t7, b1, b2, e37, c1, w1]
    refine k21 hR hST0 a (by omega) (fun h hh => (hInv.2.1 h (by omega)).2.2.2.2.1) ?_
    by_cases c2 : cpTo S.2 (a : Int) n = 0
    · rw [if_pos ⟨c1, c2⟩] at hk hInv2
      rw [c2]
      by_cases c3 : S.1 101 a < S.1 97 0 ∧ 8 ≤ S.1 69 62
      · rw [if_pos c3] at hk hInv2
        obtain ⟨c3, c4⟩ := c3
        have c4' : (S.1 69 62 < 8) = False := eq_false (by omega)
        have hR1 : CR p u sp C (qup (qup (qup S.1 69 62 (w32 (S.1 69 62 - 8))) 101 a (w32 (S.1 101 a + 1))) 69 65 (w32 (S.1 69 65 + 1))) S.2 (endC S.1 na) (wkC S.2 n) (qup (qup (qup F 35 10 (w32 (S.1 69 62 - 8))) 40 a (w32 (S.1 101 a + 1))) 35 13 (w32 (S.1 69 65 + 1))) := ((hR.day 10 (by decide) _).ask 3 (by decide) a _).day 13 (by decide) _
        have hST1 : ST n ns na p s u sp C (qup (qup (qup S.1 69 62 (w32 (S.1 69 62 - 8))) 101 a (w32 (S.1 101 a + 1))) 69 65 (w32 (S.1 69 65 + 1))) := ST_69 (ST_up (ST_69 hST0 62 (by decide) _) 101 a (by decide) _) 65 (by decide) _
        have e98 : qup (qup (qup S.1 69 62 (w32 (S.1 69 62 - 8))) 101 a (w32 (S.1 101 a + 1))) 69 65 (w32 (S.1 69 65 + 1)) 98 = S.1 98 := by rw [qup_c (by decide), qup_c (by decide), qup_c (by decide)]
        simp only [YK, c17, t17, cl22, tgK, lyK, rkK, wK, rfK, hr, qRes_eq, qNon_eq, qup_ap, vup_ap, vcpy_ap, kc8_0, kc8_1, kc8_2, lc_lt, lc_gt, lc_eq, Option.toList_some, Option.toList_none, List.cons_append, List.nil_append, lay_len, lay_sz, Nat.reduceAdd, Nat.reduceSub, Nat.reduceMul, Int.reduceToNat, Int.reduceLE, Int.reduceLT, Int.reduceEq, Int.reduceAdd, Int.reduceSub, Int.reduceMul, Int.reduceNeg, Nat.reduceLeDiff, Nat.reduceLT, true_and, and_true, false_and, and_false, qcat_0, qcat_1, qcat_3, qcat_9, Nat.reduceEqDiff, if_true, if_false, ite_self, or_true, true_or, or_false, false_or, forall_const, not_true_eq_false, not_false_eq_true, false_implies, implies_true, qtK0, qtK1, qtK2, qtK3, qtK4, List.getD_cons_zero, List.getD_cons_succ, hx, Int.toNat_natCast, ne_eq, qcK, hbF, bsetF, bclrF, hp0, hps, t1, t2, t3, t7, b1, b2, e40, s0, c3, c4', hp2]
        refine k22 hR1 hST1 a ha t (by omega) (fun h hh => OB_eq (OB_of hInv ht h hh) (by rw [qup_c (by decide), qup_c (by decide), qup_c (by decide)]) (by rw [qup_c (by decide), qup_c (by decide), qup_c (by decide)])) (by rw [qup_c (by decide), qup_c (by decide), qup_c (by decide)]; exact hInv.1.2.2.2.2.2.2.2.2.2.1) (RI_eq hInv.2.1 _ e98) ?_
        intro F2 hR2
        rw [← wkC_L1 (M := (pSend n (qup (qup (qup S.1 69 62 (w32 (S.1 69 62 - 8))) 101 a (w32 (S.1 101 a + 1))) 69 65 (w32 (S.1 69 65 + 1)), S.2) (a : Int) t).2) (fun g => pSend_i (by decide)) n, ← endC_same (Y := (pSend n (qup (qup (qup S.1 69 62 (w32 (S.1 69 62 - 8))) 101 a (w32 (S.1 101 a + 1))) 69 65 (w32 (S.1 69 65 + 1)), S.2) (a : Int) t).1) na (fun j _ => by
          rw [pSend_c (by decide) (by decide)]
          dsimp only
          rw [e98])] at hR2
        have hq := hk F2 ⟨hR2, hInv2, ST_send (S := (_, S.2)) hST1 _ t⟩
        simp only [YK, c17, t17, tgK, lyK, rkK, wK, rfK, qRes_eq, qNon_eq, qup_ap, vup_ap, vcpy_ap, kc8_0, kc8_1, kc8_2, lc_lt, lc_gt, lc_eq, Option.toList_some, Option.toList_none, List.cons_append, List.nil_append, lay_len, lay_sz, Nat.reduceAdd, Nat.reduceSub, Nat.reduceMul, Int.reduceToNat, Int.reduceLE, Int.reduceLT, Int.reduceEq, Int.reduceAdd, Int.reduceSub, Int.reduceMul, Int.reduceNeg, Nat.reduceLeDiff, Nat.reduceLT, true_and, and_true, false_and, and_false, qcat_0, qcat_1, qcat_3, qcat_9, Nat.reduceEqDiff, if_true, if_false, ite_self, or_true, true_or, or_false, false_or, forall_const, not_true_eq_false, not_false_eq_true, false_implies, implies_true, qtK0, qtK1, qtK2, qtK3, qtK4, List.getD_cons_zero, List.getD_cons_succ, Int.toNat_natCast, ne_eq, qcK, hbF, bsetF, bclrF, w1]
        exact hq
      · rw [if_neg c3] at hk hInv2
        have hz := cpTo_zero n c2
        have hfin : ∀ F2, CR p u sp C (qup (qup S.1 98 a 3) 99 a t) (dropTo (a : Int) S.2 n) (w32 (endC S.1 na + 1)) (wkC S.2 n) F2 → qW tb 17 (119, 1262) 2 [(3, 35), (0, t), (0, ((a + 1 : Nat) : Int))] [] (LAY, F2) R := by
          intro F2 hR2
          have e98 : ∀ j, qup (qup S.1 98 a 3) 99 a t 98 j = if j = a then 3 else S.1 98 j := fun j => by rw [qup_c (by decide), qup_ap, if_pos rfl]
          have ee : w32 (endC S.1 na + 1) = endC (qup (qup S.1 98 a 3) 99 a t) na := by
            rw [endC_up (X := S.1) (Y := qup (qup S.1 98 a 3) 99 a t) (a := a) (by omega) (by rw [e98, if_pos rfl]; decide) na ha (fun c _ hn => by rw [e98, if_neg hn]), w32_id ⟨by omega, by omega⟩]
          rw [ee, dropTo_id (fun g hg => (hz g hg).1)] at hR2
          exact hk F2 ⟨hR2, hInv2, ST_up (ST_up hST0 98 a (by decide) 3) 99 a (by decide) t⟩
        by_cases c4 : S.1 101 a < S.1 97 0
        · have c5 : (S.1 69 62 < 8) = True := eq_true (by omega)
          simp only [YK, c17, t17, cl14, tgK, lyK, rkK, wK, rfK, hr, qRes_eq, qNon_eq, qup_ap, vup_ap, vcpy_ap, kc8_0, kc8_1, kc8_2, lc_lt, lc_gt, lc_eq, Option.toList_some, Option.toList_none, List.cons_append, List.nil_append, lay_len, lay_sz, Nat.reduceAdd, Nat.reduceSub, Nat.reduceMul, Int.reduceToNat, Int.reduceLE, Int.reduceLT, Int.reduceEq, Int.reduceAdd, Int.reduceSub, Int.reduceMul, Int.reduceNeg, Nat.reduceLeDiff, Nat.reduceLT, true_and, and_true, false_and, and_false, qcat_0, qcat_1, qcat_3, qcat_9, Nat.reduceEqDiff, if_true, if_false, ite_self, or_true, true_or, or_false, false_or, forall_const, not_true_eq_false, not_false_eq_true, false_implies, implies_true, qtK0, qtK1, qtK2, qtK3, qtK4, List.getD_cons_zero, List.getD_cons_succ, hx, Int.toNat_natCast, ne_eq, qcK, hbF, bsetF, bclrF, hp0, hps, t1, t2, t3, t7, b1, b2, e40, s0, c4, c5]
          refine k14 hR hST0 a (by omega) 3 t (fun g hg => HI_of hInv.2.1 t3b hg) ?_
          intro F2 hR2
          have hq := hfin F2 hR2
          simp only [YK, c17, t17, tgK, lyK, rkK, wK, rfK, qRes_eq, qNon_eq, qup_ap, vup_ap, vcpy_ap, kc8_0, kc8_1, kc8_2, lc_lt, lc_gt, lc_eq, Option.toList_some, Option.toList_none, List.cons_append, List.nil_append, lay_len, lay_sz, Nat.reduceAdd, Nat.reduceSub, Nat.reduceMul, Int.reduceToNat, Int.reduceLE, Int.reduceLT, Int.reduceEq, Int.reduceAdd, Int.reduceSub, Int.reduceMul, Int.reduceNeg, Nat.reduceLeDiff, Nat.reduceLT, true_and, and_true, false_and, and_false, qcat_0, qcat_1, qcat_3, qcat_9, Nat.reduceEqDiff, if_true, if_false, ite_self, or_true, true_or, or_false, false_or, forall_const, not_true_eq_false, not_false_eq_true, false_implies, implies_true, qtK0, qtK1, qtK2, qtK3, qtK4, List.getD_cons_zero, List.getD_cons_succ, Int.toNat_natCast, ne_eq, qcK, hbF, bsetF, bclrF, w1]
          exact hq
        · simp only [YK, c17, t17, cl14, tgK, lyK, rkK, wK, rfK, hr, qRes_eq, qNon_eq, qup_ap, vup_ap, vcpy_ap, kc8_0, kc8_1, kc8_2, lc_lt, lc_gt, lc_eq, Option.toList_some, Option.toList_none, List.cons_append, List.nil_append, lay_len, lay_sz, Nat.reduceAdd, Nat.reduceSub, Nat.reduceMul, Int.reduceToNat, Int.reduceLE, Int.reduceLT, Int.reduceEq, Int.reduceAdd, Int.reduceSub, Int.reduceMul, Int.reduceNeg, Nat.reduceLeDiff, Nat.reduceLT, true_and, and_true, false_and, and_false, qcat_0, qcat_1, qcat_3, qcat_9, Nat.reduceEqDiff, if_true, if_false, ite_self, or_true, true_or, or_false, false_or, forall_const, not_true_eq_false, not_false_eq_true, false_implies, implies_true, qtK0, qtK1, qtK2, qtK3, qtK4, List.getD_cons_zero, List.getD_cons_succ, hx, Int.toNat_natCast, ne_eq, qcK, hbF, bsetF, bclrF, hp0, hps, t1, t2, t3, t7, b1, b2, e40, s0, c4]
          refine k14 hR hST0 a (by omega) 3 t (fun g hg => HI_of hInv.2.1 t3b hg) ?_
          intro F2 hR2
          have hq := hfin F2 hR2
          simp only [YK, c17, t17, tgK, lyK, rkK, wK, rfK, qRes_eq, qNon_eq, qup_ap, vup_ap, vcpy_ap, kc8_0, kc8_1, kc8_2, lc_lt, lc_gt, lc_eq, Option.toList_some, Option.toList_none, List.cons_append, List.nil_append, lay_len, lay_sz, Nat.reduceAdd, Nat.reduceSub, Nat.reduceMul, Int.reduceToNat, Int.reduceLE, Int.reduceLT, Int.reduceEq, Int.reduceAdd, Int.reduceSub, Int.reduceMul, Int.reduceNeg, Nat.reduceLeDiff, Nat.reduceLT, true_and, and_true, false_and, and_false, qcat_0, qcat_1, qcat_3, qcat_9, Nat.reduceEqDiff, if_true, if_false, ite_self, or_true, true_or, or_false, false_or, forall_const, not_true_eq_false, not_false_eq_true, false_implies, implies_true, qtK0, qtK1, qtK2, qtK3, qtK4, List.getD_cons_zero, List.getD_cons_succ, Int.toNat_natCast, ne_eq, qcK, hbF, bsetF, bclrF, w1]
          exact hq
    · rw [if_neg (fun q => c2 q.2)] at hk
      have hq := hk F ⟨hR0, hInv, hST0⟩
      simp only [YK, c17, t17, tgK, lyK, rkK, wK, rfK, qRes_eq, qNon_eq, qup_ap, vup_ap, vcpy_ap, kc8_0, kc8_1, kc8_2, lc_lt, lc_gt, lc_eq, Option.toList_some, Option.toList_none, List.cons_append, List.nil_append, lay_len, lay_sz, Nat.reduceAdd, Nat.reduceSub, Nat.reduceMul, Int.reduceToNat, Int.reduceLE, Int.reduceLT, Int.reduceEq, Int.reduceAdd, Int.reduceSub, Int.reduceMul, Int.reduceNeg, Nat.reduceLeDiff, Nat.reduceLT, true_and, and_true, false_and, and_false, qcat_0, qcat_1, qcat_3, qcat_9, Nat.reduceEqDiff, if_true, if_false, ite_self, or_true, true_or, or_false, false_or, forall_const, not_true_eq_false, not_false_eq_true, false_implies, implies_true, qtK0, qtK1, qtK2, qtK3, qtK4, List.getD_cons_zero, List.getD_cons_succ, Int.toNat_natCast, ne_eq, qcK, hbF, bsetF, bclrF, c2, w1]
      exact hq
  · rw [if_neg (fun q => c1 q.1)] at hk
    have hq := hk F ⟨hR0, hInv, hST0⟩
    simp only [YK, c17, t17, cl21, tgK, lyK, rkK, wK, rfK, hr, qRes_eq, qNon_eq, qup_ap, vup_ap, vcpy_ap, kc8_0, kc8_1, kc8_2, lc_lt, lc_gt, lc_eq, Option.toList_some, Option.toList_none, List.cons_append, List.nil_append, lay_len, lay_sz, Nat.reduceAdd, Nat.reduceSub, Nat.reduceMul, Int.reduceToNat, Int.reduceLE, Int.reduceLT, Int.reduceEq, Int.reduceAdd, Int.reduceSub, Int.reduceMul, Int.reduceNeg, Nat.reduceLeDiff, Nat.reduceLT, true_and, and_true, false_and, and_false, qcat_0, qcat_1, qcat_3, qcat_9, Nat.reduceEqDiff, if_true, if_false, ite_self, or_true, true_or, or_false, false_or, forall_const, not_true_eq_false, not_false_eq_true, false_implies, implies_true, qtK0, qtK1, qtK2, qtK3, qtK4, List.getD_cons_zero, List.getD_cons_succ, hx, Int.toNat_natCast, ne_eq, qcK, hbF, bsetF, bclrF, hp0, hps, t1, t2, t3, t7, b1, b2, e37, c1, w1]
    exact hq
theorem k17 {tb : qTb} {n ns na p s u : Nat} {sp : Int} {C F : XT} {S : XT × LT} {R : Option qV → qM → Prop} (t : Int) (ht : 0 ≤ t ∧ t ≤ 79) (hQ : Q1 n ns na 2 t p s u sp C S F) (hk : ∀ F2, Q1 n ns na 2 t p s u sp C (pAgns n na t S) F2 → R none (LAY, F2)) : qW tb 17 (119, 1262) 0 [(3, 35), (0, t), (9, 0)] [] (LAY, F) R := by
  have hl := aloop (f := pAgn n t) (Q := fun a S F => Q1 n ns na 2 t p s u sp C S F) (W := fun a F => qW tb 17 (119, 1262) 2 [(3, 35), (0, t), (0, (a : Int))] [] (LAY, F) R) (na := na) (S0 := S) (fun a S F ha hq hk2 => k17s a ha t ht hq hk2) (fun F hQ => by
    have hq := hk F hQ
    have hR := hQ.1
    have hR0 := hR
    unfold CC at hR
    obtain ⟨hInv, hST⟩ := hQ.2
    have hST0 := hST
    have hr := Rf_k hR.rf
    have hx := hR.k
    unfold CD at hx
    obtain ⟨hPS, ⟨t1, t1b⟩, ⟨t2, t2b⟩, ⟨t3, t3b⟩, t4, t5, t6, ⟨t7, t8, t9⟩, t10⟩ := hST
    have hp0 := psK hPS
    have hps := hR.ps hPS
    have b1 : ((na : Int) < (na : Int)) = False := eq_false (by omega)
    rw [h17_2]
    simp only [YK, c17, t17, tgK, lyK, rkK, wK, rfK, hr, qRes_eq, qNon_eq, qup_ap, vup_ap, vcpy_ap, kc8_0, kc8_1, kc8_2, lc_lt, lc_gt, lc_eq, Option.toList_some, Option.toList_none, List.cons_append, List.nil_append, lay_len, lay_sz, Nat.reduceAdd, Nat.reduceSub, Nat.reduceMul, Int.reduceToNat, Int.reduceLE, Int.reduceLT, Int.reduceEq, Int.reduceAdd, Int.reduceSub, Int.reduceMul, Int.reduceNeg, Nat.reduceLeDiff, Nat.reduceLT, true_and, and_true, false_and, and_false, qcat_0, qcat_1, qcat_3, qcat_9, Nat.reduceEqDiff, if_true, if_false, ite_self, or_true, true_or, or_false, false_or, forall_const, not_true_eq_false, not_false_eq_true, false_implies, implies_true, qtK0, qtK1, qtK2, qtK3, qtK4, List.getD_cons_zero, List.getD_cons_succ, hx, Int.toNat_natCast, ne_eq, qcK, hbF, bsetF, bclrF, hp0, hps, t1, t2, t3, t7, b1]
    exact hq) F hQ
  have hR := hQ.1
  have hR0 := hR
  unfold CC at hR
  obtain ⟨hInv, hST⟩ := hQ.2
  have hST0 := hST
  have hr := Rf_k hR.rf
  have hx := hR.k
  unfold CD at hx
  obtain ⟨hPS, ⟨t1, t1b⟩, ⟨t2, t2b⟩, ⟨t3, t3b⟩, t4, t5, t6, ⟨t7, t8, t9⟩, t10⟩ := hST
  have hp0 := psK hPS
  have hps := hR.ps hPS
  simp only [YK, c17, t17, tgK, lyK, rkK, wK, rfK, hr, qRes_eq, qNon_eq, qup_ap, vup_ap, vcpy_ap, kc8_0, kc8_1, kc8_2, lc_lt, lc_gt, lc_eq, Option.toList_some, Option.toList_none, List.cons_append, List.nil_append, lay_len, lay_sz, Nat.reduceAdd, Nat.reduceSub, Nat.reduceMul, Int.reduceToNat, Int.reduceLE, Int.reduceLT, Int.reduceEq, Int.reduceAdd, Int.reduceSub, Int.reduceMul, Int.reduceNeg, Nat.reduceLeDiff, Nat.reduceLT, true_and, and_true, false_and, and_false, qcat_0, qcat_1, qcat_3, qcat_9, Nat.reduceEqDiff, if_true, if_false, ite_self, or_true, true_or, or_false, false_or, forall_const, not_true_eq_false, not_false_eq_true, false_implies, implies_true, qtK0, qtK1, qtK2, qtK3, qtK4, List.getD_cons_zero, List.getD_cons_succ, hx, Int.toNat_natCast, ne_eq, qcK, hbF, bsetF, bclrF, hp0, hps, t1, t2, t3, t7]
  exact hl
