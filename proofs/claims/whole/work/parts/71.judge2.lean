/-! told doings judged by the reference; the pair judge -/
def JRr (F F1 G : XT) (tp : Nat → Int) : Prop := Nrm (layH F) G ∧ G 118 = F 118 ∧ (∀ j : Nat, j < 6 → G 90 j = tp j) ∧ (∀ j : Nat, 6 ≤ j → G 90 j = F 90 j) ∧ (∀ j : Nat, 12 ≤ j → G 96 j = F 96 j) ∧ ∀ c : Nat, c < 69 → G c = F1 c
theorem JRr_TRr {F F1 G : XT} {tp : Nat → Int} (h : JRr F F1 G tp) : TRr F F1 (layH G) tp (F 118) := by
  obtain ⟨h1, h2, h3, h4, h5, h6⟩ := h
  refine ⟨Nrm_eq h1 (layH_Rf h1.1) (fun c _ _ c96 _ => layH_c c96), ?_, by rw [layH_c (by decide)]; exact h2, fun j hj => by rw [layH_c (by decide)]; exact h3 j hj, fun j hj => by rw [layH_c (by decide)]; exact h4 j hj, fun c hc => by rw [layH_c (by omega)]; exact h6 c hc⟩
  funext j
  unfold layH
  rw [vup_ap, vup_ap, if_pos rfl, if_pos rfl]
  by_cases c : j < 12
  · rw [if_pos c, if_pos c, h1.2.1 77 (by decide) (by decide) (by decide) (by decide) (by decide), layH_c (by decide)]
  · rw [if_neg c, if_neg c]; exact h5 j (by omega)
theorem TRr_JRr {F F1 G : XT} {tp : Nat → Int} (h : TRr F F1 G tp (F 118)) : JRr F F1 G tp := by
  obtain ⟨h1, h2, h3, h4, h5, h6⟩ := h
  refine ⟨h1, h3, h4, h5, fun j hj => ?_, h6⟩
  rw [h2]
  unfold layH
  rw [vup_ap, if_pos rfl, if_neg (by omega)]
theorem JRr_up {F F1 G : XT} {tp : Nat → Int} (h : JRr F F1 G tp) {k : Nat} (hk : k < 6) (v : Int) : JRr F F1 (qup G 90 k v) (fun j => if j = k then v else tp j) := by
  obtain ⟨h1, h2, h3, h4, h5, h6⟩ := h
  refine ⟨Nrm_up h1 v (by decide), by rw [qup_c (by decide)]; exact h2, fun j hj => ?_, fun j hj => ?_, fun j hj => by rw [qup_c (by decide)]; exact h5 j hj, fun c hc => by rw [qup_c (by omega)]; exact h6 c hc⟩
  · show _ = if j = k then v else tp j
    rw [qup_ap, if_pos rfl]
    by_cases c : j = k
    · rw [if_pos c, if_pos c]
    · rw [if_neg c, if_neg c]; exact h3 j hj
  · rw [qup_ap, if_pos rfl, if_neg (by omega)]; exact h4 j hj
theorem JRr_Rel {F F1 G : XT} {tp : Nat → Int} (hR : Rel F1) (h9 : ∀ c : Nat, 69 ≤ c → F1 c = F c) (h : JRr F F1 G tp) : Rel G := by
  obtain ⟨h1, -, -, -, -, h5⟩ := h
  refine Rel_eq hR h1.1 (fun c hc => ?_) (fun j hj => ?_)
  · by_cases c69 : c < 69
    · exact h5 c c69
    · unfold rlc at hc
      rw [h1.2.1 c (by omega) (by omega) (by omega) (by omega) (by omega), layH_c (by omega), h9 c (by omega)]
  · rw [h1.2.2.1 j (by omega) (by omega), layH_c (by decide), h9 69 (by decide)]
theorem tr_Inv {F : XT} {n ns na : Nat} {tp w : Nat → Int} (hR : Rel F) (hd : DN F n ns na) (hPB : PB tp (tp 5)) : Inv n ns na 0 0 (trX F tp w, L0) := by
  refine (TFr_ok (G := va_up (qup F 25 1 (tp 5)) 26 tp) (tp := tp) (w := w) hR hd ⟨Rf_vup (hR.1.up (by decide)) _ (by decide), fun c hc c1 c2 => ?_⟩ (fun j _ => by rw [vup_ap, if_pos rfl]) (by rw [vup_ap, if_neg (by decide), qup_ap, if_pos rfl, if_pos rfl]) hPB).1
  funext j
  rw [vup_ap, if_neg c2, qup_c c1]
theorem r167 {tb : qTb} {F F1 G : XT} {n ns na d : Nat} {tp : Nat → Int} {R : Option qV → qM → Prop} (hA : FA) (hR : Rel F) (hd : DN F n ns na) (hd4 : d < 10000) (hG : JRr F F1 G tp) (hPB : PB tp (tp 5)) (hk : ∀ G2 tq, JRr F F1 G2 tq → (jB n ns na F tp d = true → ∀ j : Nat, j < 6 → tq j = jN tp d j) → R (some (0, bi (jB n ns na F tp d))) (LAY, G2)) : qW tb 167 (119, 1262) 0 [(3, 69), (0, ((d / 1000 : Nat) : Int)), (0, ((d / 100 % 10 : Nat) : Int)), (0, ((d / 10 % 10 : Nat) : Int)), (0, ((d % 10 : Nat) : Int))] [] (LAY, G) R := by
  have hD := hR.2.2.1
  have hn4 : n ≤ 4 := by have := hD.1; have := hd.1; omega
  have hna : na ≤ 12 := by have := hD.2.1; have := hd.2.2; omega
  have g2 : F 69 2 = (n : Int) := by rw [hD.1.1]; exact hd.1
  have g3 : F 69 3 = (na : Int) := by rw [hD.2.1.1]; exact hd.2.2
  have hI := tr_Inv (w := F 118) hR hd hPB
  have hr := Rf_k hG.1.1
  have e0 : ((0 : Nat) : Int) = 0 := rfl
  have e1 : ((1 : Nat) : Int) = 1 := rfl
  have hs : d / 1000 = 0 ∨ d / 1000 = 1 ∨ d / 1000 = 2 ∨ d / 1000 = 3 ∨ d / 1000 = 4 ∨ d / 1000 = 5 ∨ d / 1000 = 6 ∨ d / 1000 = 7 ∨ d / 1000 = 8 ∨ d / 1000 = 9 := by omega
  rcases hs with hs | hs | hs | hs | hs | hs | hs | hs | hs | hs
  · have ek : ((d / 1000 : Nat) : Int) = 0 := by omega
    have hj : jB n ns na F tp d = false := by unfold jB; rw [if_pos hs]
    rw [ek]
    simp only [YK, c167, t167, cl104, tgK, lyK, rkK, wK, rfK, qRes_eq, qNon_eq, qup_ap, vup_ap, vcpy_ap, kc8_0, kc8_1, kc8_2, lc_lt, lc_gt, lc_eq, Option.toList_some, Option.toList_none, List.cons_append, List.nil_append, lay_len, lay_sz, Nat.reduceAdd, Nat.reduceSub, Nat.reduceMul, Int.reduceToNat, Int.reduceLE, Int.reduceLT, Int.reduceEq, Int.reduceAdd, Int.reduceSub, Int.reduceMul, Int.reduceNeg, Nat.reduceLeDiff, Nat.reduceLT, true_and, and_true, false_and, and_false, qcat_0, qcat_1, qcat_3, qcat_9, Nat.reduceEqDiff, if_true, if_false, ite_self, or_true, true_or, or_false, false_or, forall_const, not_true_eq_false, not_false_eq_true, false_implies, implies_true, qtK0, qtK1, qtK2, qtK3, qtK4, List.getD_cons_zero, List.getD_cons_succ, Int.toNat_natCast, ne_eq, qcK, hbF, bsetF, bclrF, e1]
    refine r104 0 1 5 ?_
    rw [b01_f (by decide)]
    simp only [YK, c167, t167, cl150, tgK, lyK, rkK, wK, rfK, qRes_eq, qNon_eq, qup_ap, vup_ap, vcpy_ap, kc8_0, kc8_1, kc8_2, lc_lt, lc_gt, lc_eq, Option.toList_some, Option.toList_none, List.cons_append, List.nil_append, lay_len, lay_sz, Nat.reduceAdd, Nat.reduceSub, Nat.reduceMul, Int.reduceToNat, Int.reduceLE, Int.reduceLT, Int.reduceEq, Int.reduceAdd, Int.reduceSub, Int.reduceMul, Int.reduceNeg, Nat.reduceLeDiff, Nat.reduceLT, true_and, and_true, false_and, and_false, qcat_0, qcat_1, qcat_3, qcat_9, Nat.reduceEqDiff, if_true, if_false, ite_self, or_true, true_or, or_false, false_or, forall_const, not_true_eq_false, not_false_eq_true, false_implies, implies_true, qtK0, qtK1, qtK2, qtK3, qtK4, List.getD_cons_zero, List.getD_cons_succ, Int.toNat_natCast, ne_eq, qcK, hbF, bsetF, bclrF]
    refine r150 hG.1.1 ?_
    clear hr
    have hr := Rf_k (layH_Rf hG.1.1)
    simp only [YK, c167, t167, cl148, tgK, lyK, rkK, wK, rfK, hr, qRes_eq, qNon_eq, qup_ap, vup_ap, vcpy_ap, kc8_0, kc8_1, kc8_2, lc_lt, lc_gt, lc_eq, Option.toList_some, Option.toList_none, List.cons_append, List.nil_append, lay_len, lay_sz, Nat.reduceAdd, Nat.reduceSub, Nat.reduceMul, Int.reduceToNat, Int.reduceLE, Int.reduceLT, Int.reduceEq, Int.reduceAdd, Int.reduceSub, Int.reduceMul, Int.reduceNeg, Nat.reduceLeDiff, Nat.reduceLT, true_and, and_true, false_and, and_false, qcat_0, qcat_1, qcat_3, qcat_9, Nat.reduceEqDiff, if_true, if_false, ite_self, or_true, true_or, or_false, false_or, forall_const, not_true_eq_false, not_false_eq_true, false_implies, implies_true, qtK0, qtK1, qtK2, qtK3, qtK4, List.getD_cons_zero, List.getD_cons_succ, Int.toNat_natCast, ne_eq, qcK, hbF, bsetF, bclrF]
    refine r_tr hA (JRr_TRr hG) hI ?_
    clear hr
    intro G2 hRR hG2
    have hr := Rf_k hG2.1.1
    have hq := hk G2 tp (TRr_JRr hG2) (fun h => by rw [hj] at h; cases h)
    rw [hj, bi_f] at hq
    simp only [YK, c167, t167, tgK, lyK, rkK, wK, rfK, hr, qRes_eq, qNon_eq, qup_ap, vup_ap, vcpy_ap, kc8_0, kc8_1, kc8_2, lc_lt, lc_gt, lc_eq, Option.toList_some, Option.toList_none, List.cons_append, List.nil_append, lay_len, lay_sz, Nat.reduceAdd, Nat.reduceSub, Nat.reduceMul, Int.reduceToNat, Int.reduceLE, Int.reduceLT, Int.reduceEq, Int.reduceAdd, Int.reduceSub, Int.reduceMul, Int.reduceNeg, Nat.reduceLeDiff, Nat.reduceLT, true_and, and_true, false_and, and_false, qcat_0, qcat_1, qcat_3, qcat_9, Nat.reduceEqDiff, if_true, if_false, ite_self, or_true, true_or, or_false, false_or, forall_const, not_true_eq_false, not_false_eq_true, false_implies, implies_true, qtK0, qtK1, qtK2, qtK3, qtK4, List.getD_cons_zero, List.getD_cons_succ, Int.toNat_natCast, ne_eq, qcK, hbF, bsetF, bclrF]
    exact hq
  · have ek : ((d / 1000 : Nat) : Int) = 1 := by omega
    have hjb : jB n ns na F tp d = (decide (d / 10 % 100 = 0) && decide (1 ≤ d % 10 ∧ d % 10 ≤ 4)) := by
      unfold jB fitB
      rw [hs]
      rfl
    rw [ek]
    simp only [YK, c167, t167, cl104, tgK, lyK, rkK, wK, rfK, qRes_eq, qNon_eq, qup_ap, vup_ap, vcpy_ap, kc8_0, kc8_1, kc8_2, lc_lt, lc_gt, lc_eq, Option.toList_some, Option.toList_none, List.cons_append, List.nil_append, lay_len, lay_sz, Nat.reduceAdd, Nat.reduceSub, Nat.reduceMul, Int.reduceToNat, Int.reduceLE, Int.reduceLT, Int.reduceEq, Int.reduceAdd, Int.reduceSub, Int.reduceMul, Int.reduceNeg, Nat.reduceLeDiff, Nat.reduceLT, true_and, and_true, false_and, and_false, qcat_0, qcat_1, qcat_3, qcat_9, Nat.reduceEqDiff, if_true, if_false, ite_self, or_true, true_or, or_false, false_or, forall_const, not_true_eq_false, not_false_eq_true, false_implies, implies_true, qtK0, qtK1, qtK2, qtK3, qtK4, List.getD_cons_zero, List.getD_cons_succ, Int.toNat_natCast, ne_eq, qcK, hbF, bsetF, bclrF, e1]
    refine r104 1 1 5 ?_
    rw [b01_t (by decide)]
    have hfalse : jB n ns na F tp d = false → R (some (0, 0)) (LAY, G) := by
      intro hj
      have hq := hk G tp hG (fun h => by rw [hj] at h; cases h)
      rw [hj, bi_f] at hq
      exact hq
    by_cases ca : d / 100 % 10 = 0
    · have ca' : ((d / 100 % 10 : Nat) : Int) = 0 := by omega
      by_cases cb : d / 10 % 10 = 0
      · have cb' : ((d / 10 % 10 : Nat) : Int) = 0 := by omega
        have cm : d / 10 % 100 = 0 := by omega
        simp only [YK, c167, t167, c154, t154, cl154, cl104, tgK, lyK, rkK, wK, rfK, qRes_eq, qNon_eq, qup_ap, vup_ap, vcpy_ap, kc8_0, kc8_1, kc8_2, lc_lt, lc_gt, lc_eq, Option.toList_some, Option.toList_none, List.cons_append, List.nil_append, lay_len, lay_sz, Nat.reduceAdd, Nat.reduceSub, Nat.reduceMul, Int.reduceToNat, Int.reduceLE, Int.reduceLT, Int.reduceEq, Int.reduceAdd, Int.reduceSub, Int.reduceMul, Int.reduceNeg, Nat.reduceLeDiff, Nat.reduceLT, true_and, and_true, false_and, and_false, qcat_0, qcat_1, qcat_3, qcat_9, Nat.reduceEqDiff, if_true, if_false, ite_self, or_true, true_or, or_false, false_or, forall_const, not_true_eq_false, not_false_eq_true, false_implies, implies_true, qtK0, qtK1, qtK2, qtK3, qtK4, List.getD_cons_zero, List.getD_cons_succ, Int.toNat_natCast, ne_eq, qcK, hbF, bsetF, bclrF, ca', cb', e0, e1]
        refine r104 ((d % 10 : Nat) : Int) 1 4 ?_
        by_cases cf : 1 ≤ d % 10 ∧ d % 10 ≤ 4
        · rw [b01_t (by omega)]
          have hj : jB n ns na F tp d = true := by rw [hjb, decide_eq_true cm, decide_eq_true cf]; rfl
          have hjn : jN tp d = (fun j => if j = 0 then ((d % 10 : Nat) : Int) else tp j) := by
            unfold jN
            rw [if_pos (by omega), hs]
          have hq := hk _ _ (JRr_up hG (k := 0) (by decide) ((d % 10 : Nat) : Int)) (fun _ j _ => by rw [hjn])
          rw [hj, bi_t] at hq
          simp only [YK, c167, t167, c154, t154, tgK, lyK, rkK, wK, rfK, hr, qRes_eq, qNon_eq, qup_ap, vup_ap, vcpy_ap, kc8_0, kc8_1, kc8_2, lc_lt, lc_gt, lc_eq, Option.toList_some, Option.toList_none, List.cons_append, List.nil_append, lay_len, lay_sz, Nat.reduceAdd, Nat.reduceSub, Nat.reduceMul, Int.reduceToNat, Int.reduceLE, Int.reduceLT, Int.reduceEq, Int.reduceAdd, Int.reduceSub, Int.reduceMul, Int.reduceNeg, Nat.reduceLeDiff, Nat.reduceLT, true_and, and_true, false_and, and_false, qcat_0, qcat_1, qcat_3, qcat_9, Nat.reduceEqDiff, if_true, if_false, ite_self, or_true, true_or, or_false, false_or, forall_const, not_true_eq_false, not_false_eq_true, false_implies, implies_true, qtK0, qtK1, qtK2, qtK3, qtK4, List.getD_cons_zero, List.getD_cons_succ, Int.toNat_natCast, ne_eq, qcK, hbF, bsetF, bclrF]
          exact hq
        · rw [b01_f (by omega)]
          have hq := hfalse (by rw [hjb, decide_eq_false cf, Bool.and_false])
          simp only [YK, c167, t167, c154, t154, tgK, lyK, rkK, wK, rfK, hr, qRes_eq, qNon_eq, qup_ap, vup_ap, vcpy_ap, kc8_0, kc8_1, kc8_2, lc_lt, lc_gt, lc_eq, Option.toList_some, Option.toList_none, List.cons_append, List.nil_append, lay_len, lay_sz, Nat.reduceAdd, Nat.reduceSub, Nat.reduceMul, Int.reduceToNat, Int.reduceLE, Int.reduceLT, Int.reduceEq, Int.reduceAdd, Int.reduceSub, Int.reduceMul, Int.reduceNeg, Nat.reduceLeDiff, Nat.reduceLT, true_and, and_true, false_and, and_false, qcat_0, qcat_1, qcat_3, qcat_9, Nat.reduceEqDiff, if_true, if_false, ite_self, or_true, true_or, or_false, false_or, forall_const, not_true_eq_false, not_false_eq_true, false_implies, implies_true, qtK0, qtK1, qtK2, qtK3, qtK4, List.getD_cons_zero, List.getD_cons_succ, Int.toNat_natCast, ne_eq, qcK, hbF, bsetF, bclrF]
          exact hq
      · have cb' : (((d / 10 % 10 : Nat) : Int) = 0) = False := eq_false (by omega)
        have hq := hfalse (by rw [hjb, decide_eq_false (by omega), Bool.false_and])
        simp only [YK, c167, t167, tgK, lyK, rkK, wK, rfK, qRes_eq, qNon_eq, qup_ap, vup_ap, vcpy_ap, kc8_0, kc8_1, kc8_2, lc_lt, lc_gt, lc_eq, Option.toList_some, Option.toList_none, List.cons_append, List.nil_append, lay_len, lay_sz, Nat.reduceAdd, Nat.reduceSub, Nat.reduceMul, Int.reduceToNat, Int.reduceLE, Int.reduceLT, Int.reduceEq, Int.reduceAdd, Int.reduceSub, Int.reduceMul, Int.reduceNeg, Nat.reduceLeDiff, Nat.reduceLT, true_and, and_true, false_and, and_false, qcat_0, qcat_1, qcat_3, qcat_9, Nat.reduceEqDiff, if_true, if_false, ite_self, or_true, true_or, or_false, false_or, forall_const, not_true_eq_false, not_false_eq_true, false_implies, implies_true, qtK0, qtK1, qtK2, qtK3, qtK4, List.getD_cons_zero, List.getD_cons_succ, Int.toNat_natCast, ne_eq, qcK, hbF, bsetF, bclrF, ca', cb']
        exact hq
    · have ca' : (((d / 100 % 10 : Nat) : Int) = 0) = False := eq_false (by omega)
      have hq := hfalse (by rw [hjb, decide_eq_false (by omega), Bool.false_and])
      simp only [YK, c167, t167, tgK, lyK, rkK, wK, rfK, qRes_eq, qNon_eq, qup_ap, vup_ap, vcpy_ap, kc8_0, kc8_1, kc8_2, lc_lt, lc_gt, lc_eq, Option.toList_some, Option.toList_none, List.cons_append, List.nil_append, lay_len, lay_sz, Nat.reduceAdd, Nat.reduceSub, Nat.reduceMul, Int.reduceToNat, Int.reduceLE, Int.reduceLT, Int.reduceEq, Int.reduceAdd, Int.reduceSub, Int.reduceMul, Int.reduceNeg, Nat.reduceLeDiff, Nat.reduceLT, true_and, and_true, false_and, and_false, qcat_0, qcat_1, qcat_3, qcat_9, Nat.reduceEqDiff, if_true, if_false, ite_self, or_true, true_or, or_false, false_or, forall_const, not_true_eq_false, not_false_eq_true, false_implies, implies_true, qtK0, qtK1, qtK2, qtK3, qtK4, List.getD_cons_zero, List.getD_cons_succ, Int.toNat_natCast, ne_eq, qcK, hbF, bsetF, bclrF, ca']
      exact hq
  · have ek : ((d / 1000 : Nat) : Int) = 2 := by omega
    have hjb : jB n ns na F tp d = (decide (d / 10 % 100 = 0) && decide (d % 10 ≤ 8)) := by
      unfold jB fitB
      rw [hs]
      rfl
    rw [ek]
    simp only [YK, c167, t167, cl104, tgK, lyK, rkK, wK, rfK, qRes_eq, qNon_eq, qup_ap, vup_ap, vcpy_ap, kc8_0, kc8_1, kc8_2, lc_lt, lc_gt, lc_eq, Option.toList_some, Option.toList_none, List.cons_append, List.nil_append, lay_len, lay_sz, Nat.reduceAdd, Nat.reduceSub, Nat.reduceMul, Int.reduceToNat, Int.reduceLE, Int.reduceLT, Int.reduceEq, Int.reduceAdd, Int.reduceSub, Int.reduceMul, Int.reduceNeg, Nat.reduceLeDiff, Nat.reduceLT, true_and, and_true, false_and, and_false, qcat_0, qcat_1, qcat_3, qcat_9, Nat.reduceEqDiff, if_true, if_false, ite_self, or_true, true_or, or_false, false_or, forall_const, not_true_eq_false, not_false_eq_true, false_implies, implies_true, qtK0, qtK1, qtK2, qtK3, qtK4, List.getD_cons_zero, List.getD_cons_succ, Int.toNat_natCast, ne_eq, qcK, hbF, bsetF, bclrF, e1]
    refine r104 2 1 5 ?_
    rw [b01_t (by decide)]
    have hfalse : jB n ns na F tp d = false → R (some (0, 0)) (LAY, G) := by
      intro hj
      have hq := hk G tp hG (fun h => by rw [hj] at h; cases h)
      rw [hj, bi_f] at hq
      exact hq
    by_cases ca : d / 100 % 10 = 0
    · have ca' : ((d / 100 % 10 : Nat) : Int) = 0 := by omega
      by_cases cb : d / 10 % 10 = 0
      · have cb' : ((d / 10 % 10 : Nat) : Int) = 0 := by omega
        have cm : d / 10 % 100 = 0 := by omega
        simp only [YK, c167, t167, c154, t154, cl154, cl104, tgK, lyK, rkK, wK, rfK, qRes_eq, qNon_eq, qup_ap, vup_ap, vcpy_ap, kc8_0, kc8_1, kc8_2, lc_lt, lc_gt, lc_eq, Option.toList_some, Option.toList_none, List.cons_append, List.nil_append, lay_len, lay_sz, Nat.reduceAdd, Nat.reduceSub, Nat.reduceMul, Int.reduceToNat, Int.reduceLE, Int.reduceLT, Int.reduceEq, Int.reduceAdd, Int.reduceSub, Int.reduceMul, Int.reduceNeg, Nat.reduceLeDiff, Nat.reduceLT, true_and, and_true, false_and, and_false, qcat_0, qcat_1, qcat_3, qcat_9, Nat.reduceEqDiff, if_true, if_false, ite_self, or_true, true_or, or_false, false_or, forall_const, not_true_eq_false, not_false_eq_true, false_implies, implies_true, qtK0, qtK1, qtK2, qtK3, qtK4, List.getD_cons_zero, List.getD_cons_succ, Int.toNat_natCast, ne_eq, qcK, hbF, bsetF, bclrF, ca', cb', e0, e1]
        refine r104 ((d % 10 : Nat) : Int) 0 8 ?_
        by_cases cf : d % 10 ≤ 8
        · rw [b01_t (by omega)]
          have hj : jB n ns na F tp d = true := by rw [hjb, decide_eq_true cm, decide_eq_true cf]; rfl
          have hjn : jN tp d = (fun j => if j = 1 then ((d % 10 : Nat) : Int) else tp j) := by
            unfold jN
            rw [if_pos (by omega), hs]
          have hq := hk _ _ (JRr_up hG (k := 1) (by decide) ((d % 10 : Nat) : Int)) (fun _ j _ => by rw [hjn])
          rw [hj, bi_t] at hq
          simp only [YK, c167, t167, c154, t154, tgK, lyK, rkK, wK, rfK, hr, qRes_eq, qNon_eq, qup_ap, vup_ap, vcpy_ap, kc8_0, kc8_1, kc8_2, lc_lt, lc_gt, lc_eq, Option.toList_some, Option.toList_none, List.cons_append, List.nil_append, lay_len, lay_sz, Nat.reduceAdd, Nat.reduceSub, Nat.reduceMul, Int.reduceToNat, Int.reduceLE, Int.reduceLT, Int.reduceEq, Int.reduceAdd, Int.reduceSub, Int.reduceMul, Int.reduceNeg, Nat.reduceLeDiff, Nat.reduceLT, true_and, and_true, false_and, and_false, qcat_0, qcat_1, qcat_3, qcat_9, Nat.reduceEqDiff, if_true, if_false, ite_self, or_true, true_or, or_false, false_or, forall_const, not_true_eq_false, not_false_eq_true, false_implies, implies_true, qtK0, qtK1, qtK2, qtK3, qtK4, List.getD_cons_zero, List.getD_cons_succ, Int.toNat_natCast, ne_eq, qcK, hbF, bsetF, bclrF]
          exact hq
        · rw [b01_f (by omega)]
          have hq := hfalse (by rw [hjb, decide_eq_false cf, Bool.and_false])
          simp only [YK, c167, t167, c154, t154, tgK, lyK, rkK, wK, rfK, hr, qRes_eq, qNon_eq, qup_ap, vup_ap, vcpy_ap, kc8_0, kc8_1, kc8_2, lc_lt, lc_gt, lc_eq, Option.toList_some, Option.toList_none, List.cons_append, List.nil_append, lay_len, lay_sz, Nat.reduceAdd, Nat.reduceSub, Nat.reduceMul, Int.reduceToNat, Int.reduceLE, Int.reduceLT, Int.reduceEq, Int.reduceAdd, Int.reduceSub, Int.reduceMul, Int.reduceNeg, Nat.reduceLeDiff, Nat.reduceLT, true_and, and_true, false_and, and_false, qcat_0, qcat_1, qcat_3, qcat_9, Nat.reduceEqDiff, if_true, if_false, ite_self, or_true, true_or, or_false, false_or, forall_const, not_true_eq_false, not_false_eq_true, false_implies, implies_true, qtK0, qtK1, qtK2, qtK3, qtK4, List.getD_cons_zero, List.getD_cons_succ, Int.toNat_natCast, ne_eq, qcK, hbF, bsetF, bclrF]
          exact hq
      · have cb' : (((d / 10 % 10 : Nat) : Int) = 0) = False := eq_false (by omega)
        have hq := hfalse (by rw [hjb, decide_eq_false (by omega), Bool.false_and])
        simp only [YK, c167, t167, tgK, lyK, rkK, wK, rfK, qRes_eq, qNon_eq, qup_ap, vup_ap, vcpy_ap, kc8_0, kc8_1, kc8_2, lc_lt, lc_gt, lc_eq, Option.toList_some, Option.toList_none, List.cons_append, List.nil_append, lay_len, lay_sz, Nat.reduceAdd, Nat.reduceSub, Nat.reduceMul, Int.reduceToNat, Int.reduceLE, Int.reduceLT, Int.reduceEq, Int.reduceAdd, Int.reduceSub, Int.reduceMul, Int.reduceNeg, Nat.reduceLeDiff, Nat.reduceLT, true_and, and_true, false_and, and_false, qcat_0, qcat_1, qcat_3, qcat_9, Nat.reduceEqDiff, if_true, if_false, ite_self, or_true, true_or, or_false, false_or, forall_const, not_true_eq_false, not_false_eq_true, false_implies, implies_true, qtK0, qtK1, qtK2, qtK3, qtK4, List.getD_cons_zero, List.getD_cons_succ, Int.toNat_natCast, ne_eq, qcK, hbF, bsetF, bclrF, ca', cb']
        exact hq
    · have ca' : (((d / 100 % 10 : Nat) : Int) = 0) = False := eq_false (by omega)
      have hq := hfalse (by rw [hjb, decide_eq_false (by omega), Bool.false_and])
      simp only [YK, c167, t167, tgK, lyK, rkK, wK, rfK, qRes_eq, qNon_eq, qup_ap, vup_ap, vcpy_ap, kc8_0, kc8_1, kc8_2, lc_lt, lc_gt, lc_eq, Option.toList_some, Option.toList_none, List.cons_append, List.nil_append, lay_len, lay_sz, Nat.reduceAdd, Nat.reduceSub, Nat.reduceMul, Int.reduceToNat, Int.reduceLE, Int.reduceLT, Int.reduceEq, Int.reduceAdd, Int.reduceSub, Int.reduceMul, Int.reduceNeg, Nat.reduceLeDiff, Nat.reduceLT, true_and, and_true, false_and, and_false, qcat_0, qcat_1, qcat_3, qcat_9, Nat.reduceEqDiff, if_true, if_false, ite_self, or_true, true_or, or_false, false_or, forall_const, not_true_eq_false, not_false_eq_true, false_implies, implies_true, qtK0, qtK1, qtK2, qtK3, qtK4, List.getD_cons_zero, List.getD_cons_succ, Int.toNat_natCast, ne_eq, qcK, hbF, bsetF, bclrF, ca']
      exact hq
  · have ek : ((d / 1000 : Nat) : Int) = 3 := by omega
    have hjb : jB n ns na F tp d = (decide (d / 10 % 100 = 0) && decide (d % 10 ≤ 2)) := by
      unfold jB fitB
      rw [hs]
      rfl
    rw [ek]
    simp only [YK, c167, t167, cl104, tgK, lyK, rkK, wK, rfK, qRes_eq, qNon_eq, qup_ap, vup_ap, vcpy_ap, kc8_0, kc8_1, kc8_2, lc_lt, lc_gt, lc_eq, Option.toList_some, Option.toList_none, List.cons_append, List.nil_append, lay_len, lay_sz, Nat.reduceAdd, Nat.reduceSub, Nat.reduceMul, Int.reduceToNat, Int.reduceLE, Int.reduceLT, Int.reduceEq, Int.reduceAdd, Int.reduceSub, Int.reduceMul, Int.reduceNeg, Nat.reduceLeDiff, Nat.reduceLT, true_and, and_true, false_and, and_false, qcat_0, qcat_1, qcat_3, qcat_9, Nat.reduceEqDiff, if_true, if_false, ite_self, or_true, true_or, or_false, false_or, forall_const, not_true_eq_false, not_false_eq_true, false_implies, implies_true, qtK0, qtK1, qtK2, qtK3, qtK4, List.getD_cons_zero, List.getD_cons_succ, Int.toNat_natCast, ne_eq, qcK, hbF, bsetF, bclrF, e1]
    refine r104 3 1 5 ?_
    rw [b01_t (by decide)]
    have hfalse : jB n ns na F tp d = false → R (some (0, 0)) (LAY, G) := by
      intro hj
      have hq := hk G tp hG (fun h => by rw [hj] at h; cases h)
      rw [hj, bi_f] at hq
      exact hq
    by_cases ca : d / 100 % 10 = 0
    · have ca' : ((d / 100 % 10 : Nat) : Int) = 0 := by omega
      by_cases cb : d / 10 % 10 = 0
      · have cb' : ((d / 10 % 10 : Nat) : Int) = 0 := by omega
        have cm : d / 10 % 100 = 0 := by omega
        simp only [YK, c167, t167, c154, t154, cl154, cl104, tgK, lyK, rkK, wK, rfK, qRes_eq, qNon_eq, qup_ap, vup_ap, vcpy_ap, kc8_0, kc8_1, kc8_2, lc_lt, lc_gt, lc_eq, Option.toList_some, Option.toList_none, List.cons_append, List.nil_append, lay_len, lay_sz, Nat.reduceAdd, Nat.reduceSub, Nat.reduceMul, Int.reduceToNat, Int.reduceLE, Int.reduceLT, Int.reduceEq, Int.reduceAdd, Int.reduceSub, Int.reduceMul, Int.reduceNeg, Nat.reduceLeDiff, Nat.reduceLT, true_and, and_true, false_and, and_false, qcat_0, qcat_1, qcat_3, qcat_9, Nat.reduceEqDiff, if_true, if_false, ite_self, or_true, true_or, or_false, false_or, forall_const, not_true_eq_false, not_false_eq_true, false_implies, implies_true, qtK0, qtK1, qtK2, qtK3, qtK4, List.getD_cons_zero, List.getD_cons_succ, Int.toNat_natCast, ne_eq, qcK, hbF, bsetF, bclrF, ca', cb', e0, e1]
        refine r104 ((d % 10 : Nat) : Int) 0 2 ?_
        by_cases cf : d % 10 ≤ 2
        · rw [b01_t (by omega)]
          have hj : jB n ns na F tp d = true := by rw [hjb, decide_eq_true cm, decide_eq_true cf]; rfl
          have hjn : jN tp d = (fun j => if j = 2 then ((d % 10 : Nat) : Int) else tp j) := by
            unfold jN
            rw [if_pos (by omega), hs]
          have hq := hk _ _ (JRr_up hG (k := 2) (by decide) ((d % 10 : Nat) : Int)) (fun _ j _ => by rw [hjn])
          rw [hj, bi_t] at hq
          simp only [YK, c167, t167, c154, t154, tgK, lyK, rkK, wK, rfK, hr, qRes_eq, qNon_eq, qup_ap, vup_ap, vcpy_ap, kc8_0, kc8_1, kc8_2, lc_lt, lc_gt, lc_eq, Option.toList_some, Option.toList_none, List.cons_append, List.nil_append, lay_len, lay_sz, Nat.reduceAdd, Nat.reduceSub, Nat.reduceMul, Int.reduceToNat, Int.reduceLE, Int.reduceLT, Int.reduceEq, Int.reduceAdd, Int.reduceSub, Int.reduceMul, Int.reduceNeg, Nat.reduceLeDiff, Nat.reduceLT, true_and, and_true, false_and, and_false, qcat_0, qcat_1, qcat_3, qcat_9, Nat.reduceEqDiff, if_true, if_false, ite_self, or_true, true_or, or_false, false_or, forall_const, not_true_eq_false, not_false_eq_true, false_implies, implies_true, qtK0, qtK1, qtK2, qtK3, qtK4, List.getD_cons_zero, List.getD_cons_succ, Int.toNat_natCast, ne_eq, qcK, hbF, bsetF, bclrF]
          exact hq
        · rw [b01_f (by omega)]
          have hq := hfalse (by rw [hjb, decide_eq_false cf, Bool.and_false])
          simp only [YK, c167, t167, c154, t154, tgK, lyK, rkK, wK, rfK, hr, qRes_eq, qNon_eq, qup_ap, vup_ap, vcpy_ap, kc8_0, kc8_1, kc8_2, lc_lt, lc_gt, lc_eq, Option.toList_some, Option.toList_none, List.cons_append, List.nil_append, lay_len, lay_sz, Nat.reduceAdd, Nat.reduceSub, Nat.reduceMul, Int.reduceToNat, Int.reduceLE, Int.reduceLT, Int.reduceEq, Int.reduceAdd, Int.reduceSub, Int.reduceMul, Int.reduceNeg, Nat.reduceLeDiff, Nat.reduceLT, true_and, and_true, false_and, and_false, qcat_0, qcat_1, qcat_3, qcat_9, Nat.reduceEqDiff, if_true, if_false, ite_self, or_true, true_or, or_false, false_or, forall_const, not_true_eq_false, not_false_eq_true, false_implies, implies_true, qtK0, qtK1, qtK2, qtK3, qtK4, List.getD_cons_zero, List.getD_cons_succ, Int.toNat_natCast, ne_eq, qcK, hbF, bsetF, bclrF]
          exact hq
      · have cb' : (((d / 10 % 10 : Nat) : Int) = 0) = False := eq_false (by omega)
        have hq := hfalse (by rw [hjb, decide_eq_false (by omega), Bool.false_and])
        simp only [YK, c167, t167, tgK, lyK, rkK, wK, rfK, qRes_eq, qNon_eq, qup_ap, vup_ap, vcpy_ap, kc8_0, kc8_1, kc8_2, lc_lt, lc_gt, lc_eq, Option.toList_some, Option.toList_none, List.cons_append, List.nil_append, lay_len, lay_sz, Nat.reduceAdd, Nat.reduceSub, Nat.reduceMul, Int.reduceToNat, Int.reduceLE, Int.reduceLT, Int.reduceEq, Int.reduceAdd, Int.reduceSub, Int.reduceMul, Int.reduceNeg, Nat.reduceLeDiff, Nat.reduceLT, true_and, and_true, false_and, and_false, qcat_0, qcat_1, qcat_3, qcat_9, Nat.reduceEqDiff, if_true, if_false, ite_self, or_true, true_or, or_false, false_or, forall_const, not_true_eq_false, not_false_eq_true, false_implies, implies_true, qtK0, qtK1, qtK2, qtK3, qtK4, List.getD_cons_zero, List.getD_cons_succ, Int.toNat_natCast, ne_eq, qcK, hbF, bsetF, bclrF, ca', cb']
        exact hq
    · have ca' : (((d / 100 % 10 : Nat) : Int) = 0) = False := eq_false (by omega)
      have hq := hfalse (by rw [hjb, decide_eq_false (by omega), Bool.false_and])
      simp only [YK, c167, t167, tgK, lyK, rkK, wK, rfK, qRes_eq, qNon_eq, qup_ap, vup_ap, vcpy_ap, kc8_0, kc8_1, kc8_2, lc_lt, lc_gt, lc_eq, Option.toList_some, Option.toList_none, List.cons_append, List.nil_append, lay_len, lay_sz, Nat.reduceAdd, Nat.reduceSub, Nat.reduceMul, Int.reduceToNat, Int.reduceLE, Int.reduceLT, Int.reduceEq, Int.reduceAdd, Int.reduceSub, Int.reduceMul, Int.reduceNeg, Nat.reduceLeDiff, Nat.reduceLT, true_and, and_true, false_and, and_false, qcat_0, qcat_1, qcat_3, qcat_9, Nat.reduceEqDiff, if_true, if_false, ite_self, or_true, true_or, or_false, false_or, forall_const, not_true_eq_false, not_false_eq_true, false_implies, implies_true, qtK0, qtK1, qtK2, qtK3, qtK4, List.getD_cons_zero, List.getD_cons_succ, Int.toNat_natCast, ne_eq, qcK, hbF, bsetF, bclrF, ca']
      exact hq
  · have ek : ((d / 1000 : Nat) : Int) = 4 := by omega
    have hjb : jB n ns na F tp d = (decide (d / 10 % 100 = 0) && decide (d % 10 ≤ 3)) := by
      unfold jB fitB
      rw [hs]
      rfl
    rw [ek]
    simp only [YK, c167, t167, cl104, tgK, lyK, rkK, wK, rfK, qRes_eq, qNon_eq, qup_ap, vup_ap, vcpy_ap, kc8_0, kc8_1, kc8_2, lc_lt, lc_gt, lc_eq, Option.toList_some, Option.toList_none, List.cons_append, List.nil_append, lay_len, lay_sz, Nat.reduceAdd, Nat.reduceSub, Nat.reduceMul, Int.reduceToNat, Int.reduceLE, Int.reduceLT, Int.reduceEq, Int.reduceAdd, Int.reduceSub, Int.reduceMul, Int.reduceNeg, Nat.reduceLeDiff, Nat.reduceLT, true_and, and_true, false_and, and_false, qcat_0, qcat_1, qcat_3, qcat_9, Nat.reduceEqDiff, if_true, if_false, ite_self, or_true, true_or, or_false, false_or, forall_const, not_true_eq_false, not_false_eq_true, false_implies, implies_true, qtK0, qtK1, qtK2, qtK3, qtK4, List.getD_cons_zero, List.getD_cons_succ, Int.toNat_natCast, ne_eq, qcK, hbF, bsetF, bclrF, e1]
    refine r104 4 1 5 ?_
    rw [b01_t (by decide)]
    have hfalse : jB n ns na F tp d = false → R (some (0, 0)) (LAY, G) := by
      intro hj
      have hq := hk G tp hG (fun h => by rw [hj] at h; cases h)
      rw [hj, bi_f] at hq
      exact hq
    by_cases ca : d / 100 % 10 = 0
    · have ca' : ((d / 100 % 10 : Nat) : Int) = 0 := by omega
      by_cases cb : d / 10 % 10 = 0
      · have cb' : ((d / 10 % 10 : Nat) : Int) = 0 := by omega
        have cm : d / 10 % 100 = 0 := by omega
        simp only [YK, c167, t167, c154, t154, cl154, cl104, tgK, lyK, rkK, wK, rfK, qRes_eq, qNon_eq, qup_ap, vup_ap, vcpy_ap, kc8_0, kc8_1, kc8_2, lc_lt, lc_gt, lc_eq, Option.toList_some, Option.toList_none, List.cons_append, List.nil_append, lay_len, lay_sz, Nat.reduceAdd, Nat.reduceSub, Nat.reduceMul, Int.reduceToNat, Int.reduceLE, Int.reduceLT, Int.reduceEq, Int.reduceAdd, Int.reduceSub, Int.reduceMul, Int.reduceNeg, Nat.reduceLeDiff, Nat.reduceLT, true_and, and_true, false_and, and_false, qcat_0, qcat_1, qcat_3, qcat_9, Nat.reduceEqDiff, if_true, if_false, ite_self, or_true, true_or, or_false, false_or, forall_const, not_true_eq_false, not_false_eq_true, false_implies, implies_true, qtK0, qtK1, qtK2, qtK3, qtK4, List.getD_cons_zero, List.getD_cons_succ, Int.toNat_natCast, ne_eq, qcK, hbF, bsetF, bclrF, ca', cb', e0, e1]
        refine r104 ((d % 10 : Nat) : Int) 0 3 ?_
        by_cases cf : d % 10 ≤ 3
        · rw [b01_t (by omega)]
          have hj : jB n ns na F tp d = true := by rw [hjb, decide_eq_true cm, decide_eq_true cf]; rfl
          have hjn : jN tp d = (fun j => if j = 3 then ((d % 10 : Nat) : Int) else tp j) := by
            unfold jN
            rw [if_pos (by omega), hs]
          have hq := hk _ _ (JRr_up hG (k := 3) (by decide) ((d % 10 : Nat) : Int)) (fun _ j _ => by rw [hjn])
          rw [hj, bi_t] at hq
          simp only [YK, c167, t167, c154, t154, tgK, lyK, rkK, wK, rfK, hr, qRes_eq, qNon_eq, qup_ap, vup_ap, vcpy_ap, kc8_0, kc8_1, kc8_2, lc_lt, lc_gt, lc_eq, Option.toList_some, Option.toList_none, List.cons_append, List.nil_append, lay_len, lay_sz, Nat.reduceAdd, Nat.reduceSub, Nat.reduceMul, Int.reduceToNat, Int.reduceLE, Int.reduceLT, Int.reduceEq, Int.reduceAdd, Int.reduceSub, Int.reduceMul, Int.reduceNeg, Nat.reduceLeDiff, Nat.reduceLT, true_and, and_true, false_and, and_false, qcat_0, qcat_1, qcat_3, qcat_9, Nat.reduceEqDiff, if_true, if_false, ite_self, or_true, true_or, or_false, false_or, forall_const, not_true_eq_false, not_false_eq_true, false_implies, implies_true, qtK0, qtK1, qtK2, qtK3, qtK4, List.getD_cons_zero, List.getD_cons_succ, Int.toNat_natCast, ne_eq, qcK, hbF, bsetF, bclrF]
          exact hq
        · rw [b01_f (by omega)]
          have hq := hfalse (by rw [hjb, decide_eq_false cf, Bool.and_false])
          simp only [YK, c167, t167, c154, t154, tgK, lyK, rkK, wK, rfK, hr, qRes_eq, qNon_eq, qup_ap, vup_ap, vcpy_ap, kc8_0, kc8_1, kc8_2, lc_lt, lc_gt, lc_eq, Option.toList_some, Option.toList_none, List.cons_append, List.nil_append, lay_len, lay_sz, Nat.reduceAdd, Nat.reduceSub, Nat.reduceMul, Int.reduceToNat, Int.reduceLE, Int.reduceLT, Int.reduceEq, Int.reduceAdd, Int.reduceSub, Int.reduceMul, Int.reduceNeg, Nat.reduceLeDiff, Nat.reduceLT, true_and, and_true, false_and, and_false, qcat_0, qcat_1, qcat_3, qcat_9, Nat.reduceEqDiff, if_true, if_false, ite_self, or_true, true_or, or_false, false_or, forall_const, not_true_eq_false, not_false_eq_true, false_implies, implies_true, qtK0, qtK1, qtK2, qtK3, qtK4, List.getD_cons_zero, List.getD_cons_succ, Int.toNat_natCast, ne_eq, qcK, hbF, bsetF, bclrF]
          exact hq
      · have cb' : (((d / 10 % 10 : Nat) : Int) = 0) = False := eq_false (by omega)
        have hq := hfalse (by rw [hjb, decide_eq_false (by omega), Bool.false_and])
        simp only [YK, c167, t167, tgK, lyK, rkK, wK, rfK, qRes_eq, qNon_eq, qup_ap, vup_ap, vcpy_ap, kc8_0, kc8_1, kc8_2, lc_lt, lc_gt, lc_eq, Option.toList_some, Option.toList_none, List.cons_append, List.nil_append, lay_len, lay_sz, Nat.reduceAdd, Nat.reduceSub, Nat.reduceMul, Int.reduceToNat, Int.reduceLE, Int.reduceLT, Int.reduceEq, Int.reduceAdd, Int.reduceSub, Int.reduceMul, Int.reduceNeg, Nat.reduceLeDiff, Nat.reduceLT, true_and, and_true, false_and, and_false, qcat_0, qcat_1, qcat_3, qcat_9, Nat.reduceEqDiff, if_true, if_false, ite_self, or_true, true_or, or_false, false_or, forall_const, not_true_eq_false, not_false_eq_true, false_implies, implies_true, qtK0, qtK1, qtK2, qtK3, qtK4, List.getD_cons_zero, List.getD_cons_succ, Int.toNat_natCast, ne_eq, qcK, hbF, bsetF, bclrF, ca', cb']
        exact hq
    · have ca' : (((d / 100 % 10 : Nat) : Int) = 0) = False := eq_false (by omega)
      have hq := hfalse (by rw [hjb, decide_eq_false (by omega), Bool.false_and])
      simp only [YK, c167, t167, tgK, lyK, rkK, wK, rfK, qRes_eq, qNon_eq, qup_ap, vup_ap, vcpy_ap, kc8_0, kc8_1, kc8_2, lc_lt, lc_gt, lc_eq, Option.toList_some, Option.toList_none, List.cons_append, List.nil_append, lay_len, lay_sz, Nat.reduceAdd, Nat.reduceSub, Nat.reduceMul, Int.reduceToNat, Int.reduceLE, Int.reduceLT, Int.reduceEq, Int.reduceAdd, Int.reduceSub, Int.reduceMul, Int.reduceNeg, Nat.reduceLeDiff, Nat.reduceLT, true_and, and_true, false_and, and_false, qcat_0, qcat_1, qcat_3, qcat_9, Nat.reduceEqDiff, if_true, if_false, ite_self, or_true, true_or, or_false, false_or, forall_const, not_true_eq_false, not_false_eq_true, false_implies, implies_true, qtK0, qtK1, qtK2, qtK3, qtK4, List.getD_cons_zero, List.getD_cons_succ, Int.toNat_natCast, ne_eq, qcK, hbF, bsetF, bclrF, ca']
      exact hq
  · have ek : ((d / 1000 : Nat) : Int) = 5 := by omega
    have hjb : jB n ns na F tp d = (decide (d / 10 % 100 = 0) && decide (d % 10 ≤ 2)) := by
      unfold jB fitB
      rw [hs]
      rfl
    rw [ek]
    simp only [YK, c167, t167, cl104, tgK, lyK, rkK, wK, rfK, qRes_eq, qNon_eq, qup_ap, vup_ap, vcpy_ap, kc8_0, kc8_1, kc8_2, lc_lt, lc_gt, lc_eq, Option.toList_some, Option.toList_none, List.cons_append, List.nil_append, lay_len, lay_sz, Nat.reduceAdd, Nat.reduceSub, Nat.reduceMul, Int.reduceToNat, Int.reduceLE, Int.reduceLT, Int.reduceEq, Int.reduceAdd, Int.reduceSub, Int.reduceMul, Int.reduceNeg, Nat.reduceLeDiff, Nat.reduceLT, true_and, and_true, false_and, and_false, qcat_0, qcat_1, qcat_3, qcat_9, Nat.reduceEqDiff, if_true, if_false, ite_self, or_true, true_or, or_false, false_or, forall_const, not_true_eq_false, not_false_eq_true, false_implies, implies_true, qtK0, qtK1, qtK2, qtK3, qtK4, List.getD_cons_zero, List.getD_cons_succ, Int.toNat_natCast, ne_eq, qcK, hbF, bsetF, bclrF, e1]
    refine r104 5 1 5 ?_
    rw [b01_t (by decide)]
    have hfalse : jB n ns na F tp d = false → R (some (0, 0)) (LAY, G) := by
      intro hj
      have hq := hk G tp hG (fun h => by rw [hj] at h; cases h)
      rw [hj, bi_f] at hq
      exact hq
    by_cases ca : d / 100 % 10 = 0
    · have ca' : ((d / 100 % 10 : Nat) : Int) = 0 := by omega
      by_cases cb : d / 10 % 10 = 0
      · have cb' : ((d / 10 % 10 : Nat) : Int) = 0 := by omega
        have cm : d / 10 % 100 = 0 := by omega
        simp only [YK, c167, t167, c154, t154, cl154, cl104, tgK, lyK, rkK, wK, rfK, qRes_eq, qNon_eq, qup_ap, vup_ap, vcpy_ap, kc8_0, kc8_1, kc8_2, lc_lt, lc_gt, lc_eq, Option.toList_some, Option.toList_none, List.cons_append, List.nil_append, lay_len, lay_sz, Nat.reduceAdd, Nat.reduceSub, Nat.reduceMul, Int.reduceToNat, Int.reduceLE, Int.reduceLT, Int.reduceEq, Int.reduceAdd, Int.reduceSub, Int.reduceMul, Int.reduceNeg, Nat.reduceLeDiff, Nat.reduceLT, true_and, and_true, false_and, and_false, qcat_0, qcat_1, qcat_3, qcat_9, Nat.reduceEqDiff, if_true, if_false, ite_self, or_true, true_or, or_false, false_or, forall_const, not_true_eq_false, not_false_eq_true, false_implies, implies_true, qtK0, qtK1, qtK2, qtK3, qtK4, List.getD_cons_zero, List.getD_cons_succ, Int.toNat_natCast, ne_eq, qcK, hbF, bsetF, bclrF, ca', cb', e0, e1]
        refine r104 ((d % 10 : Nat) : Int) 0 2 ?_
        by_cases cf : d % 10 ≤ 2
        · rw [b01_t (by omega)]
          have hj : jB n ns na F tp d = true := by rw [hjb, decide_eq_true cm, decide_eq_true cf]; rfl
          have hjn : jN tp d = (fun j => if j = 4 then ((d % 10 : Nat) : Int) else tp j) := by
            unfold jN
            rw [if_pos (by omega), hs]
          have hq := hk _ _ (JRr_up hG (k := 4) (by decide) ((d % 10 : Nat) : Int)) (fun _ j _ => by rw [hjn])
          rw [hj, bi_t] at hq
          simp only [YK, c167, t167, c154, t154, tgK, lyK, rkK, wK, rfK, hr, qRes_eq, qNon_eq, qup_ap, vup_ap, vcpy_ap, kc8_0, kc8_1, kc8_2, lc_lt, lc_gt, lc_eq, Option.toList_some, Option.toList_none, List.cons_append, List.nil_append, lay_len, lay_sz, Nat.reduceAdd, Nat.reduceSub, Nat.reduceMul, Int.reduceToNat, Int.reduceLE, Int.reduceLT, Int.reduceEq, Int.reduceAdd, Int.reduceSub, Int.reduceMul, Int.reduceNeg, Nat.reduceLeDiff, Nat.reduceLT, true_and, and_true, false_and, and_false, qcat_0, qcat_1, qcat_3, qcat_9, Nat.reduceEqDiff, if_true, if_false, ite_self, or_true, true_or, or_false, false_or, forall_const, not_true_eq_false, not_false_eq_true, false_implies, implies_true, qtK0, qtK1, qtK2, qtK3, qtK4, List.getD_cons_zero, List.getD_cons_succ, Int.toNat_natCast, ne_eq, qcK, hbF, bsetF, bclrF]
          exact hq
        · rw [b01_f (by omega)]
          have hq := hfalse (by rw [hjb, decide_eq_false cf, Bool.and_false])
          simp only [YK, c167, t167, c154, t154, tgK, lyK, rkK, wK, rfK, hr, qRes_eq, qNon_eq, qup_ap, vup_ap, vcpy_ap, kc8_0, kc8_1, kc8_2, lc_lt, lc_gt, lc_eq, Option.toList_some, Option.toList_none, List.cons_append, List.nil_append, lay_len, lay_sz, Nat.reduceAdd, Nat.reduceSub, Nat.reduceMul, Int.reduceToNat, Int.reduceLE, Int.reduceLT, Int.reduceEq, Int.reduceAdd, Int.reduceSub, Int.reduceMul, Int.reduceNeg, Nat.reduceLeDiff, Nat.reduceLT, true_and, and_true, false_and, and_false, qcat_0, qcat_1, qcat_3, qcat_9, Nat.reduceEqDiff, if_true, if_false, ite_self, or_true, true_or, or_false, false_or, forall_const, not_true_eq_false, not_false_eq_true, false_implies, implies_true, qtK0, qtK1, qtK2, qtK3, qtK4, List.getD_cons_zero, List.getD_cons_succ, Int.toNat_natCast, ne_eq, qcK, hbF, bsetF, bclrF]
          exact hq
      · have cb' : (((d / 10 % 10 : Nat) : Int) = 0) = False := eq_false (by omega)
        have hq := hfalse (by rw [hjb, decide_eq_false (by omega), Bool.false_and])
        simp only [YK, c167, t167, tgK, lyK, rkK, wK, rfK, qRes_eq, qNon_eq, qup_ap, vup_ap, vcpy_ap, kc8_0, kc8_1, kc8_2, lc_lt, lc_gt, lc_eq, Option.toList_some, Option.toList_none, List.cons_append, List.nil_append, lay_len, lay_sz, Nat.reduceAdd, Nat.reduceSub, Nat.reduceMul, Int.reduceToNat, Int.reduceLE, Int.reduceLT, Int.reduceEq, Int.reduceAdd, Int.reduceSub, Int.reduceMul, Int.reduceNeg, Nat.reduceLeDiff, Nat.reduceLT, true_and, and_true, false_and, and_false, qcat_0, qcat_1, qcat_3, qcat_9, Nat.reduceEqDiff, if_true, if_false, ite_self, or_true, true_or, or_false, false_or, forall_const, not_true_eq_false, not_false_eq_true, false_implies, implies_true, qtK0, qtK1, qtK2, qtK3, qtK4, List.getD_cons_zero, List.getD_cons_succ, Int.toNat_natCast, ne_eq, qcK, hbF, bsetF, bclrF, ca', cb']
        exact hq
    · have ca' : (((d / 100 % 10 : Nat) : Int) = 0) = False := eq_false (by omega)
      have hq := hfalse (by rw [hjb, decide_eq_false (by omega), Bool.false_and])
      simp only [YK, c167, t167, tgK, lyK, rkK, wK, rfK, qRes_eq, qNon_eq, qup_ap, vup_ap, vcpy_ap, kc8_0, kc8_1, kc8_2, lc_lt, lc_gt, lc_eq, Option.toList_some, Option.toList_none, List.cons_append, List.nil_append, lay_len, lay_sz, Nat.reduceAdd, Nat.reduceSub, Nat.reduceMul, Int.reduceToNat, Int.reduceLE, Int.reduceLT, Int.reduceEq, Int.reduceAdd, Int.reduceSub, Int.reduceMul, Int.reduceNeg, Nat.reduceLeDiff, Nat.reduceLT, true_and, and_true, false_and, and_false, qcat_0, qcat_1, qcat_3, qcat_9, Nat.reduceEqDiff, if_true, if_false, ite_self, or_true, true_or, or_false, false_or, forall_const, not_true_eq_false, not_false_eq_true, false_implies, implies_true, qtK0, qtK1, qtK2, qtK3, qtK4, List.getD_cons_zero, List.getD_cons_succ, Int.toNat_natCast, ne_eq, qcK, hbF, bsetF, bclrF, ca']
      exact hq
  · have ek : ((d / 1000 : Nat) : Int) = 6 := by omega
    have hjb : jB n ns na F tp d = decide (d / 10 % 100 < na ∧ 2 ≤ d % 10 ∧ d % 10 ≤ 4 ∧ (pRunT n ns na 80 (trX F tp (F 118), L0)).1 98 (d / 10 % 100) = ((d % 10 : Nat) : Int)) := by
      unfold jB
      rw [if_neg (by omega), if_neg (by omega), if_pos hs]
    rw [ek]
    simp only [YK, c167, t167, cl104, tgK, lyK, rkK, wK, rfK, qRes_eq, qNon_eq, qup_ap, vup_ap, vcpy_ap, kc8_0, kc8_1, kc8_2, lc_lt, lc_gt, lc_eq, Option.toList_some, Option.toList_none, List.cons_append, List.nil_append, lay_len, lay_sz, Nat.reduceAdd, Nat.reduceSub, Nat.reduceMul, Int.reduceToNat, Int.reduceLE, Int.reduceLT, Int.reduceEq, Int.reduceAdd, Int.reduceSub, Int.reduceMul, Int.reduceNeg, Nat.reduceLeDiff, Nat.reduceLT, true_and, and_true, false_and, and_false, qcat_0, qcat_1, qcat_3, qcat_9, Nat.reduceEqDiff, if_true, if_false, ite_self, or_true, true_or, or_false, false_or, forall_const, not_true_eq_false, not_false_eq_true, false_implies, implies_true, qtK0, qtK1, qtK2, qtK3, qtK4, List.getD_cons_zero, List.getD_cons_succ, Int.toNat_natCast, ne_eq, qcK, hbF, bsetF, bclrF, e1]
    refine r104 6 1 5 ?_
    rw [b01_f (by decide)]
    simp only [YK, c167, t167, cl150, tgK, lyK, rkK, wK, rfK, qRes_eq, qNon_eq, qup_ap, vup_ap, vcpy_ap, kc8_0, kc8_1, kc8_2, lc_lt, lc_gt, lc_eq, Option.toList_some, Option.toList_none, List.cons_append, List.nil_append, lay_len, lay_sz, Nat.reduceAdd, Nat.reduceSub, Nat.reduceMul, Int.reduceToNat, Int.reduceLE, Int.reduceLT, Int.reduceEq, Int.reduceAdd, Int.reduceSub, Int.reduceMul, Int.reduceNeg, Nat.reduceLeDiff, Nat.reduceLT, true_and, and_true, false_and, and_false, qcat_0, qcat_1, qcat_3, qcat_9, Nat.reduceEqDiff, if_true, if_false, ite_self, or_true, true_or, or_false, false_or, forall_const, not_true_eq_false, not_false_eq_true, false_implies, implies_true, qtK0, qtK1, qtK2, qtK3, qtK4, List.getD_cons_zero, List.getD_cons_succ, Int.toNat_natCast, ne_eq, qcK, hbF, bsetF, bclrF]
    refine r150 hG.1.1 ?_
    clear hr
    have hr := Rf_k (layH_Rf hG.1.1)
    simp only [YK, c167, t167, cl148, tgK, lyK, rkK, wK, rfK, hr, qRes_eq, qNon_eq, qup_ap, vup_ap, vcpy_ap, kc8_0, kc8_1, kc8_2, lc_lt, lc_gt, lc_eq, Option.toList_some, Option.toList_none, List.cons_append, List.nil_append, lay_len, lay_sz, Nat.reduceAdd, Nat.reduceSub, Nat.reduceMul, Int.reduceToNat, Int.reduceLE, Int.reduceLT, Int.reduceEq, Int.reduceAdd, Int.reduceSub, Int.reduceMul, Int.reduceNeg, Nat.reduceLeDiff, Nat.reduceLT, true_and, and_true, false_and, and_false, qcat_0, qcat_1, qcat_3, qcat_9, Nat.reduceEqDiff, if_true, if_false, ite_self, or_true, true_or, or_false, false_or, forall_const, not_true_eq_false, not_false_eq_true, false_implies, implies_true, qtK0, qtK1, qtK2, qtK3, qtK4, List.getD_cons_zero, List.getD_cons_succ, Int.toNat_natCast, ne_eq, qcK, hbF, bsetF, bclrF]
    refine r_tr hA (JRr_TRr hG) hI ?_
    clear hr
    intro G2 hRR hG2
    have hr := Rf_k hG2.1.1
    have hq := hk G2 tp (TRr_JRr hG2) (fun _ j _ => by unfold jN; rw [if_neg (by omega), if_neg (by omega)])
    have u1 : w32 (10 * ((d / 100 % 10 : Nat) : Int)) = 10 * ((d / 100 % 10 : Nat) : Int) := w32_id ⟨by omega, by omega⟩
    have u2 : w32 (10 * ((d / 100 % 10 : Nat) : Int) + ((d / 10 % 10 : Nat) : Int)) = ((d / 10 % 100 : Nat) : Int) := by rw [w32_id ⟨by omega, by omega⟩]; omega
    have f3 : G2 69 3 = (na : Int) := by rw [hG2.1.2.2.1 3 (by decide) (by decide), layH_c (by decide), g3]
    have x98 : G2 98 = (pRunT n ns na 80 (trX F tp (F 118), L0)).1 98 := hRR.2.2.1 98 (by unfold nl; decide)
    simp only [YK, c167, t167, cl158, tgK, lyK, rkK, wK, rfK, hr, qRes_eq, qNon_eq, qup_ap, vup_ap, vcpy_ap, kc8_0, kc8_1, kc8_2, lc_lt, lc_gt, lc_eq, Option.toList_some, Option.toList_none, List.cons_append, List.nil_append, lay_len, lay_sz, Nat.reduceAdd, Nat.reduceSub, Nat.reduceMul, Int.reduceToNat, Int.reduceLE, Int.reduceLT, Int.reduceEq, Int.reduceAdd, Int.reduceSub, Int.reduceMul, Int.reduceNeg, Nat.reduceLeDiff, Nat.reduceLT, true_and, and_true, false_and, and_false, qcat_0, qcat_1, qcat_3, qcat_9, Nat.reduceEqDiff, if_true, if_false, ite_self, or_true, true_or, or_false, false_or, forall_const, not_true_eq_false, not_false_eq_true, false_implies, implies_true, qtK0, qtK1, qtK2, qtK3, qtK4, List.getD_cons_zero, List.getD_cons_succ, Int.toNat_natCast, ne_eq, qcK, hbF, bsetF, bclrF, u1, u2]
    refine r158 hG2.1.1 ((d / 10 % 100 : Nat) : Int) na f3 hna ?_
    by_cases ca : d / 10 % 100 < na
    · rw [b01_t (by omega)]
      have b1 : (0 ≤ ((d / 10 % 100 : Nat) : Int) ∧ ((d / 10 % 100 : Nat) : Int) < 12) = True := eq_true (by omega)
      simp only [YK, c167, t167, cl104, tgK, lyK, rkK, wK, rfK, qRes_eq, qNon_eq, qup_ap, vup_ap, vcpy_ap, kc8_0, kc8_1, kc8_2, lc_lt, lc_gt, lc_eq, Option.toList_some, Option.toList_none, List.cons_append, List.nil_append, lay_len, lay_sz, Nat.reduceAdd, Nat.reduceSub, Nat.reduceMul, Int.reduceToNat, Int.reduceLE, Int.reduceLT, Int.reduceEq, Int.reduceAdd, Int.reduceSub, Int.reduceMul, Int.reduceNeg, Nat.reduceLeDiff, Nat.reduceLT, true_and, and_true, false_and, and_false, qcat_0, qcat_1, qcat_3, qcat_9, Nat.reduceEqDiff, if_true, if_false, ite_self, or_true, true_or, or_false, false_or, forall_const, not_true_eq_false, not_false_eq_true, false_implies, implies_true, qtK0, qtK1, qtK2, qtK3, qtK4, List.getD_cons_zero, List.getD_cons_succ, Int.toNat_natCast, ne_eq, qcK, hbF, bsetF, bclrF]
      refine r104 ((d % 10 : Nat) : Int) 2 4 ?_
      by_cases cv : 2 ≤ ((d % 10 : Nat) : Int) ∧ ((d % 10 : Nat) : Int) ≤ 4
      · rw [b01_t cv]
        by_cases c9 : (pRunT n ns na 80 (trX F tp (F 118), L0)).1 98 (d / 10 % 100) = ((d % 10 : Nat) : Int)
        · rw [hjb, decide_eq_true ⟨ca, by omega, by omega, c9⟩, bi_t] at hq
          simp only [YK, c167, t167, tgK, lyK, rkK, wK, rfK, hr, qRes_eq, qNon_eq, qup_ap, vup_ap, vcpy_ap, kc8_0, kc8_1, kc8_2, lc_lt, lc_gt, lc_eq, Option.toList_some, Option.toList_none, List.cons_append, List.nil_append, lay_len, lay_sz, Nat.reduceAdd, Nat.reduceSub, Nat.reduceMul, Int.reduceToNat, Int.reduceLE, Int.reduceLT, Int.reduceEq, Int.reduceAdd, Int.reduceSub, Int.reduceMul, Int.reduceNeg, Nat.reduceLeDiff, Nat.reduceLT, true_and, and_true, false_and, and_false, qcat_0, qcat_1, qcat_3, qcat_9, Nat.reduceEqDiff, if_true, if_false, ite_self, or_true, true_or, or_false, false_or, forall_const, not_true_eq_false, not_false_eq_true, false_implies, implies_true, qtK0, qtK1, qtK2, qtK3, qtK4, List.getD_cons_zero, List.getD_cons_succ, Int.toNat_natCast, ne_eq, qcK, hbF, bsetF, bclrF, u1, u2, b1, x98, c9]
          exact hq
        · rw [hjb, decide_eq_false (fun q => c9 q.2.2.2), bi_f] at hq
          simp only [YK, c167, t167, tgK, lyK, rkK, wK, rfK, hr, qRes_eq, qNon_eq, qup_ap, vup_ap, vcpy_ap, kc8_0, kc8_1, kc8_2, lc_lt, lc_gt, lc_eq, Option.toList_some, Option.toList_none, List.cons_append, List.nil_append, lay_len, lay_sz, Nat.reduceAdd, Nat.reduceSub, Nat.reduceMul, Int.reduceToNat, Int.reduceLE, Int.reduceLT, Int.reduceEq, Int.reduceAdd, Int.reduceSub, Int.reduceMul, Int.reduceNeg, Nat.reduceLeDiff, Nat.reduceLT, true_and, and_true, false_and, and_false, qcat_0, qcat_1, qcat_3, qcat_9, Nat.reduceEqDiff, if_true, if_false, ite_self, or_true, true_or, or_false, false_or, forall_const, not_true_eq_false, not_false_eq_true, false_implies, implies_true, qtK0, qtK1, qtK2, qtK3, qtK4, List.getD_cons_zero, List.getD_cons_succ, Int.toNat_natCast, ne_eq, qcK, hbF, bsetF, bclrF, u1, u2, b1, x98, c9]
          exact hq
      · rw [b01_f cv]
        rw [hjb, decide_eq_false (by omega), bi_f] at hq
        simp only [YK, c167, t167, tgK, lyK, rkK, wK, rfK, qRes_eq, qNon_eq, qup_ap, vup_ap, vcpy_ap, kc8_0, kc8_1, kc8_2, lc_lt, lc_gt, lc_eq, Option.toList_some, Option.toList_none, List.cons_append, List.nil_append, lay_len, lay_sz, Nat.reduceAdd, Nat.reduceSub, Nat.reduceMul, Int.reduceToNat, Int.reduceLE, Int.reduceLT, Int.reduceEq, Int.reduceAdd, Int.reduceSub, Int.reduceMul, Int.reduceNeg, Nat.reduceLeDiff, Nat.reduceLT, true_and, and_true, false_and, and_false, qcat_0, qcat_1, qcat_3, qcat_9, Nat.reduceEqDiff, if_true, if_false, ite_self, or_true, true_or, or_false, false_or, forall_const, not_true_eq_false, not_false_eq_true, false_implies, implies_true, qtK0, qtK1, qtK2, qtK3, qtK4, List.getD_cons_zero, List.getD_cons_succ, Int.toNat_natCast, ne_eq, qcK, hbF, bsetF, bclrF]
        exact hq
    · rw [b01_f (by omega)]
      rw [hjb, decide_eq_false (fun q => ca q.1), bi_f] at hq
      simp only [YK, c167, t167, tgK, lyK, rkK, wK, rfK, qRes_eq, qNon_eq, qup_ap, vup_ap, vcpy_ap, kc8_0, kc8_1, kc8_2, lc_lt, lc_gt, lc_eq, Option.toList_some, Option.toList_none, List.cons_append, List.nil_append, lay_len, lay_sz, Nat.reduceAdd, Nat.reduceSub, Nat.reduceMul, Int.reduceToNat, Int.reduceLE, Int.reduceLT, Int.reduceEq, Int.reduceAdd, Int.reduceSub, Int.reduceMul, Int.reduceNeg, Nat.reduceLeDiff, Nat.reduceLT, true_and, and_true, false_and, and_false, qcat_0, qcat_1, qcat_3, qcat_9, Nat.reduceEqDiff, if_true, if_false, ite_self, or_true, true_or, or_false, false_or, forall_const, not_true_eq_false, not_false_eq_true, false_implies, implies_true, qtK0, qtK1, qtK2, qtK3, qtK4, List.getD_cons_zero, List.getD_cons_succ, Int.toNat_natCast, ne_eq, qcK, hbF, bsetF, bclrF]
      exact hq
  · have ek : ((d / 1000 : Nat) : Int) = 7 := by omega
    have hjb : jB n ns na F tp d = decide (mT (pRunT n ns na 80 (trX F tp (F 118), L0)).1 2 na = ((d % 1000 : Nat) : Int)) := by
      unfold jB
      rw [if_neg (by omega), if_neg (by omega), if_neg (by omega), if_pos hs]
    rw [ek]
    simp only [YK, c167, t167, cl104, tgK, lyK, rkK, wK, rfK, qRes_eq, qNon_eq, qup_ap, vup_ap, vcpy_ap, kc8_0, kc8_1, kc8_2, lc_lt, lc_gt, lc_eq, Option.toList_some, Option.toList_none, List.cons_append, List.nil_append, lay_len, lay_sz, Nat.reduceAdd, Nat.reduceSub, Nat.reduceMul, Int.reduceToNat, Int.reduceLE, Int.reduceLT, Int.reduceEq, Int.reduceAdd, Int.reduceSub, Int.reduceMul, Int.reduceNeg, Nat.reduceLeDiff, Nat.reduceLT, true_and, and_true, false_and, and_false, qcat_0, qcat_1, qcat_3, qcat_9, Nat.reduceEqDiff, if_true, if_false, ite_self, or_true, true_or, or_false, false_or, forall_const, not_true_eq_false, not_false_eq_true, false_implies, implies_true, qtK0, qtK1, qtK2, qtK3, qtK4, List.getD_cons_zero, List.getD_cons_succ, Int.toNat_natCast, ne_eq, qcK, hbF, bsetF, bclrF, e1]
    refine r104 7 1 5 ?_
    rw [b01_f (by decide)]
    simp only [YK, c167, t167, cl150, tgK, lyK, rkK, wK, rfK, qRes_eq, qNon_eq, qup_ap, vup_ap, vcpy_ap, kc8_0, kc8_1, kc8_2, lc_lt, lc_gt, lc_eq, Option.toList_some, Option.toList_none, List.cons_append, List.nil_append, lay_len, lay_sz, Nat.reduceAdd, Nat.reduceSub, Nat.reduceMul, Int.reduceToNat, Int.reduceLE, Int.reduceLT, Int.reduceEq, Int.reduceAdd, Int.reduceSub, Int.reduceMul, Int.reduceNeg, Nat.reduceLeDiff, Nat.reduceLT, true_and, and_true, false_and, and_false, qcat_0, qcat_1, qcat_3, qcat_9, Nat.reduceEqDiff, if_true, if_false, ite_self, or_true, true_or, or_false, false_or, forall_const, not_true_eq_false, not_false_eq_true, false_implies, implies_true, qtK0, qtK1, qtK2, qtK3, qtK4, List.getD_cons_zero, List.getD_cons_succ, Int.toNat_natCast, ne_eq, qcK, hbF, bsetF, bclrF]
    refine r150 hG.1.1 ?_
    clear hr
    have hr := Rf_k (layH_Rf hG.1.1)
    simp only [YK, c167, t167, cl148, tgK, lyK, rkK, wK, rfK, hr, qRes_eq, qNon_eq, qup_ap, vup_ap, vcpy_ap, kc8_0, kc8_1, kc8_2, lc_lt, lc_gt, lc_eq, Option.toList_some, Option.toList_none, List.cons_append, List.nil_append, lay_len, lay_sz, Nat.reduceAdd, Nat.reduceSub, Nat.reduceMul, Int.reduceToNat, Int.reduceLE, Int.reduceLT, Int.reduceEq, Int.reduceAdd, Int.reduceSub, Int.reduceMul, Int.reduceNeg, Nat.reduceLeDiff, Nat.reduceLT, true_and, and_true, false_and, and_false, qcat_0, qcat_1, qcat_3, qcat_9, Nat.reduceEqDiff, if_true, if_false, ite_self, or_true, true_or, or_false, false_or, forall_const, not_true_eq_false, not_false_eq_true, false_implies, implies_true, qtK0, qtK1, qtK2, qtK3, qtK4, List.getD_cons_zero, List.getD_cons_succ, Int.toNat_natCast, ne_eq, qcK, hbF, bsetF, bclrF]
    refine r_tr hA (JRr_TRr hG) hI ?_
    clear hr
    intro G2 hRR hG2
    have hr := Rf_k hG2.1.1
    have hq := hk G2 tp (TRr_JRr hG2) (fun _ j _ => by unfold jN; rw [if_neg (by omega), if_neg (by omega)])
    have u1 : w32 (10 * ((d / 10 % 10 : Nat) : Int)) = 10 * ((d / 10 % 10 : Nat) : Int) := w32_id ⟨by omega, by omega⟩
    have u2 : w32 (10 * ((d / 10 % 10 : Nat) : Int) + ((d % 10 : Nat) : Int)) = 10 * ((d / 10 % 10 : Nat) : Int) + ((d % 10 : Nat) : Int) := w32_id ⟨by omega, by omega⟩
    have hKP := KP_run (n := n) (ns := ns) (na := na) (S := (trX F tp (F 118), L0)) 80
    have hmr := mT_r (pRunT n ns na 80 (trX F tp (F 118), L0)).1 2 na
    by_cases ca : d / 100 % 10 = 0
    · have ca' : ((d / 100 % 10 : Nat) : Int) = 0 := by omega
      simp only [YK, c167, t167, cl151, tgK, lyK, rkK, wK, rfK, hr, qRes_eq, qNon_eq, qup_ap, vup_ap, vcpy_ap, kc8_0, kc8_1, kc8_2, lc_lt, lc_gt, lc_eq, Option.toList_some, Option.toList_none, List.cons_append, List.nil_append, lay_len, lay_sz, Nat.reduceAdd, Nat.reduceSub, Nat.reduceMul, Int.reduceToNat, Int.reduceLE, Int.reduceLT, Int.reduceEq, Int.reduceAdd, Int.reduceSub, Int.reduceMul, Int.reduceNeg, Nat.reduceLeDiff, Nat.reduceLT, true_and, and_true, false_and, and_false, qcat_0, qcat_1, qcat_3, qcat_9, Nat.reduceEqDiff, if_true, if_false, ite_self, or_true, true_or, or_false, false_or, forall_const, not_true_eq_false, not_false_eq_true, false_implies, implies_true, qtK0, qtK1, qtK2, qtK3, qtK4, List.getD_cons_zero, List.getD_cons_succ, Int.toNat_natCast, ne_eq, qcK, hbF, bsetF, bclrF, ca']
      refine r151 hRR 2 na (by rw [hKP.2 3 (by decide)]; exact hI.1.2.2.1.1) hna ?_
      by_cases c9 : mT (pRunT n ns na 80 (trX F tp (F 118), L0)).1 2 na = 10 * ((d / 10 % 10 : Nat) : Int) + ((d % 10 : Nat) : Int)
      · rw [hjb, decide_eq_true (by omega), bi_t] at hq
        simp only [YK, c167, t167, tgK, lyK, rkK, wK, rfK, qRes_eq, qNon_eq, qup_ap, vup_ap, vcpy_ap, kc8_0, kc8_1, kc8_2, lc_lt, lc_gt, lc_eq, Option.toList_some, Option.toList_none, List.cons_append, List.nil_append, lay_len, lay_sz, Nat.reduceAdd, Nat.reduceSub, Nat.reduceMul, Int.reduceToNat, Int.reduceLE, Int.reduceLT, Int.reduceEq, Int.reduceAdd, Int.reduceSub, Int.reduceMul, Int.reduceNeg, Nat.reduceLeDiff, Nat.reduceLT, true_and, and_true, false_and, and_false, qcat_0, qcat_1, qcat_3, qcat_9, Nat.reduceEqDiff, if_true, if_false, ite_self, or_true, true_or, or_false, false_or, forall_const, not_true_eq_false, not_false_eq_true, false_implies, implies_true, qtK0, qtK1, qtK2, qtK3, qtK4, List.getD_cons_zero, List.getD_cons_succ, Int.toNat_natCast, ne_eq, qcK, hbF, bsetF, bclrF, u1, u2, c9]
        exact hq
      · rw [hjb, decide_eq_false (by omega), bi_f] at hq
        simp only [YK, c167, t167, tgK, lyK, rkK, wK, rfK, qRes_eq, qNon_eq, qup_ap, vup_ap, vcpy_ap, kc8_0, kc8_1, kc8_2, lc_lt, lc_gt, lc_eq, Option.toList_some, Option.toList_none, List.cons_append, List.nil_append, lay_len, lay_sz, Nat.reduceAdd, Nat.reduceSub, Nat.reduceMul, Int.reduceToNat, Int.reduceLE, Int.reduceLT, Int.reduceEq, Int.reduceAdd, Int.reduceSub, Int.reduceMul, Int.reduceNeg, Nat.reduceLeDiff, Nat.reduceLT, true_and, and_true, false_and, and_false, qcat_0, qcat_1, qcat_3, qcat_9, Nat.reduceEqDiff, if_true, if_false, ite_self, or_true, true_or, or_false, false_or, forall_const, not_true_eq_false, not_false_eq_true, false_implies, implies_true, qtK0, qtK1, qtK2, qtK3, qtK4, List.getD_cons_zero, List.getD_cons_succ, Int.toNat_natCast, ne_eq, qcK, hbF, bsetF, bclrF, u1, u2, c9]
        exact hq
    · have ca' : (((d / 100 % 10 : Nat) : Int) = 0) = False := eq_false (by omega)
      rw [hjb, decide_eq_false (by omega), bi_f] at hq
      simp only [YK, c167, t167, tgK, lyK, rkK, wK, rfK, qRes_eq, qNon_eq, qup_ap, vup_ap, vcpy_ap, kc8_0, kc8_1, kc8_2, lc_lt, lc_gt, lc_eq, Option.toList_some, Option.toList_none, List.cons_append, List.nil_append, lay_len, lay_sz, Nat.reduceAdd, Nat.reduceSub, Nat.reduceMul, Int.reduceToNat, Int.reduceLE, Int.reduceLT, Int.reduceEq, Int.reduceAdd, Int.reduceSub, Int.reduceMul, Int.reduceNeg, Nat.reduceLeDiff, Nat.reduceLT, true_and, and_true, false_and, and_false, qcat_0, qcat_1, qcat_3, qcat_9, Nat.reduceEqDiff, if_true, if_false, ite_self, or_true, true_or, or_false, false_or, forall_const, not_true_eq_false, not_false_eq_true, false_implies, implies_true, qtK0, qtK1, qtK2, qtK3, qtK4, List.getD_cons_zero, List.getD_cons_succ, Int.toNat_natCast, ne_eq, qcK, hbF, bsetF, bclrF, ca']
      exact hq
  · have ek : ((d / 1000 : Nat) : Int) = 8 := by omega
    have hjb : jB n ns na F tp d = decide (d / 100 % 10 < n ∧ d / 10 % 10 = 0 ∧ d % 10 ≤ 1) := by
      unfold jB
      rw [if_neg (by omega), if_neg (by omega), if_neg (by omega), if_neg (by omega), if_pos hs]
    have hfalse : jB n ns na F tp d = false → R (some (0, 0)) (LAY, G) := by
      intro hj
      have hq := hk G tp hG (fun h => by rw [hj] at h; cases h)
      rw [hj, bi_f] at hq
      exact hq
    have f2 : G 69 2 = (n : Int) := by rw [hG.1.2.2.1 2 (by decide) (by decide), layH_c (by decide), g2]
    rw [ek]
    simp only [YK, c167, t167, cl104, tgK, lyK, rkK, wK, rfK, qRes_eq, qNon_eq, qup_ap, vup_ap, vcpy_ap, kc8_0, kc8_1, kc8_2, lc_lt, lc_gt, lc_eq, Option.toList_some, Option.toList_none, List.cons_append, List.nil_append, lay_len, lay_sz, Nat.reduceAdd, Nat.reduceSub, Nat.reduceMul, Int.reduceToNat, Int.reduceLE, Int.reduceLT, Int.reduceEq, Int.reduceAdd, Int.reduceSub, Int.reduceMul, Int.reduceNeg, Nat.reduceLeDiff, Nat.reduceLT, true_and, and_true, false_and, and_false, qcat_0, qcat_1, qcat_3, qcat_9, Nat.reduceEqDiff, if_true, if_false, ite_self, or_true, true_or, or_false, false_or, forall_const, not_true_eq_false, not_false_eq_true, false_implies, implies_true, qtK0, qtK1, qtK2, qtK3, qtK4, List.getD_cons_zero, List.getD_cons_succ, Int.toNat_natCast, ne_eq, qcK, hbF, bsetF, bclrF, e1]
    refine r104 8 1 5 ?_
    rw [b01_f (by decide)]
    simp only [YK, c167, t167, cl157, tgK, lyK, rkK, wK, rfK, qRes_eq, qNon_eq, qup_ap, vup_ap, vcpy_ap, kc8_0, kc8_1, kc8_2, lc_lt, lc_gt, lc_eq, Option.toList_some, Option.toList_none, List.cons_append, List.nil_append, lay_len, lay_sz, Nat.reduceAdd, Nat.reduceSub, Nat.reduceMul, Int.reduceToNat, Int.reduceLE, Int.reduceLT, Int.reduceEq, Int.reduceAdd, Int.reduceSub, Int.reduceMul, Int.reduceNeg, Nat.reduceLeDiff, Nat.reduceLT, true_and, and_true, false_and, and_false, qcat_0, qcat_1, qcat_3, qcat_9, Nat.reduceEqDiff, if_true, if_false, ite_self, or_true, true_or, or_false, false_or, forall_const, not_true_eq_false, not_false_eq_true, false_implies, implies_true, qtK0, qtK1, qtK2, qtK3, qtK4, List.getD_cons_zero, List.getD_cons_succ, Int.toNat_natCast, ne_eq, qcK, hbF, bsetF, bclrF]
    refine r157 hG.1.1 ((d / 100 % 10 : Nat) : Int) n f2 hn4 ?_
    by_cases ca : d / 100 % 10 < n
    · rw [b01_t (by omega)]
      by_cases cb : d / 10 % 10 = 0
      · have cb' : ((d / 10 % 10 : Nat) : Int) = 0 := by omega
        by_cases cv : d % 10 ≤ 1
        · have cv' : (1 < ((d % 10 : Nat) : Int)) = False := eq_false (by omega)
          have hj : jB n ns na F tp d = true := by rw [hjb, decide_eq_true ⟨ca, cb, cv⟩]
          have hjn : jN tp d = (fun j => if j = 5 then (if d % 10 = 1 then bset (tp 5) ((d / 100 % 10 : Nat) : Int) else bclr (tp 5) ((d / 100 % 10 : Nat) : Int)) else tp j) := by unfold jN; rw [if_neg (by omega), if_pos hs]
          have t5 : G 90 5 = tp 5 := hG.2.2.1 5 (by decide)
          have ho := hPB.2.2.2.2.2
          obtain ⟨-, -, o3, o4⟩ := out_r' (m := tp 5) (a := d / 100 % 10) ⟨ho.1, ho.2⟩ (by omega)
          by_cases c1 : d % 10 = 1
          · have c1' : ((d % 10 : Nat) : Int) = 1 := by omega
            have hq := hk _ _ (JRr_up hG (k := 5) (by decide) (bset (tp 5) ((d / 100 % 10 : Nat) : Int))) (fun _ j _ => by rw [hjn, if_pos c1])
            rw [hj, bi_t] at hq
            have c11 : (1 < (1 : Int)) = False := eq_false (by decide)
            simp only [YK, c167, t167, tgK, lyK, rkK, wK, rfK, hr, qRes_eq, qNon_eq, qup_ap, vup_ap, vcpy_ap, kc8_0, kc8_1, kc8_2, lc_lt, lc_gt, lc_eq, Option.toList_some, Option.toList_none, List.cons_append, List.nil_append, lay_len, lay_sz, Nat.reduceAdd, Nat.reduceSub, Nat.reduceMul, Int.reduceToNat, Int.reduceLE, Int.reduceLT, Int.reduceEq, Int.reduceAdd, Int.reduceSub, Int.reduceMul, Int.reduceNeg, Nat.reduceLeDiff, Nat.reduceLT, true_and, and_true, false_and, and_false, qcat_0, qcat_1, qcat_3, qcat_9, Nat.reduceEqDiff, if_true, if_false, ite_self, or_true, true_or, or_false, false_or, forall_const, not_true_eq_false, not_false_eq_true, false_implies, implies_true, qtK0, qtK1, qtK2, qtK3, qtK4, List.getD_cons_zero, List.getD_cons_succ, Int.toNat_natCast, ne_eq, qcK, hbF, bclrF, cb', c1', c11, t5, o3]
            exact hq
          · have c1' : ((d % 10 : Nat) : Int) = 0 := by omega
            have hq := hk _ _ (JRr_up hG (k := 5) (by decide) (bclr (tp 5) ((d / 100 % 10 : Nat) : Int))) (fun _ j _ => by rw [hjn, if_neg c1])
            rw [hj, bi_t] at hq
            simp only [YK, c167, t167, tgK, lyK, rkK, wK, rfK, hr, qRes_eq, qNon_eq, qup_ap, vup_ap, vcpy_ap, kc8_0, kc8_1, kc8_2, lc_lt, lc_gt, lc_eq, Option.toList_some, Option.toList_none, List.cons_append, List.nil_append, lay_len, lay_sz, Nat.reduceAdd, Nat.reduceSub, Nat.reduceMul, Int.reduceToNat, Int.reduceLE, Int.reduceLT, Int.reduceEq, Int.reduceAdd, Int.reduceSub, Int.reduceMul, Int.reduceNeg, Nat.reduceLeDiff, Nat.reduceLT, true_and, and_true, false_and, and_false, qcat_0, qcat_1, qcat_3, qcat_9, Nat.reduceEqDiff, if_true, if_false, ite_self, or_true, true_or, or_false, false_or, forall_const, not_true_eq_false, not_false_eq_true, false_implies, implies_true, qtK0, qtK1, qtK2, qtK3, qtK4, List.getD_cons_zero, List.getD_cons_succ, Int.toNat_natCast, ne_eq, qcK, hbF, bclrF, cb', c1', t5, o4]
            exact hq
        · have cv' : (1 < ((d % 10 : Nat) : Int)) = True := eq_true (by omega)
          have hq := hfalse (by rw [hjb, decide_eq_false (fun q => cv q.2.2)])
          simp only [YK, c167, t167, tgK, lyK, rkK, wK, rfK, qRes_eq, qNon_eq, qup_ap, vup_ap, vcpy_ap, kc8_0, kc8_1, kc8_2, lc_lt, lc_gt, lc_eq, Option.toList_some, Option.toList_none, List.cons_append, List.nil_append, lay_len, lay_sz, Nat.reduceAdd, Nat.reduceSub, Nat.reduceMul, Int.reduceToNat, Int.reduceLE, Int.reduceLT, Int.reduceEq, Int.reduceAdd, Int.reduceSub, Int.reduceMul, Int.reduceNeg, Nat.reduceLeDiff, Nat.reduceLT, true_and, and_true, false_and, and_false, qcat_0, qcat_1, qcat_3, qcat_9, Nat.reduceEqDiff, if_true, if_false, ite_self, or_true, true_or, or_false, false_or, forall_const, not_true_eq_false, not_false_eq_true, false_implies, implies_true, qtK0, qtK1, qtK2, qtK3, qtK4, List.getD_cons_zero, List.getD_cons_succ, Int.toNat_natCast, ne_eq, qcK, hbF, bsetF, bclrF, cb', cv']
          exact hq
      · have cb' : (((d / 10 % 10 : Nat) : Int) = 0) = False := eq_false (by omega)
        have hq := hfalse (by rw [hjb, decide_eq_false (fun q => cb q.2.1)])
        simp only [YK, c167, t167, tgK, lyK, rkK, wK, rfK, qRes_eq, qNon_eq, qup_ap, vup_ap, vcpy_ap, kc8_0, kc8_1, kc8_2, lc_lt, lc_gt, lc_eq, Option.toList_some, Option.toList_none, List.cons_append, List.nil_append, lay_len, lay_sz, Nat.reduceAdd, Nat.reduceSub, Nat.reduceMul, Int.reduceToNat, Int.reduceLE, Int.reduceLT, Int.reduceEq, Int.reduceAdd, Int.reduceSub, Int.reduceMul, Int.reduceNeg, Nat.reduceLeDiff, Nat.reduceLT, true_and, and_true, false_and, and_false, qcat_0, qcat_1, qcat_3, qcat_9, Nat.reduceEqDiff, if_true, if_false, ite_self, or_true, true_or, or_false, false_or, forall_const, not_true_eq_false, not_false_eq_true, false_implies, implies_true, qtK0, qtK1, qtK2, qtK3, qtK4, List.getD_cons_zero, List.getD_cons_succ, Int.toNat_natCast, ne_eq, qcK, hbF, bsetF, bclrF, cb']
        exact hq
    · rw [b01_f (by omega)]
      have hq := hfalse (by rw [hjb, decide_eq_false (fun q => ca q.1)])
      simp only [YK, c167, t167, tgK, lyK, rkK, wK, rfK, qRes_eq, qNon_eq, qup_ap, vup_ap, vcpy_ap, kc8_0, kc8_1, kc8_2, lc_lt, lc_gt, lc_eq, Option.toList_some, Option.toList_none, List.cons_append, List.nil_append, lay_len, lay_sz, Nat.reduceAdd, Nat.reduceSub, Nat.reduceMul, Int.reduceToNat, Int.reduceLE, Int.reduceLT, Int.reduceEq, Int.reduceAdd, Int.reduceSub, Int.reduceMul, Int.reduceNeg, Nat.reduceLeDiff, Nat.reduceLT, true_and, and_true, false_and, and_false, qcat_0, qcat_1, qcat_3, qcat_9, Nat.reduceEqDiff, if_true, if_false, ite_self, or_true, true_or, or_false, false_or, forall_const, not_true_eq_false, not_false_eq_true, false_implies, implies_true, qtK0, qtK1, qtK2, qtK3, qtK4, List.getD_cons_zero, List.getD_cons_succ, Int.toNat_natCast, ne_eq, qcK, hbF, bsetF, bclrF]
      exact hq
  · have ek : ((d / 1000 : Nat) : Int) = 9 := by omega
    have hj : jB n ns na F tp d = false := by unfold jB; rw [if_neg (by omega), if_neg (by omega), if_neg (by omega), if_neg (by omega), if_neg (by omega)]
    rw [ek]
    simp only [YK, c167, t167, cl104, tgK, lyK, rkK, wK, rfK, qRes_eq, qNon_eq, qup_ap, vup_ap, vcpy_ap, kc8_0, kc8_1, kc8_2, lc_lt, lc_gt, lc_eq, Option.toList_some, Option.toList_none, List.cons_append, List.nil_append, lay_len, lay_sz, Nat.reduceAdd, Nat.reduceSub, Nat.reduceMul, Int.reduceToNat, Int.reduceLE, Int.reduceLT, Int.reduceEq, Int.reduceAdd, Int.reduceSub, Int.reduceMul, Int.reduceNeg, Nat.reduceLeDiff, Nat.reduceLT, true_and, and_true, false_and, and_false, qcat_0, qcat_1, qcat_3, qcat_9, Nat.reduceEqDiff, if_true, if_false, ite_self, or_true, true_or, or_false, false_or, forall_const, not_true_eq_false, not_false_eq_true, false_implies, implies_true, qtK0, qtK1, qtK2, qtK3, qtK4, List.getD_cons_zero, List.getD_cons_succ, Int.toNat_natCast, ne_eq, qcK, hbF, bsetF, bclrF, e1]
    refine r104 9 1 5 ?_
    rw [b01_f (by decide)]
    simp only [YK, c167, t167, cl150, tgK, lyK, rkK, wK, rfK, qRes_eq, qNon_eq, qup_ap, vup_ap, vcpy_ap, kc8_0, kc8_1, kc8_2, lc_lt, lc_gt, lc_eq, Option.toList_some, Option.toList_none, List.cons_append, List.nil_append, lay_len, lay_sz, Nat.reduceAdd, Nat.reduceSub, Nat.reduceMul, Int.reduceToNat, Int.reduceLE, Int.reduceLT, Int.reduceEq, Int.reduceAdd, Int.reduceSub, Int.reduceMul, Int.reduceNeg, Nat.reduceLeDiff, Nat.reduceLT, true_and, and_true, false_and, and_false, qcat_0, qcat_1, qcat_3, qcat_9, Nat.reduceEqDiff, if_true, if_false, ite_self, or_true, true_or, or_false, false_or, forall_const, not_true_eq_false, not_false_eq_true, false_implies, implies_true, qtK0, qtK1, qtK2, qtK3, qtK4, List.getD_cons_zero, List.getD_cons_succ, Int.toNat_natCast, ne_eq, qcK, hbF, bsetF, bclrF]
    refine r150 hG.1.1 ?_
    clear hr
    have hr := Rf_k (layH_Rf hG.1.1)
    simp only [YK, c167, t167, cl148, tgK, lyK, rkK, wK, rfK, hr, qRes_eq, qNon_eq, qup_ap, vup_ap, vcpy_ap, kc8_0, kc8_1, kc8_2, lc_lt, lc_gt, lc_eq, Option.toList_some, Option.toList_none, List.cons_append, List.nil_append, lay_len, lay_sz, Nat.reduceAdd, Nat.reduceSub, Nat.reduceMul, Int.reduceToNat, Int.reduceLE, Int.reduceLT, Int.reduceEq, Int.reduceAdd, Int.reduceSub, Int.reduceMul, Int.reduceNeg, Nat.reduceLeDiff, Nat.reduceLT, true_and, and_true, false_and, and_false, qcat_0, qcat_1, qcat_3, qcat_9, Nat.reduceEqDiff, if_true, if_false, ite_self, or_true, true_or, or_false, false_or, forall_const, not_true_eq_false, not_false_eq_true, false_implies, implies_true, qtK0, qtK1, qtK2, qtK3, qtK4, List.getD_cons_zero, List.getD_cons_succ, Int.toNat_natCast, ne_eq, qcK, hbF, bsetF, bclrF]
    refine r_tr hA (JRr_TRr hG) hI ?_
    clear hr
    intro G2 hRR hG2
    have hr := Rf_k hG2.1.1
    have hq := hk G2 tp (TRr_JRr hG2) (fun h => by rw [hj] at h; cases h)
    rw [hj, bi_f] at hq
    simp only [YK, c167, t167, tgK, lyK, rkK, wK, rfK, hr, qRes_eq, qNon_eq, qup_ap, vup_ap, vcpy_ap, kc8_0, kc8_1, kc8_2, lc_lt, lc_gt, lc_eq, Option.toList_some, Option.toList_none, List.cons_append, List.nil_append, lay_len, lay_sz, Nat.reduceAdd, Nat.reduceSub, Nat.reduceMul, Int.reduceToNat, Int.reduceLE, Int.reduceLT, Int.reduceEq, Int.reduceAdd, Int.reduceSub, Int.reduceMul, Int.reduceNeg, Nat.reduceLeDiff, Nat.reduceLT, true_and, and_true, false_and, and_false, qcat_0, qcat_1, qcat_3, qcat_9, Nat.reduceEqDiff, if_true, if_false, ite_self, or_true, true_or, or_false, false_or, forall_const, not_true_eq_false, not_false_eq_true, false_implies, implies_true, qtK0, qtK1, qtK2, qtK3, qtK4, List.getD_cons_zero, List.getD_cons_succ, Int.toNat_natCast, ne_eq, qcK, hbF, bsetF, bclrF]
    exact hq
def tt (k : Nat) : Int := ((10000 ^ k : Nat) : Int)
theorem tt_v : tt 0 = 1 ∧ tt 1 = 10000 ∧ tt 2 = 100000000 ∧ tt 3 = 1000000000000 ∧ tt 4 = 10000000000000000 := by decide +kernel
theorem tt_r {k : Nat} (hk : k ≤ 4) : 0 < tt k ∧ tt k ≤ 10000000000000000 := by
  obtain ⟨t0, t1, t2, t3, t4⟩ := tt_v
  have : k = 0 ∨ k = 1 ∨ k = 2 ∨ k = 3 ∨ k = 4 := by omega
  rcases this with rfl | rfl | rfl | rfl | rfl
  · rw [t0]; decide
  · rw [t1]; decide
  · rw [t2]; decide
  · rw [t3]; decide
  · rw [t4]; decide
theorem r168 {tb : qTb} {F : XT} {R : Option qV → qM → Prop} (n : Nat) (hn : n ≤ 4) (hk : R (some (1, tt n)) (LAY, F)) : qW tb 168 (119, 1262) 0 [(0, (n : Int)), (9, 0), (9, 0), (9, 0)] [] (LAY, F) R := by
  have hloop : ∀ (m k : Nat), k + m = n → qW tb 168 (119, 1262) 4 [(0, (n : Int)), (1, tt k), (9, 0), (0, (k : Int))] [] (LAY, F) R := by
    intro m
    induction m with
    | zero =>
      intro k hm
      have ek : k = n := by omega
      subst ek
      have b1 : ((k : Int) < (k : Int)) = False := eq_false (by omega)
      rw [h168_4]
      simp only [YK, c168, t168, tgK, lyK, rkK, wK, rfK, qRes_eq, qNon_eq, qup_ap, vup_ap, vcpy_ap, kc8_0, kc8_1, kc8_2, lc_lt, lc_gt, lc_eq, Option.toList_some, Option.toList_none, List.cons_append, List.nil_append, lay_len, lay_sz, Nat.reduceAdd, Nat.reduceSub, Nat.reduceMul, Int.reduceToNat, Int.reduceLE, Int.reduceLT, Int.reduceEq, Int.reduceAdd, Int.reduceSub, Int.reduceMul, Int.reduceNeg, Nat.reduceLeDiff, Nat.reduceLT, true_and, and_true, false_and, and_false, qcat_0, qcat_1, qcat_3, qcat_9, Nat.reduceEqDiff, if_true, if_false, ite_self, or_true, true_or, or_false, false_or, forall_const, not_true_eq_false, not_false_eq_true, false_implies, implies_true, qtK0, qtK1, qtK2, qtK3, qtK4, List.getD_cons_zero, List.getD_cons_succ, Int.toNat_natCast, ne_eq, qcK, hbF, bsetF, bclrF, b1]
      exact hk
    | succ m ih =>
      intro k hm
      have b1 : ((k : Int) < (n : Int)) = True := eq_true (by omega)
      have w1 : w32 ((k : Int) + 1) = ((k + 1 : Nat) : Int) := by rw [w32_id ⟨by omega, by omega⟩]; omega
      have h1 := tt_r (k := k + 1) (by omega)
      have e : tt k * 10000 = tt (k + 1) := by unfold tt; rw [Nat.pow_succ, Int.natCast_mul]; rfl
      have w2 : w64 (tt k * 10000) = tt (k + 1) := by rw [e]; exact toInt_l1 ⟨by omega, by omega⟩
      have hi := ih (k + 1) (by omega)
      rw [h168_4]
      simp only [YK, c168, t168, tgK, lyK, rkK, wK, rfK, qRes_eq, qNon_eq, qup_ap, vup_ap, vcpy_ap, kc8_0, kc8_1, kc8_2, lc_lt, lc_gt, lc_eq, Option.toList_some, Option.toList_none, List.cons_append, List.nil_append, lay_len, lay_sz, Nat.reduceAdd, Nat.reduceSub, Nat.reduceMul, Int.reduceToNat, Int.reduceLE, Int.reduceLT, Int.reduceEq, Int.reduceAdd, Int.reduceSub, Int.reduceMul, Int.reduceNeg, Nat.reduceLeDiff, Nat.reduceLT, true_and, and_true, false_and, and_false, qcat_0, qcat_1, qcat_3, qcat_9, Nat.reduceEqDiff, if_true, if_false, ite_self, or_true, true_or, or_false, false_or, forall_const, not_true_eq_false, not_false_eq_true, false_implies, implies_true, qtK0, qtK1, qtK2, qtK3, qtK4, List.getD_cons_zero, List.getD_cons_succ, Int.toNat_natCast, ne_eq, qcK, hbF, bsetF, bclrF, b1, w1, w2]
      exact hi
  have e0 : ((1 : Nat) : Int) = 1 := rfl
  have t0 : tt 0 = 1 := tt_v.1
  have hq := hloop n 0 (by omega)
  rw [t0] at hq
  simp only [YK, c168, t168, tgK, lyK, rkK, wK, rfK, qRes_eq, qNon_eq, qup_ap, vup_ap, vcpy_ap, kc8_0, kc8_1, kc8_2, lc_lt, lc_gt, lc_eq, Option.toList_some, Option.toList_none, List.cons_append, List.nil_append, lay_len, lay_sz, Nat.reduceAdd, Nat.reduceSub, Nat.reduceMul, Int.reduceToNat, Int.reduceLE, Int.reduceLT, Int.reduceEq, Int.reduceAdd, Int.reduceSub, Int.reduceMul, Int.reduceNeg, Nat.reduceLeDiff, Nat.reduceLT, true_and, and_true, false_and, and_false, qcat_0, qcat_1, qcat_3, qcat_9, Nat.reduceEqDiff, if_true, if_false, ite_self, or_true, true_or, or_false, false_or, forall_const, not_true_eq_false, not_false_eq_true, false_implies, implies_true, qtK0, qtK1, qtK2, qtK3, qtK4, List.getD_cons_zero, List.getD_cons_succ, Int.toNat_natCast, ne_eq, qcK, hbF, bsetF, bclrF, e0]
  exact hq
/-- the i-th doing of a row of n -/
def dgt (n row i : Nat) : Nat := row / 10000 ^ (n - 1 - i) % 10000
theorem dgt_v {n row i : Nat} (hrow : row < 10000000000000000) (hi : i < n) (hn : n ≤ 4) : w32 (w64 (Int.tmod (w64 (Int.tdiv (row : Int) (tt (n - 1 - i)))) 10000)) = ((dgt n row i : Nat) : Int) := by
  unfold dgt
  have e1 : Int.tdiv (row : Int) (tt (n - 1 - i)) = ((row / 10000 ^ (n - 1 - i) : Nat) : Int) := rfl
  have h1 : row / 10000 ^ (n - 1 - i) ≤ row := Nat.div_le_self _ _
  have e2 : w64 ((row / 10000 ^ (n - 1 - i) : Nat) : Int) = ((row / 10000 ^ (n - 1 - i) : Nat) : Int) := (fun (q : Nat) (hq : q ≤ row) => (toInt_l1 ⟨by omega, by omega⟩ : w64 (q : Int) = (q : Int))) _ h1
  rw [e1, e2]
  generalize row / 10000 ^ (n - 1 - i) = q
  have e3 : Int.tmod (q : Int) 10000 = ((q % 10000 : Nat) : Int) := rfl
  have h2 : q % 10000 < 10000 := Nat.mod_lt _ (by decide)
  have e4 : w64 ((q % 10000 : Nat) : Int) = ((q % 10000 : Nat) : Int) := toInt_l1 ⟨by omega, by omega⟩
  rw [e3, e4, w32_id ⟨by omega, by omega⟩]
def jP (F : XT) (n row : Nat) : Nat → (Nat → Int)
  | 0 => F 89
  | i + 1 => jN (jP F n row i) (dgt n row i)
def jRs (nh ns na : Nat) (F : XT) (n row : Nat) : Nat → Nat → Int
  | 0, _ => -9
  | m + 1, i => if jB nh ns na F (jP F n row i) (dgt n row i) = true then jRs nh ns na F n row m (i + 1) else (i : Int)
theorem k83 {tb : qTb} {F : XT} {nh ns na n row : Nat} {R : Option qV → qM → Prop} (hL : ∀ j : Nat, (tb 1).2 j = ([1, 0, 0, 0, 0] : List Int).getD j 0) (hL1 : (tb 1).1 = 5) (hM : ∀ j : Nat, (tb 2).2 j = ([4, 8, 2, 3, 2] : List Int).getD j 0) (hM1 : (tb 2).1 = 5) (h4 : ∀ j : Nat, j ≤ 4 → (tb 4).2 j = tt j) (h41 : (tb 4).1 = 5) (hA : FA) (hR : Rel F) (hd : DN F nh ns na) (hn4 : nh ≤ 4) (hna : na ≤ 12) (hn : 1 ≤ n ∧ n ≤ 4) (hrow : (row : Int) < tt n) (hk : ∀ G, TFr F G → R (some (0, jRs nh ns na F n row n 0)) (LAY, G)) : qW tb 83 (119, 1262) 0 [(3, 0), (0, (n : Int)), (1, (row : Int)), (9, 0), (9, 0), (9, 0)] [] (LAY, F) R := by
  have e5 : ((5 : Nat) : Int) = 5 := rfl
  have htn := tt_r (k := n) hn.2
  have hloop : ∀ (m i : Nat) (G : XT) (v : qV), i + m = n → TFr F G → T26 G (jP F n row i) → PB (jP F n row i) (jP F n row i 5) → (∀ G, TFr F G → R (some (0, jRs nh ns na F n row m i)) (LAY, G)) → qW tb 83 (119, 1262) 46 [(3, 0), (0, (n : Int)), (1, (row : Int)), (9, 0), (0, (i : Int)), v] [] (LAY, G) R := by
    intro m
    induction m with
    | zero =>
      intro i G v hm hG hT hPB hk2
      have ei : i = n := by omega
      subst ei
      have b1 : ((i : Int) < (i : Int)) = False := eq_false (by omega)
      have hq := hk2 G hG
      unfold jRs at hq
      rw [h83_46]
      simp only [YK, c83, t83, tgK, lyK, rkK, wK, rfK, qRes_eq, qNon_eq, qup_ap, vup_ap, vcpy_ap, kc8_0, kc8_1, kc8_2, lc_lt, lc_gt, lc_eq, Option.toList_some, Option.toList_none, List.cons_append, List.nil_append, lay_len, lay_sz, Nat.reduceAdd, Nat.reduceSub, Nat.reduceMul, Int.reduceToNat, Int.reduceLE, Int.reduceLT, Int.reduceEq, Int.reduceAdd, Int.reduceSub, Int.reduceMul, Int.reduceNeg, Nat.reduceLeDiff, Nat.reduceLT, true_and, and_true, false_and, and_false, qcat_0, qcat_1, qcat_3, qcat_9, Nat.reduceEqDiff, if_true, if_false, ite_self, or_true, true_or, or_false, false_or, forall_const, not_true_eq_false, not_false_eq_true, false_implies, implies_true, qtK0, qtK1, qtK2, qtK3, qtK4, List.getD_cons_zero, List.getD_cons_succ, Int.toNat_natCast, ne_eq, qcK, hbF, bsetF, bclrF, b1]
      exact hq
    | succ m ih =>
      intro i G v hm hG hT hPB hk2
      have b1 : ((i : Int) < (n : Int)) = True := eq_true (by omega)
      have w1 : w32 ((i : Int) + 1) = ((i + 1 : Nat) : Int) := by rw [w32_id ⟨by omega, by omega⟩]; omega
      have u1 : w32 ((n : Int) - 1) = ((n - 1 : Nat) : Int) := by rw [w32_id ⟨by omega, by omega⟩]; omega
      have u2 : w32 (((n - 1 : Nat) : Int) - (i : Int)) = ((n - 1 - i : Nat) : Int) := by rw [w32_id ⟨by omega, by omega⟩]; omega
      have b2 : (0 ≤ ((n - 1 - i : Nat) : Int) ∧ ((n - 1 - i : Nat) : Int) < 5) = True := eq_true (by omega)
      have u3 := h4 (n - 1 - i) (by omega)
      have ht := tt_r (k := n - 1 - i) (by omega)
      have u4 : (tt (n - 1 - i) = 0) = False := eq_false (by omega)
      have u5 := dgt_v (n := n) (row := row) (i := i) (by omega) (by omega) hn.2
      have hdg : dgt n row i < 10000 := Nat.mod_lt _ (by decide)
      unfold jRs at hk2
      rw [h83_46]
      simp only [YK, c83, t83, cl94, tgK, lyK, rkK, wK, rfK, qRes_eq, qNon_eq, qup_ap, vup_ap, vcpy_ap, kc8_0, kc8_1, kc8_2, lc_lt, lc_gt, lc_eq, Option.toList_some, Option.toList_none, List.cons_append, List.nil_append, lay_len, lay_sz, Nat.reduceAdd, Nat.reduceSub, Nat.reduceMul, Int.reduceToNat, Int.reduceLE, Int.reduceLT, Int.reduceEq, Int.reduceAdd, Int.reduceSub, Int.reduceMul, Int.reduceNeg, Nat.reduceLeDiff, Nat.reduceLT, true_and, and_true, false_and, and_false, qcat_0, qcat_1, qcat_3, qcat_9, Nat.reduceEqDiff, if_true, if_false, ite_self, or_true, true_or, or_false, false_or, forall_const, not_true_eq_false, not_false_eq_true, false_implies, implies_true, qtK0, qtK1, qtK2, qtK3, List.getD_cons_zero, List.getD_cons_succ, Int.toNat_natCast, ne_eq, qcK, hbF, bsetF, bclrF, b1, u1, u2, b2, u3, u4, u5, h41, e5]
      refine k94 hL hL1 hM hM1 hA hR hd hn4 hna hdg hG hT hPB ?_
      intro G2 hG2 hT2
      by_cases c : jB nh ns na F (jP F n row i) (dgt n row i) = true
      · rw [if_pos c] at hk2
        rw [c, bi_t]
        have hq := ih (i + 1) G2 (0, ((dgt n row i : Nat) : Int)) (by omega) hG2 (hT2 c) (jN_PB hn4 hPB c) hk2
        simp only [YK, c83, t83, tgK, lyK, rkK, wK, rfK, qRes_eq, qNon_eq, qup_ap, vup_ap, vcpy_ap, kc8_0, kc8_1, kc8_2, lc_lt, lc_gt, lc_eq, Option.toList_some, Option.toList_none, List.cons_append, List.nil_append, lay_len, lay_sz, Nat.reduceAdd, Nat.reduceSub, Nat.reduceMul, Int.reduceToNat, Int.reduceLE, Int.reduceLT, Int.reduceEq, Int.reduceAdd, Int.reduceSub, Int.reduceMul, Int.reduceNeg, Nat.reduceLeDiff, Nat.reduceLT, true_and, and_true, false_and, and_false, qcat_0, qcat_1, qcat_3, qcat_9, Nat.reduceEqDiff, if_true, if_false, ite_self, or_true, true_or, or_false, false_or, forall_const, not_true_eq_false, not_false_eq_true, false_implies, implies_true, qtK0, qtK1, qtK2, qtK3, qtK4, List.getD_cons_zero, List.getD_cons_succ, Int.toNat_natCast, ne_eq, qcK, hbF, bsetF, bclrF, w1]
        exact hq
      · rw [if_neg c] at hk2
        have c' : jB nh ns na F (jP F n row i) (dgt n row i) = false := by simpa using c
        rw [c', bi_f]
        have hq := hk2 G2 hG2
        simp only [YK, c83, t83, tgK, lyK, rkK, wK, rfK, qRes_eq, qNon_eq, qup_ap, vup_ap, vcpy_ap, kc8_0, kc8_1, kc8_2, lc_lt, lc_gt, lc_eq, Option.toList_some, Option.toList_none, List.cons_append, List.nil_append, lay_len, lay_sz, Nat.reduceAdd, Nat.reduceSub, Nat.reduceMul, Int.reduceToNat, Int.reduceLE, Int.reduceLT, Int.reduceEq, Int.reduceAdd, Int.reduceSub, Int.reduceMul, Int.reduceNeg, Nat.reduceLeDiff, Nat.reduceLT, true_and, and_true, false_and, and_false, qcat_0, qcat_1, qcat_3, qcat_9, Nat.reduceEqDiff, if_true, if_false, ite_self, or_true, true_or, or_false, false_or, forall_const, not_true_eq_false, not_false_eq_true, false_implies, implies_true, qtK0, qtK1, qtK2, qtK3, qtK4, List.getD_cons_zero, List.getD_cons_succ, Int.toNat_natCast, ne_eq, qcK, hbF, bsetF, bclrF, w1]
        exact hq
  have hr := Rf_k hR.1
  have d1 : ((n : Int) < 1) = False := eq_false (by omega)
  have d2 : (4 < (n : Int)) = False := eq_false (by omega)
  have d3 : ((row : Int) < 0) = False := eq_false (by omega)
  have d4 : ((row : Int) < tt n) = True := eq_true hrow
  have b2 : (0 ≤ (n : Int) ∧ (n : Int) < 5) = True := eq_true (by omega)
  have u3 := h4 n hn.2
  have e0 : ((0 : Nat) : Int) = 0 := rfl
  have g24 : ∀ j : Nat, j < 5 → F 24 j = F 89 j := fun j hj => (hR.2.2.2.1.2.1 j hj).symm
  have hq := hloop n 0 (qup (va_up F 26 (va_cpy (F 24) (F 26) 0 0 5)) 25 1 (F 23 1)) (9, 0) (by omega) ⟨(Rf_vup hR.1 _ (by decide)).up (by decide), fun c hc c1 c2 => by
    rw [qup_c c1]
    funext j
    rw [vup_ap, if_neg c2]⟩ ⟨fun j hj => by
      rw [qup_c (by decide), vup_ap, if_pos rfl, vcpy_ap, if_pos (by omega)]
      have : 0 + (j - 0) = j := by omega
      rw [this]
      exact g24 j hj, by rw [qup_ap, if_pos rfl, if_pos rfl]; exact hR.2.2.2.1.2.2.symm⟩ (PB89 hR) hk
  simp only [YK, c83, t83, c56, t56, cl56, tgK, lyK, rkK, wK, rfK, hr, qRes_eq, qNon_eq, qup_ap, vup_ap, vcpy_ap, kc8_0, kc8_1, kc8_2, lc_lt, lc_gt, lc_eq, Option.toList_some, Option.toList_none, List.cons_append, List.nil_append, lay_len, lay_sz, Nat.reduceAdd, Nat.reduceSub, Nat.reduceMul, Int.reduceToNat, Int.reduceLE, Int.reduceLT, Int.reduceEq, Int.reduceAdd, Int.reduceSub, Int.reduceMul, Int.reduceNeg, Nat.reduceLeDiff, Nat.reduceLT, true_and, and_true, false_and, and_false, qcat_0, qcat_1, qcat_3, qcat_9, Nat.reduceEqDiff, if_true, if_false, ite_self, or_true, true_or, or_false, false_or, forall_const, not_true_eq_false, not_false_eq_true, false_implies, implies_true, qtK0, qtK1, qtK2, qtK3, List.getD_cons_zero, List.getD_cons_succ, Int.toNat_natCast, ne_eq, qcK, hbF, bsetF, bclrF, d1, d2, d3, d4, b2, u3, h41, e5, e0, y_cpyC]
  exact hq
theorem r169 {tb : qTb} {F F1 : XT} {nh ns na n row : Nat} {R : Option qV → qM → Prop} (hA : FA) (hR : Rel F) (hd : DN F nh ns na) (hn : 1 ≤ n ∧ n ≤ 4) (hrow : (row : Int) < tt n) (hR1 : Rel F1) (h9 : ∀ c : Nat, 69 ≤ c → F1 c = F c) (hk : ∀ G, Rel G → R (some (0, jRs nh ns na F n row n 0)) (LAY, G)) : qW tb 169 (119, 1262) 0 [(3, 69), (0, (n : Int)), (1, (row : Int)), (9, 0), (9, 0), (9, 0)] [] (LAY, F1) R := by
  have hD := hR.2.2.1
  have hn4 : nh ≤ 4 := by have := hD.1; have := hd.1; omega
  have htn := tt_r (k := n) hn.2
  have hloop : ∀ (m i : Nat) (G : XT) (v : qV), i + m = n → JRr F F1 G (jP F n row i) → PB (jP F n row i) (jP F n row i 5) → (∀ G, Rel G → R (some (0, jRs nh ns na F n row m i)) (LAY, G)) → qW tb 169 (119, 1262) 36 [(3, 69), (0, (n : Int)), (1, (row : Int)), (9, 0), (0, (i : Int)), v] [] (LAY, G) R := by
    intro m
    induction m with
    | zero =>
      intro i G v hm hG hPB hk2
      have ei : i = n := by omega
      subst ei
      have b1 : ((i : Int) < (i : Int)) = False := eq_false (by omega)
      have hq := hk2 G (JRr_Rel hR1 h9 hG)
      unfold jRs at hq
      rw [h169_36]
      simp only [YK, c169, t169, tgK, lyK, rkK, wK, rfK, qRes_eq, qNon_eq, qup_ap, vup_ap, vcpy_ap, kc8_0, kc8_1, kc8_2, lc_lt, lc_gt, lc_eq, Option.toList_some, Option.toList_none, List.cons_append, List.nil_append, lay_len, lay_sz, Nat.reduceAdd, Nat.reduceSub, Nat.reduceMul, Int.reduceToNat, Int.reduceLE, Int.reduceLT, Int.reduceEq, Int.reduceAdd, Int.reduceSub, Int.reduceMul, Int.reduceNeg, Nat.reduceLeDiff, Nat.reduceLT, true_and, and_true, false_and, and_false, qcat_0, qcat_1, qcat_3, qcat_9, Nat.reduceEqDiff, if_true, if_false, ite_self, or_true, true_or, or_false, false_or, forall_const, not_true_eq_false, not_false_eq_true, false_implies, implies_true, qtK0, qtK1, qtK2, qtK3, qtK4, List.getD_cons_zero, List.getD_cons_succ, Int.toNat_natCast, ne_eq, qcK, hbF, bsetF, bclrF, b1]
      exact hq
    | succ m ih =>
      intro i G v hm hG hPB hk2
      have b1 : ((i : Int) < (n : Int)) = True := eq_true (by omega)
      have w1 : w32 ((i : Int) + 1) = ((i + 1 : Nat) : Int) := by rw [w32_id ⟨by omega, by omega⟩]; omega
      have u1 : w32 ((n : Int) - 1) = ((n - 1 : Nat) : Int) := by rw [w32_id ⟨by omega, by omega⟩]; omega
      have u2 : w32 (((n - 1 : Nat) : Int) - (i : Int)) = ((n - 1 - i : Nat) : Int) := by rw [w32_id ⟨by omega, by omega⟩]; omega
      have ht := tt_r (k := n - 1 - i) (by omega)
      have u4 : (tt (n - 1 - i) = 0) = False := eq_false (by omega)
      have u5 := dgt_v (n := n) (row := row) (i := i) (by omega) (by omega) hn.2
      have hdg : dgt n row i < 10000 := Nat.mod_lt _ (by decide)
      unfold jRs at hk2
      rw [h169_36]
      simp only [YK, c169, t169, cl168, tgK, lyK, rkK, wK, rfK, qRes_eq, qNon_eq, qup_ap, vup_ap, vcpy_ap, kc8_0, kc8_1, kc8_2, lc_lt, lc_gt, lc_eq, Option.toList_some, Option.toList_none, List.cons_append, List.nil_append, lay_len, lay_sz, Nat.reduceAdd, Nat.reduceSub, Nat.reduceMul, Int.reduceToNat, Int.reduceLE, Int.reduceLT, Int.reduceEq, Int.reduceAdd, Int.reduceSub, Int.reduceMul, Int.reduceNeg, Nat.reduceLeDiff, Nat.reduceLT, true_and, and_true, false_and, and_false, qcat_0, qcat_1, qcat_3, qcat_9, Nat.reduceEqDiff, if_true, if_false, ite_self, or_true, true_or, or_false, false_or, forall_const, not_true_eq_false, not_false_eq_true, false_implies, implies_true, qtK0, qtK1, qtK2, qtK3, qtK4, List.getD_cons_zero, List.getD_cons_succ, Int.toNat_natCast, ne_eq, qcK, hbF, bsetF, bclrF, b1, u1, u2]
      refine r168 (n - 1 - i) (by omega) ?_
      generalize hdd : dgt n row i = d at *
      have y1 : w32 (Int.tdiv (d : Int) 1000) = ((d / 1000 : Nat) : Int) := by
        have : Int.tdiv (d : Int) 1000 = ((d / 1000 : Nat) : Int) := rfl
        rw [this]; exact w32_id ⟨by omega, by omega⟩
      have y2 : w32 (Int.tdiv (d : Int) 100) = ((d / 100 : Nat) : Int) := by
        have : Int.tdiv (d : Int) 100 = ((d / 100 : Nat) : Int) := rfl
        rw [this]; exact w32_id ⟨by omega, by omega⟩
      have y3 : w32 (Int.tmod ((d / 100 : Nat) : Int) 10) = ((d / 100 % 10 : Nat) : Int) := by
        have : Int.tmod ((d / 100 : Nat) : Int) 10 = ((d / 100 % 10 : Nat) : Int) := rfl
        rw [this]; exact w32_id ⟨by omega, by omega⟩
      have y4 : w32 (Int.tdiv (d : Int) 10) = ((d / 10 : Nat) : Int) := by
        have : Int.tdiv (d : Int) 10 = ((d / 10 : Nat) : Int) := rfl
        rw [this]; exact w32_id ⟨by omega, by omega⟩
      have y5 : w32 (Int.tmod ((d / 10 : Nat) : Int) 10) = ((d / 10 % 10 : Nat) : Int) := by
        have : Int.tmod ((d / 10 : Nat) : Int) 10 = ((d / 10 % 10 : Nat) : Int) := rfl
        rw [this]; exact w32_id ⟨by omega, by omega⟩
      have y6 : w32 (Int.tmod (d : Int) 10) = ((d % 10 : Nat) : Int) := by
        have : Int.tmod (d : Int) 10 = ((d % 10 : Nat) : Int) := rfl
        rw [this]; exact w32_id ⟨by omega, by omega⟩
      simp only [YK, c169, t169, cl167, tgK, lyK, rkK, wK, rfK, qRes_eq, qNon_eq, qup_ap, vup_ap, vcpy_ap, kc8_0, kc8_1, kc8_2, lc_lt, lc_gt, lc_eq, Option.toList_some, Option.toList_none, List.cons_append, List.nil_append, lay_len, lay_sz, Nat.reduceAdd, Nat.reduceSub, Nat.reduceMul, Int.reduceToNat, Int.reduceLE, Int.reduceLT, Int.reduceEq, Int.reduceAdd, Int.reduceSub, Int.reduceMul, Int.reduceNeg, Nat.reduceLeDiff, Nat.reduceLT, true_and, and_true, false_and, and_false, qcat_0, qcat_1, qcat_3, qcat_9, Nat.reduceEqDiff, if_true, if_false, ite_self, or_true, true_or, or_false, false_or, forall_const, not_true_eq_false, not_false_eq_true, false_implies, implies_true, qtK0, qtK1, qtK2, qtK3, qtK4, List.getD_cons_zero, List.getD_cons_succ, Int.toNat_natCast, ne_eq, qcK, hbF, bsetF, bclrF, u4, u5, y1, y2, y3, y4, y5, y6]
      refine r167 hA hR hd hdg hG hPB ?_
      intro G2 tq hG2 hT2
      by_cases c : jB nh ns na F (jP F n row i) d = true
      · rw [if_pos c] at hk2
        rw [c, bi_t]
        have hG3 : JRr F F1 G2 (jP F n row (i + 1)) := by
          obtain ⟨a1, a2, a3, a4, a5, a6⟩ := hG2
          refine ⟨a1, a2, fun j hj => ?_, a4, a5, a6⟩
          have eP : jP F n row (i + 1) = jN (jP F n row i) (dgt n row i) := rfl
          rw [a3 j hj, hT2 c j hj, eP, hdd]
        have hq := ih (i + 1) G2 (0, (d : Int)) (by omega) hG3 (by
          have := jN_PB hn4 hPB c
          have eP : jP F n row (i + 1) = jN (jP F n row i) (dgt n row i) := rfl
          rw [eP, hdd]
          exact this) hk2
        simp only [YK, c169, t169, tgK, lyK, rkK, wK, rfK, qRes_eq, qNon_eq, qup_ap, vup_ap, vcpy_ap, kc8_0, kc8_1, kc8_2, lc_lt, lc_gt, lc_eq, Option.toList_some, Option.toList_none, List.cons_append, List.nil_append, lay_len, lay_sz, Nat.reduceAdd, Nat.reduceSub, Nat.reduceMul, Int.reduceToNat, Int.reduceLE, Int.reduceLT, Int.reduceEq, Int.reduceAdd, Int.reduceSub, Int.reduceMul, Int.reduceNeg, Nat.reduceLeDiff, Nat.reduceLT, true_and, and_true, false_and, and_false, qcat_0, qcat_1, qcat_3, qcat_9, Nat.reduceEqDiff, if_true, if_false, ite_self, or_true, true_or, or_false, false_or, forall_const, not_true_eq_false, not_false_eq_true, false_implies, implies_true, qtK0, qtK1, qtK2, qtK3, qtK4, List.getD_cons_zero, List.getD_cons_succ, Int.toNat_natCast, ne_eq, qcK, hbF, bsetF, bclrF, w1]
        exact hq
      · rw [if_neg c] at hk2
        have c' : jB nh ns na F (jP F n row i) d = false := by simpa using c
        rw [c', bi_f]
        have hq := hk2 G2 (JRr_Rel hR1 h9 hG2)
        simp only [YK, c169, t169, tgK, lyK, rkK, wK, rfK, qRes_eq, qNon_eq, qup_ap, vup_ap, vcpy_ap, kc8_0, kc8_1, kc8_2, lc_lt, lc_gt, lc_eq, Option.toList_some, Option.toList_none, List.cons_append, List.nil_append, lay_len, lay_sz, Nat.reduceAdd, Nat.reduceSub, Nat.reduceMul, Int.reduceToNat, Int.reduceLE, Int.reduceLT, Int.reduceEq, Int.reduceAdd, Int.reduceSub, Int.reduceMul, Int.reduceNeg, Nat.reduceLeDiff, Nat.reduceLT, true_and, and_true, false_and, and_false, qcat_0, qcat_1, qcat_3, qcat_9, Nat.reduceEqDiff, if_true, if_false, ite_self, or_true, true_or, or_false, false_or, forall_const, not_true_eq_false, not_false_eq_true, false_implies, implies_true, qtK0, qtK1, qtK2, qtK3, qtK4, List.getD_cons_zero, List.getD_cons_succ, Int.toNat_natCast, ne_eq, qcK, hbF, bsetF, bclrF, w1]
        exact hq
  have hr := Rf_k hR1.1
  have e0 : ((0 : Nat) : Int) = 0 := rfl
  have e1 : ((1 : Nat) : Int) = 1 := rfl
  have u6 : w64 (tt n - 1) = tt n - 1 := toInt_l1 ⟨by omega, by omega⟩
  simp only [YK, c169, t169, cl104, tgK, lyK, rkK, wK, rfK, hr, qRes_eq, qNon_eq, qup_ap, vup_ap, vcpy_ap, kc8_0, kc8_1, kc8_2, lc_lt, lc_gt, lc_eq, Option.toList_some, Option.toList_none, List.cons_append, List.nil_append, lay_len, lay_sz, Nat.reduceAdd, Nat.reduceSub, Nat.reduceMul, Int.reduceToNat, Int.reduceLE, Int.reduceLT, Int.reduceEq, Int.reduceAdd, Int.reduceSub, Int.reduceMul, Int.reduceNeg, Nat.reduceLeDiff, Nat.reduceLT, true_and, and_true, false_and, and_false, qcat_0, qcat_1, qcat_3, qcat_9, Nat.reduceEqDiff, if_true, if_false, ite_self, or_true, true_or, or_false, false_or, forall_const, not_true_eq_false, not_false_eq_true, false_implies, implies_true, qtK0, qtK1, qtK2, qtK3, qtK4, List.getD_cons_zero, List.getD_cons_succ, Int.toNat_natCast, ne_eq, qcK, hbF, bsetF, bclrF, e1]
  refine r104 (n : Int) 1 4 ?_
  rw [b01_t (by omega)]
  simp only [YK, c169, t169, cl168, tgK, lyK, rkK, wK, rfK, qRes_eq, qNon_eq, qup_ap, vup_ap, vcpy_ap, kc8_0, kc8_1, kc8_2, lc_lt, lc_gt, lc_eq, Option.toList_some, Option.toList_none, List.cons_append, List.nil_append, lay_len, lay_sz, Nat.reduceAdd, Nat.reduceSub, Nat.reduceMul, Int.reduceToNat, Int.reduceLE, Int.reduceLT, Int.reduceEq, Int.reduceAdd, Int.reduceSub, Int.reduceMul, Int.reduceNeg, Nat.reduceLeDiff, Nat.reduceLT, true_and, and_true, false_and, and_false, qcat_0, qcat_1, qcat_3, qcat_9, Nat.reduceEqDiff, if_true, if_false, ite_self, or_true, true_or, or_false, false_or, forall_const, not_true_eq_false, not_false_eq_true, false_implies, implies_true, qtK0, qtK1, qtK2, qtK3, qtK4, List.getD_cons_zero, List.getD_cons_succ, Int.toNat_natCast, ne_eq, qcK, hbF, bsetF, bclrF, e0]
  refine r168 n hn.2 ?_
  simp only [YK, c169, t169, cl104, tgK, lyK, rkK, wK, rfK, qRes_eq, qNon_eq, qup_ap, vup_ap, vcpy_ap, kc8_0, kc8_1, kc8_2, lc_lt, lc_gt, lc_eq, Option.toList_some, Option.toList_none, List.cons_append, List.nil_append, lay_len, lay_sz, Nat.reduceAdd, Nat.reduceSub, Nat.reduceMul, Int.reduceToNat, Int.reduceLE, Int.reduceLT, Int.reduceEq, Int.reduceAdd, Int.reduceSub, Int.reduceMul, Int.reduceNeg, Nat.reduceLeDiff, Nat.reduceLT, true_and, and_true, false_and, and_false, qcat_0, qcat_1, qcat_3, qcat_9, Nat.reduceEqDiff, if_true, if_false, ite_self, or_true, true_or, or_false, false_or, forall_const, not_true_eq_false, not_false_eq_true, false_implies, implies_true, qtK0, qtK1, qtK2, qtK3, qtK4, List.getD_cons_zero, List.getD_cons_succ, Int.toNat_natCast, ne_eq, qcK, hbF, bsetF, bclrF, e1, u6]
  refine r104 (row : Int) 0 (tt n - 1) ?_
  rw [b01_t (by omega)]
  simp only [YK, c169, t169, cl165, tgK, lyK, rkK, wK, rfK, qRes_eq, qNon_eq, qup_ap, vup_ap, vcpy_ap, kc8_0, kc8_1, kc8_2, lc_lt, lc_gt, lc_eq, Option.toList_some, Option.toList_none, List.cons_append, List.nil_append, lay_len, lay_sz, Nat.reduceAdd, Nat.reduceSub, Nat.reduceMul, Int.reduceToNat, Int.reduceLE, Int.reduceLT, Int.reduceEq, Int.reduceAdd, Int.reduceSub, Int.reduceMul, Int.reduceNeg, Nat.reduceLeDiff, Nat.reduceLT, true_and, and_true, false_and, and_false, qcat_0, qcat_1, qcat_3, qcat_9, Nat.reduceEqDiff, if_true, if_false, ite_self, or_true, true_or, or_false, false_or, forall_const, not_true_eq_false, not_false_eq_true, false_implies, implies_true, qtK0, qtK1, qtK2, qtK3, qtK4, List.getD_cons_zero, List.getD_cons_succ, Int.toNat_natCast, ne_eq, qcK, hbF, bsetF, bclrF]
  refine r165 hR1.1 ?_
  have hq := hloop n 0 (layT F1) (9, 0) (by omega) ⟨⟨layT_Rf hR1.1, fun c a1 _ a3 a4 _ => by rw [layT_c a3, layH_c a4, h9 c (by omega)], fun j _ _ => by rw [layT_c (by decide), layH_c (by decide), h9 69 (by decide)], fun j _ => by rw [layT_c (by decide), layH_c (by decide), h9 97 (by decide)], fun c j a1 _ _ => by rw [layT_c (by omega), layH_c (by omega), h9 c (by omega)], fun c j a1 _ _ => by rw [layT_c (by omega), layH_c (by omega), h9 c (by omega)]⟩, by rw [layT_c (by decide), h9 118 (by decide)], fun j hj => by
      unfold layT jP
      rw [vup_ap, if_pos rfl, if_pos hj, h9 89 (by decide)], fun j hj => by
      unfold layT
      rw [vup_ap, if_pos rfl, if_neg (by omega), h9 90 (by decide)], fun j _ => by rw [layT_c (by decide), h9 96 (by decide)], fun c hc => layT_c (by omega)⟩ (PB89 hR) hk
  simp only [YK, c169, t169, tgK, lyK, rkK, wK, rfK, qRes_eq, qNon_eq, qup_ap, vup_ap, vcpy_ap, kc8_0, kc8_1, kc8_2, lc_lt, lc_gt, lc_eq, Option.toList_some, Option.toList_none, List.cons_append, List.nil_append, lay_len, lay_sz, Nat.reduceAdd, Nat.reduceSub, Nat.reduceMul, Int.reduceToNat, Int.reduceLE, Int.reduceLT, Int.reduceEq, Int.reduceAdd, Int.reduceSub, Int.reduceMul, Int.reduceNeg, Nat.reduceLeDiff, Nat.reduceLT, true_and, and_true, false_and, and_false, qcat_0, qcat_1, qcat_3, qcat_9, Nat.reduceEqDiff, if_true, if_false, ite_self, or_true, true_or, or_false, false_or, forall_const, not_true_eq_false, not_false_eq_true, false_implies, implies_true, qtK0, qtK1, qtK2, qtK3, qtK4, List.getD_cons_zero, List.getD_cons_succ, Int.toNat_natCast, ne_eq, qcK, hbF, bsetF, bclrF]
  exact hq
theorem H_judge {L : Nat} {xs : Nat → Int} (hA : FA) (F : Nat → Nat → Int) (n row : Int) (hR : Rel F) (hrow : I64 row) : qPair (qtab L xs) Rel 0 83 169 [(3, 0), (0, n), (1, row), (9, 0), (9, 0), (9, 0)] [(3, 69), (0, n), (1, row), (9, 0), (9, 0), (9, 0)] F := by
  apply qPair_of
  obtain ⟨nh, ns, na, hd⟩ := DN_of hR
  have hn4 : nh ≤ 4 := by have := hR.2.2.1.1; have := hd.1; omega
  have hna : na ≤ 12 := by have := hR.2.2.1.2.1; have := hd.2.2; omega
  have hr := Rf_k hR.1
  have e1 : ((1 : Nat) : Int) = 1 := rfl
  have e0 : ((0 : Nat) : Int) = 0 := rfl
  have e5 : ((5 : Nat) : Int) = 5 := rfl
  obtain ⟨q0, q1, q2, q3, q4⟩ := tt_v
  have h4 : ∀ j : Nat, j ≤ 4 → (qtab L xs 4).2 j = tt j := by
    intro j hj
    have : j = 0 ∨ j = 1 ∨ j = 2 ∨ j = 3 ∨ j = 4 := by omega
    rcases this with rfl | rfl | rfl | rfl | rfl
    · rw [q0]; rfl
    · rw [q1]; rfl
    · rw [q2]; rfl
    · rw [q3]; rfl
    · rw [q4]; rfl
  by_cases c : 1 ≤ n ∧ n ≤ 4
  · obtain ⟨n, rfl⟩ : ∃ k : Nat, n = (k : Int) := ⟨n.toNat, by omega⟩
    have htn := tt_r (k := n) (by omega)
    by_cases c2 : 0 ≤ row ∧ row < tt n
    · obtain ⟨row, rfl⟩ : ∃ k : Nat, row = (k : Int) := ⟨row.toNat, by omega⟩
      refine k83 (fun j => rfl) rfl (fun j => rfl) rfl h4 rfl hA hR hd hn4 hna (by omega) c2.2 ?_
      intro G hG
      rw [qRes_eq]
      refine r169 hA hR hd (by omega) c2.2 (TFr_Rel hR hG) (TFr_69 hG) ?_
      intro G2 hG2
      rw [qRes_eq]
      exact ⟨rfl, hG2⟩
    · have d1 : ((n : Int) < 1) = False := eq_false (by omega)
      have d2 : (4 < (n : Int)) = False := eq_false (by omega)
      have b2 : (0 ≤ (n : Int) ∧ (n : Int) < 5) = True := eq_true (by omega)
      have u3 := h4 n (by omega)
      have h41 : (qtab L xs 4).1 = 5 := rfl
      have u6 : w64 (tt n - 1) = tt n - 1 := toInt_l1 ⟨by omega, by omega⟩
      by_cases c3 : row < 0
      · have d3 : (row < 0) = True := eq_true c3
        simp only [YK, c83, t83, c169, t169, cl104, tgK, lyK, rkK, wK, rfK, hr, qRes_eq, qNon_eq, qup_ap, vup_ap, vcpy_ap, kc8_0, kc8_1, kc8_2, lc_lt, lc_gt, lc_eq, Option.toList_some, Option.toList_none, List.cons_append, List.nil_append, lay_len, lay_sz, Nat.reduceAdd, Nat.reduceSub, Nat.reduceMul, Int.reduceToNat, Int.reduceLE, Int.reduceLT, Int.reduceEq, Int.reduceAdd, Int.reduceSub, Int.reduceMul, Int.reduceNeg, Nat.reduceLeDiff, Nat.reduceLT, true_and, and_true, false_and, and_false, qcat_0, qcat_1, qcat_3, qcat_9, Nat.reduceEqDiff, if_true, if_false, ite_self, or_true, true_or, or_false, false_or, forall_const, not_true_eq_false, not_false_eq_true, false_implies, implies_true, qtK0, qtK1, qtK2, qtK3, List.getD_cons_zero, List.getD_cons_succ, Int.toNat_natCast, ne_eq, qcK, hbF, bsetF, bclrF, d1, d2, d3, e0, e1]
        refine r104 (n : Int) 1 4 ?_
        rw [b01_t (by omega)]
        simp only [YK, c169, t169, cl168, tgK, lyK, rkK, wK, rfK, qRes_eq, qNon_eq, qup_ap, vup_ap, vcpy_ap, kc8_0, kc8_1, kc8_2, lc_lt, lc_gt, lc_eq, Option.toList_some, Option.toList_none, List.cons_append, List.nil_append, lay_len, lay_sz, Nat.reduceAdd, Nat.reduceSub, Nat.reduceMul, Int.reduceToNat, Int.reduceLE, Int.reduceLT, Int.reduceEq, Int.reduceAdd, Int.reduceSub, Int.reduceMul, Int.reduceNeg, Nat.reduceLeDiff, Nat.reduceLT, true_and, and_true, false_and, and_false, qcat_0, qcat_1, qcat_3, qcat_9, Nat.reduceEqDiff, if_true, if_false, ite_self, or_true, true_or, or_false, false_or, forall_const, not_true_eq_false, not_false_eq_true, false_implies, implies_true, qtK0, qtK1, qtK2, qtK3, qtK4, List.getD_cons_zero, List.getD_cons_succ, Int.toNat_natCast, ne_eq, qcK, hbF, bsetF, bclrF, e0]
        refine r168 n (by omega) ?_
        simp only [YK, c169, t169, cl104, tgK, lyK, rkK, wK, rfK, qRes_eq, qNon_eq, qup_ap, vup_ap, vcpy_ap, kc8_0, kc8_1, kc8_2, lc_lt, lc_gt, lc_eq, Option.toList_some, Option.toList_none, List.cons_append, List.nil_append, lay_len, lay_sz, Nat.reduceAdd, Nat.reduceSub, Nat.reduceMul, Int.reduceToNat, Int.reduceLE, Int.reduceLT, Int.reduceEq, Int.reduceAdd, Int.reduceSub, Int.reduceMul, Int.reduceNeg, Nat.reduceLeDiff, Nat.reduceLT, true_and, and_true, false_and, and_false, qcat_0, qcat_1, qcat_3, qcat_9, Nat.reduceEqDiff, if_true, if_false, ite_self, or_true, true_or, or_false, false_or, forall_const, not_true_eq_false, not_false_eq_true, false_implies, implies_true, qtK0, qtK1, qtK2, qtK3, qtK4, List.getD_cons_zero, List.getD_cons_succ, Int.toNat_natCast, ne_eq, qcK, hbF, bsetF, bclrF, e1, u6]
        refine r104 row 0 (tt n - 1) ?_
        rw [b01_f (by omega)]
        simp only [YK, c169, t169, tgK, lyK, rkK, wK, rfK, qRes_eq, qNon_eq, qup_ap, vup_ap, vcpy_ap, kc8_0, kc8_1, kc8_2, lc_lt, lc_gt, lc_eq, Option.toList_some, Option.toList_none, List.cons_append, List.nil_append, lay_len, lay_sz, Nat.reduceAdd, Nat.reduceSub, Nat.reduceMul, Int.reduceToNat, Int.reduceLE, Int.reduceLT, Int.reduceEq, Int.reduceAdd, Int.reduceSub, Int.reduceMul, Int.reduceNeg, Nat.reduceLeDiff, Nat.reduceLT, true_and, and_true, false_and, and_false, qcat_0, qcat_1, qcat_3, qcat_9, Nat.reduceEqDiff, if_true, if_false, ite_self, or_true, true_or, or_false, false_or, forall_const, not_true_eq_false, not_false_eq_true, false_implies, implies_true, qtK0, qtK1, qtK2, qtK3, qtK4, List.getD_cons_zero, List.getD_cons_succ, Int.toNat_natCast, ne_eq, qcK, hbF, bsetF, bclrF]
        exact hR
      · have d3 : (row < 0) = False := eq_false c3
        have d4 : (row < tt n) = False := eq_false (by omega)
        simp only [YK, c83, t83, c169, t169, cl104, tgK, lyK, rkK, wK, rfK, hr, qRes_eq, qNon_eq, qup_ap, vup_ap, vcpy_ap, kc8_0, kc8_1, kc8_2, lc_lt, lc_gt, lc_eq, Option.toList_some, Option.toList_none, List.cons_append, List.nil_append, lay_len, lay_sz, Nat.reduceAdd, Nat.reduceSub, Nat.reduceMul, Int.reduceToNat, Int.reduceLE, Int.reduceLT, Int.reduceEq, Int.reduceAdd, Int.reduceSub, Int.reduceMul, Int.reduceNeg, Nat.reduceLeDiff, Nat.reduceLT, true_and, and_true, false_and, and_false, qcat_0, qcat_1, qcat_3, qcat_9, Nat.reduceEqDiff, if_true, if_false, ite_self, or_true, true_or, or_false, false_or, forall_const, not_true_eq_false, not_false_eq_true, false_implies, implies_true, qtK0, qtK1, qtK2, qtK3, List.getD_cons_zero, List.getD_cons_succ, Int.toNat_natCast, ne_eq, qcK, hbF, bsetF, bclrF, d1, d2, d3, d4, b2, u3, h41, e5, e0, e1]
        refine r104 (n : Int) 1 4 ?_
        rw [b01_t (by omega)]
        simp only [YK, c169, t169, cl168, tgK, lyK, rkK, wK, rfK, qRes_eq, qNon_eq, qup_ap, vup_ap, vcpy_ap, kc8_0, kc8_1, kc8_2, lc_lt, lc_gt, lc_eq, Option.toList_some, Option.toList_none, List.cons_append, List.nil_append, lay_len, lay_sz, Nat.reduceAdd, Nat.reduceSub, Nat.reduceMul, Int.reduceToNat, Int.reduceLE, Int.reduceLT, Int.reduceEq, Int.reduceAdd, Int.reduceSub, Int.reduceMul, Int.reduceNeg, Nat.reduceLeDiff, Nat.reduceLT, true_and, and_true, false_and, and_false, qcat_0, qcat_1, qcat_3, qcat_9, Nat.reduceEqDiff, if_true, if_false, ite_self, or_true, true_or, or_false, false_or, forall_const, not_true_eq_false, not_false_eq_true, false_implies, implies_true, qtK0, qtK1, qtK2, qtK3, qtK4, List.getD_cons_zero, List.getD_cons_succ, Int.toNat_natCast, ne_eq, qcK, hbF, bsetF, bclrF, e0]
        refine r168 n (by omega) ?_
        simp only [YK, c169, t169, cl104, tgK, lyK, rkK, wK, rfK, qRes_eq, qNon_eq, qup_ap, vup_ap, vcpy_ap, kc8_0, kc8_1, kc8_2, lc_lt, lc_gt, lc_eq, Option.toList_some, Option.toList_none, List.cons_append, List.nil_append, lay_len, lay_sz, Nat.reduceAdd, Nat.reduceSub, Nat.reduceMul, Int.reduceToNat, Int.reduceLE, Int.reduceLT, Int.reduceEq, Int.reduceAdd, Int.reduceSub, Int.reduceMul, Int.reduceNeg, Nat.reduceLeDiff, Nat.reduceLT, true_and, and_true, false_and, and_false, qcat_0, qcat_1, qcat_3, qcat_9, Nat.reduceEqDiff, if_true, if_false, ite_self, or_true, true_or, or_false, false_or, forall_const, not_true_eq_false, not_false_eq_true, false_implies, implies_true, qtK0, qtK1, qtK2, qtK3, qtK4, List.getD_cons_zero, List.getD_cons_succ, Int.toNat_natCast, ne_eq, qcK, hbF, bsetF, bclrF, e1, u6]
        refine r104 row 0 (tt n - 1) ?_
        rw [b01_f (by omega)]
        simp only [YK, c169, t169, tgK, lyK, rkK, wK, rfK, qRes_eq, qNon_eq, qup_ap, vup_ap, vcpy_ap, kc8_0, kc8_1, kc8_2, lc_lt, lc_gt, lc_eq, Option.toList_some, Option.toList_none, List.cons_append, List.nil_append, lay_len, lay_sz, Nat.reduceAdd, Nat.reduceSub, Nat.reduceMul, Int.reduceToNat, Int.reduceLE, Int.reduceLT, Int.reduceEq, Int.reduceAdd, Int.reduceSub, Int.reduceMul, Int.reduceNeg, Nat.reduceLeDiff, Nat.reduceLT, true_and, and_true, false_and, and_false, qcat_0, qcat_1, qcat_3, qcat_9, Nat.reduceEqDiff, if_true, if_false, ite_self, or_true, true_or, or_false, false_or, forall_const, not_true_eq_false, not_false_eq_true, false_implies, implies_true, qtK0, qtK1, qtK2, qtK3, qtK4, List.getD_cons_zero, List.getD_cons_succ, Int.toNat_natCast, ne_eq, qcK, hbF, bsetF, bclrF]
        exact hR
  · by_cases c2 : n < 1
    · have d1 : (n < 1) = True := eq_true c2
      simp only [YK, c83, t83, c169, t169, cl104, tgK, lyK, rkK, wK, rfK, hr, qRes_eq, qNon_eq, qup_ap, vup_ap, vcpy_ap, kc8_0, kc8_1, kc8_2, lc_lt, lc_gt, lc_eq, Option.toList_some, Option.toList_none, List.cons_append, List.nil_append, lay_len, lay_sz, Nat.reduceAdd, Nat.reduceSub, Nat.reduceMul, Int.reduceToNat, Int.reduceLE, Int.reduceLT, Int.reduceEq, Int.reduceAdd, Int.reduceSub, Int.reduceMul, Int.reduceNeg, Nat.reduceLeDiff, Nat.reduceLT, true_and, and_true, false_and, and_false, qcat_0, qcat_1, qcat_3, qcat_9, Nat.reduceEqDiff, if_true, if_false, ite_self, or_true, true_or, or_false, false_or, forall_const, not_true_eq_false, not_false_eq_true, false_implies, implies_true, qtK0, qtK1, qtK2, qtK3, List.getD_cons_zero, List.getD_cons_succ, Int.toNat_natCast, ne_eq, qcK, hbF, bsetF, bclrF, d1, e1]
      refine r104 n 1 4 ?_
      rw [b01_f c]
      simp only [YK, c169, t169, tgK, lyK, rkK, wK, rfK, qRes_eq, qNon_eq, qup_ap, vup_ap, vcpy_ap, kc8_0, kc8_1, kc8_2, lc_lt, lc_gt, lc_eq, Option.toList_some, Option.toList_none, List.cons_append, List.nil_append, lay_len, lay_sz, Nat.reduceAdd, Nat.reduceSub, Nat.reduceMul, Int.reduceToNat, Int.reduceLE, Int.reduceLT, Int.reduceEq, Int.reduceAdd, Int.reduceSub, Int.reduceMul, Int.reduceNeg, Nat.reduceLeDiff, Nat.reduceLT, true_and, and_true, false_and, and_false, qcat_0, qcat_1, qcat_3, qcat_9, Nat.reduceEqDiff, if_true, if_false, ite_self, or_true, true_or, or_false, false_or, forall_const, not_true_eq_false, not_false_eq_true, false_implies, implies_true, qtK0, qtK1, qtK2, qtK3, qtK4, List.getD_cons_zero, List.getD_cons_succ, Int.toNat_natCast, ne_eq, qcK, hbF, bsetF, bclrF]
      exact hR
    · have d1 : (n < 1) = False := eq_false c2
      have d2 : (4 < n) = True := eq_true (by omega)
      simp only [YK, c83, t83, c169, t169, cl104, tgK, lyK, rkK, wK, rfK, hr, qRes_eq, qNon_eq, qup_ap, vup_ap, vcpy_ap, kc8_0, kc8_1, kc8_2, lc_lt, lc_gt, lc_eq, Option.toList_some, Option.toList_none, List.cons_append, List.nil_append, lay_len, lay_sz, Nat.reduceAdd, Nat.reduceSub, Nat.reduceMul, Int.reduceToNat, Int.reduceLE, Int.reduceLT, Int.reduceEq, Int.reduceAdd, Int.reduceSub, Int.reduceMul, Int.reduceNeg, Nat.reduceLeDiff, Nat.reduceLT, true_and, and_true, false_and, and_false, qcat_0, qcat_1, qcat_3, qcat_9, Nat.reduceEqDiff, if_true, if_false, ite_self, or_true, true_or, or_false, false_or, forall_const, not_true_eq_false, not_false_eq_true, false_implies, implies_true, qtK0, qtK1, qtK2, qtK3, List.getD_cons_zero, List.getD_cons_succ, Int.toNat_natCast, ne_eq, qcK, hbF, bsetF, bclrF, d1, d2, e1]
      refine r104 n 1 4 ?_
      rw [b01_f c]
      simp only [YK, c169, t169, tgK, lyK, rkK, wK, rfK, qRes_eq, qNon_eq, qup_ap, vup_ap, vcpy_ap, kc8_0, kc8_1, kc8_2, lc_lt, lc_gt, lc_eq, Option.toList_some, Option.toList_none, List.cons_append, List.nil_append, lay_len, lay_sz, Nat.reduceAdd, Nat.reduceSub, Nat.reduceMul, Int.reduceToNat, Int.reduceLE, Int.reduceLT, Int.reduceEq, Int.reduceAdd, Int.reduceSub, Int.reduceMul, Int.reduceNeg, Nat.reduceLeDiff, Nat.reduceLT, true_and, and_true, false_and, and_false, qcat_0, qcat_1, qcat_3, qcat_9, Nat.reduceEqDiff, if_true, if_false, ite_self, or_true, true_or, or_false, false_or, forall_const, not_true_eq_false, not_false_eq_true, false_implies, implies_true, qtK0, qtK1, qtK2, qtK3, qtK4, List.getD_cons_zero, List.getD_cons_succ, Int.toNat_natCast, ne_eq, qcK, hbF, bsetF, bclrF]
      exact hR
