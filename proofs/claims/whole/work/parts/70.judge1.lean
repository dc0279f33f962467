/-! told doings judged: one doing -/
def fitB (k v : Nat) : Bool := if k = 0 then decide (1 ≤ v ∧ v ≤ 4) else if k = 1 then decide (v ≤ 8) else if k = 3 then decide (v ≤ 3) else decide (v ≤ 2)
def jB (n ns na : Nat) (F : XT) (tp : Nat → Int) (d : Nat) : Bool :=
  if d / 1000 = 0 then false else if d / 1000 ≤ 5 then decide (d / 10 % 100 = 0) && fitB (d / 1000 - 1) (d % 10) else if d / 1000 = 6 then decide (d / 10 % 100 < na ∧ 2 ≤ d % 10 ∧ d % 10 ≤ 4 ∧ (pRunT n ns na 80 (trX F tp (F 118), L0)).1 98 (d / 10 % 100) = ((d % 10 : Nat) : Int)) else if d / 1000 = 7 then decide (mT (pRunT n ns na 80 (trX F tp (F 118), L0)).1 2 na = ((d % 1000 : Nat) : Int)) else if d / 1000 = 8 then decide (d / 100 % 10 < n ∧ d / 10 % 10 = 0 ∧ d % 10 ≤ 1) else false
def jN (tp : Nat → Int) (d : Nat) : Nat → Int := if 1 ≤ d / 1000 ∧ d / 1000 ≤ 5 then (fun j => if j = d / 1000 - 1 then ((d % 10 : Nat) : Int) else tp j) else if d / 1000 = 8 then (fun j => if j = 5 then (if d % 10 = 1 then bset (tp 5) ((d / 100 % 10 : Nat) : Int) else bclr (tp 5) ((d / 100 % 10 : Nat) : Int)) else tp j) else tp
theorem out_r : ∀ m : Fin 16, ∀ a : Fin 4, (0 ≤ bset ((m : Nat) : Int) ((a : Nat) : Int) ∧ bset ((m : Nat) : Int) ((a : Nat) : Int) < 16) ∧ (0 ≤ bclr ((m : Nat) : Int) ((a : Nat) : Int) ∧ bclr ((m : Nat) : Int) ((a : Nat) : Int) < 16) ∧ (i1 (bclr ((m : Nat) : Int) ((a : Nat) : Int)) ||| i1 (i1 1 <<< (i1 ((a : Nat) : Int) &&& 31)).toInt).toInt = bset ((m : Nat) : Int) ((a : Nat) : Int) ∧ (i1 (bclr ((m : Nat) : Int) ((a : Nat) : Int)) ||| i1 (i1 0 <<< (i1 ((a : Nat) : Int) &&& 31)).toInt).toInt = bclr ((m : Nat) : Int) ((a : Nat) : Int) := by decide +kernel
theorem out_r' {m : Int} {a : Nat} (hm : 0 ≤ m ∧ m < 16) (ha : a < 4) : (0 ≤ bset m (a : Int) ∧ bset m (a : Int) < 16) ∧ (0 ≤ bclr m (a : Int) ∧ bclr m (a : Int) < 16) ∧ (i1 (bclr m (a : Int)) ||| i1 (i1 1 <<< (i1 (a : Int) &&& 31)).toInt).toInt = bset m (a : Int) ∧ (i1 (bclr m (a : Int)) ||| i1 (i1 0 <<< (i1 (a : Int) &&& 31)).toInt).toInt = bclr m (a : Int) := by
  have q := out_r ⟨m.toNat, by omega⟩ ⟨a, ha⟩
  have e : ((m.toNat : Nat) : Int) = m := by omega
  dsimp only at q
  rw [e] at q
  exact q
theorem jN_PB {n ns na : Nat} {F : XT} {tp : Nat → Int} {d : Nat} (hn : n ≤ 4) (hPB : PB tp (tp 5)) (hok : jB n ns na F tp d = true) : PB (jN tp d) (jN tp d 5) := by
  unfold jB at hok
  unfold jN
  by_cases c0 : d / 1000 = 0
  · rw [if_pos c0] at hok; cases hok
  · rw [if_neg c0] at hok
    by_cases c5 : d / 1000 ≤ 5
    · rw [if_pos c5, Bool.and_eq_true] at hok
      have hf := hok.2
      unfold fitB at hf
      rw [if_pos ⟨by omega, c5⟩]
      unfold PB at hPB ⊢
      have hs : d / 1000 - 1 = 0 ∨ d / 1000 - 1 = 1 ∨ d / 1000 - 1 = 2 ∨ d / 1000 - 1 = 3 ∨ d / 1000 - 1 = 4 := by omega
      rcases hs with hs | hs | hs | hs | hs
      · rw [hs] at hf ⊢
        simp only [if_true, if_false, Nat.reduceEqDiff, decide_eq_true_eq] at hf ⊢
        omega
      · rw [hs] at hf ⊢
        simp only [if_true, if_false, Nat.reduceEqDiff, decide_eq_true_eq] at hf ⊢
        omega
      · rw [hs] at hf ⊢
        simp only [if_true, if_false, Nat.reduceEqDiff, decide_eq_true_eq] at hf ⊢
        omega
      · rw [hs] at hf ⊢
        simp only [if_true, if_false, Nat.reduceEqDiff, decide_eq_true_eq] at hf ⊢
        omega
      · rw [hs] at hf ⊢
        simp only [if_true, if_false, Nat.reduceEqDiff, decide_eq_true_eq] at hf ⊢
        omega
    · rw [if_neg c5] at hok
      rw [if_neg (fun q => c5 q.2)]
      by_cases c8 : d / 1000 = 8
      · rw [if_pos c8]
        rw [if_neg (by omega), if_neg (by omega), if_pos c8] at hok
        simp only [decide_eq_true_eq] at hok
        have ho := hPB.2.2.2.2.2
        have q := out_r' (m := tp 5) (a := d / 100 % 10) ⟨ho.1, ho.2⟩ (by omega)
        unfold PB at hPB ⊢
        simp only [if_true, if_false, Nat.reduceEqDiff]
        by_cases c1 : d % 10 = 1
        · rw [if_pos c1]; omega
        · rw [if_neg c1]; omega
      · rw [if_neg c8]; exact hPB
def T26 (G : XT) (tp : Nat → Int) : Prop := (∀ k : Nat, k < 5 → G 26 k = tp k) ∧ G 25 1 = tp 5
theorem k94 {tb : qTb} {F G : XT} {n ns na d : Nat} {tp : Nat → Int} {R : Option qV → qM → Prop} (hL : ∀ j : Nat, (tb 1).2 j = ([1, 0, 0, 0, 0] : List Int).getD j 0) (hL1 : (tb 1).1 = 5) (hM : ∀ j : Nat, (tb 2).2 j = ([4, 8, 2, 3, 2] : List Int).getD j 0) (hM1 : (tb 2).1 = 5) (hA : FA) (hR : Rel F) (hd : DN F n ns na) (hn4 : n ≤ 4) (hna : na ≤ 12) (hd4 : d < 10000) (hG : TFr F G) (hT : T26 G tp) (hPB : PB tp (tp 5)) (hk : ∀ G2, TFr F G2 → (jB n ns na F tp d = true → T26 G2 (jN tp d)) → R (some (0, bi (jB n ns na F tp d))) (LAY, G2)) : qW tb 94 (119, 1262) 0 [(3, 0), (0, (d : Int)), (9, 0), (9, 0), (9, 0)] [] (LAY, G) R := by
  have hr := Rf_k hG.1
  have e5 : ((5 : Nat) : Int) = 5 := rfl
  have g30 : G 3 0 = (n : Int) := by rw [hG.2 3 (by unfold fx; decide) (by decide) (by decide)]; exact hd.1
  have g32 : G 3 2 = (na : Int) := by rw [hG.2 3 (by unfold fx; decide) (by decide) (by decide)]; exact hd.2.2
  have e1 : w32 (Int.tdiv (d : Int) 1000) = ((d / 1000 : Nat) : Int) := by
    have : Int.tdiv (d : Int) 1000 = ((d / 1000 : Nat) : Int) := rfl
    rw [this]; exact w32_id ⟨by omega, by omega⟩
  have e2 : w32 (Int.tdiv (d : Int) 10) = ((d / 10 : Nat) : Int) := by
    have : Int.tdiv (d : Int) 10 = ((d / 10 : Nat) : Int) := rfl
    rw [this]; exact w32_id ⟨by omega, by omega⟩
  have e3 : w32 (Int.tmod ((d / 10 : Nat) : Int) 100) = ((d / 10 % 100 : Nat) : Int) := by
    have : Int.tmod ((d / 10 : Nat) : Int) 100 = ((d / 10 % 100 : Nat) : Int) := rfl
    rw [this]; exact w32_id ⟨by omega, by omega⟩
  have e4 : w32 (Int.tmod (d : Int) 10) = ((d % 10 : Nat) : Int) := by
    have : Int.tmod (d : Int) 10 = ((d % 10 : Nat) : Int) := rfl
    rw [this]; exact w32_id ⟨by omega, by omega⟩
  have e6 : w32 (Int.tmod (d : Int) 1000) = ((d % 1000 : Nat) : Int) := by
    have : Int.tmod (d : Int) 1000 = ((d % 1000 : Nat) : Int) := rfl
    rw [this]; exact w32_id ⟨by omega, by omega⟩
  have hs : d / 1000 = 0 ∨ d / 1000 = 1 ∨ d / 1000 = 2 ∨ d / 1000 = 3 ∨ d / 1000 = 4 ∨ d / 1000 = 5 ∨ d / 1000 = 6 ∨ d / 1000 = 7 ∨ d / 1000 = 8 ∨ d / 1000 = 9 := by omega
  rcases hs with hs | hs | hs | hs | hs | hs | hs | hs | hs | hs
  · have ek : ((d / 1000 : Nat) : Int) = 0 := by omega
    have hj : jB n ns na F tp d = false := by unfold jB; rw [if_pos hs]
    have hq := hk G hG (fun h => by rw [hj] at h; cases h)
    rw [hj, bi_f] at hq
    simp only [YK, c94, t94, tgK, lyK, rkK, wK, rfK, hr, qRes_eq, qNon_eq, qup_ap, vup_ap, vcpy_ap, kc8_0, kc8_1, kc8_2, lc_lt, lc_gt, lc_eq, Option.toList_some, Option.toList_none, List.cons_append, List.nil_append, lay_len, lay_sz, Nat.reduceAdd, Nat.reduceSub, Nat.reduceMul, Int.reduceToNat, Int.reduceLE, Int.reduceLT, Int.reduceEq, Int.reduceAdd, Int.reduceSub, Int.reduceMul, Int.reduceNeg, Nat.reduceLeDiff, Nat.reduceLT, true_and, and_true, false_and, and_false, qcat_0, qcat_1, qcat_3, qcat_9, Nat.reduceEqDiff, if_true, if_false, ite_self, or_true, true_or, or_false, false_or, forall_const, not_true_eq_false, not_false_eq_true, false_implies, implies_true, qtK0, qtK1, qtK2, qtK3, qtK4, List.getD_cons_zero, List.getD_cons_succ, Int.toNat_natCast, ne_eq, qcK, hbF, bsetF, bclrF, ek, e1, e2, e3, e4]
    exact hq
  · have ek : ((d / 1000 : Nat) : Int) = 1 := by omega
    have hjb : jB n ns na F tp d = (decide (d / 10 % 100 = 0) && decide (1 ≤ d % 10 ∧ d % 10 ≤ 4)) := by
      unfold jB fitB
      rw [hs]
      rfl
    by_cases cm : d / 10 % 100 = 0
    · have cm' : ((d / 10 % 100 : Nat) : Int) = 0 := by omega
      by_cases cf : 1 ≤ d % 10 ∧ d % 10 ≤ 4
      · have hj : jB n ns na F tp d = true := by rw [hjb, decide_eq_true cm, decide_eq_true cf]; rfl
        have hjn : jN tp d = (fun j => if j = 0 then ((d % 10 : Nat) : Int) else tp j) := by
          unfold jN
          rw [if_pos (by omega), hs]
        have dlo : (((d % 10 : Nat) : Int) < 1) = False := eq_false (by omega)
        have dhi : (4 < ((d % 10 : Nat) : Int)) = False := eq_false (by omega)
        have hq := hk (qup G 26 0 ((d % 10 : Nat) : Int)) ⟨hG.1.upA _ _ (by decide), fun c hc c1 c2 => by rw [qup_c c2]; exact hG.2 c hc c1 c2⟩ (fun _ => by
          rw [hjn]
          refine ⟨fun j hj5 => ?_, ?_⟩
          · show _ = if j = 0 then ((d % 10 : Nat) : Int) else tp j
            rw [qup_ap, if_pos rfl]
            by_cases c : j = 0
            · rw [if_pos c, if_pos c]
            · rw [if_neg c, if_neg c]; exact hT.1 j hj5
          · show _ = if 5 = 0 then ((d % 10 : Nat) : Int) else tp 5
            rw [qup_c (by decide), if_neg (by decide)]; exact hT.2)
        rw [hj, bi_t] at hq
        simp only [YK, c94, t94, c58, t58, cl58, tgK, lyK, rkK, wK, rfK, hr, qRes_eq, qNon_eq, qup_ap, vup_ap, vcpy_ap, kc8_0, kc8_1, kc8_2, lc_lt, lc_gt, lc_eq, Option.toList_some, Option.toList_none, List.cons_append, List.nil_append, lay_len, lay_sz, Nat.reduceAdd, Nat.reduceSub, Nat.reduceMul, Int.reduceToNat, Int.reduceLE, Int.reduceLT, Int.reduceEq, Int.reduceAdd, Int.reduceSub, Int.reduceMul, Int.reduceNeg, Nat.reduceLeDiff, Nat.reduceLT, true_and, and_true, false_and, and_false, qcat_0, qcat_1, qcat_3, qcat_9, Nat.reduceEqDiff, if_true, if_false, ite_self, or_true, true_or, or_false, false_or, forall_const, not_true_eq_false, not_false_eq_true, false_implies, implies_true, qtK0, qtK1, qtK2, qtK3, qtK4, List.getD_cons_zero, List.getD_cons_succ, Int.toNat_natCast, ne_eq, qcK, hbF, bsetF, bclrF, ek, e1, e2, e3, e4, hL, hL1, hM, hM1, e5, cm', dlo, dhi]
        exact hq
      · have hj : jB n ns na F tp d = false := by rw [hjb, decide_eq_false cf, Bool.and_false]
        have hq := hk G hG (fun h => by rw [hj] at h; cases h)
        rw [hj, bi_f] at hq
        by_cases dl : ((d % 10 : Nat) : Int) < 1
        · have dlo : (((d % 10 : Nat) : Int) < 1) = True := eq_true dl
          simp only [YK, c94, t94, c58, t58, cl58, tgK, lyK, rkK, wK, rfK, hr, qRes_eq, qNon_eq, qup_ap, vup_ap, vcpy_ap, kc8_0, kc8_1, kc8_2, lc_lt, lc_gt, lc_eq, Option.toList_some, Option.toList_none, List.cons_append, List.nil_append, lay_len, lay_sz, Nat.reduceAdd, Nat.reduceSub, Nat.reduceMul, Int.reduceToNat, Int.reduceLE, Int.reduceLT, Int.reduceEq, Int.reduceAdd, Int.reduceSub, Int.reduceMul, Int.reduceNeg, Nat.reduceLeDiff, Nat.reduceLT, true_and, and_true, false_and, and_false, qcat_0, qcat_1, qcat_3, qcat_9, Nat.reduceEqDiff, if_true, if_false, ite_self, or_true, true_or, or_false, false_or, forall_const, not_true_eq_false, not_false_eq_true, false_implies, implies_true, qtK0, qtK1, qtK2, qtK3, qtK4, List.getD_cons_zero, List.getD_cons_succ, Int.toNat_natCast, ne_eq, qcK, hbF, bsetF, bclrF, ek, e1, e2, e3, e4, hL, hL1, hM, hM1, e5, cm', dlo]
          exact hq
        · have dlo : (((d % 10 : Nat) : Int) < 1) = False := eq_false dl
          have dhi : (4 < ((d % 10 : Nat) : Int)) = True := eq_true (by omega)
          simp only [YK, c94, t94, c58, t58, cl58, tgK, lyK, rkK, wK, rfK, hr, qRes_eq, qNon_eq, qup_ap, vup_ap, vcpy_ap, kc8_0, kc8_1, kc8_2, lc_lt, lc_gt, lc_eq, Option.toList_some, Option.toList_none, List.cons_append, List.nil_append, lay_len, lay_sz, Nat.reduceAdd, Nat.reduceSub, Nat.reduceMul, Int.reduceToNat, Int.reduceLE, Int.reduceLT, Int.reduceEq, Int.reduceAdd, Int.reduceSub, Int.reduceMul, Int.reduceNeg, Nat.reduceLeDiff, Nat.reduceLT, true_and, and_true, false_and, and_false, qcat_0, qcat_1, qcat_3, qcat_9, Nat.reduceEqDiff, if_true, if_false, ite_self, or_true, true_or, or_false, false_or, forall_const, not_true_eq_false, not_false_eq_true, false_implies, implies_true, qtK0, qtK1, qtK2, qtK3, qtK4, List.getD_cons_zero, List.getD_cons_succ, Int.toNat_natCast, ne_eq, qcK, hbF, bsetF, bclrF, ek, e1, e2, e3, e4, hL, hL1, hM, hM1, e5, cm', dlo, dhi]
          exact hq
    · have cm' : (((d / 10 % 100 : Nat) : Int) = 0) = False := eq_false (by omega)
      have hj : jB n ns na F tp d = false := by rw [hjb, decide_eq_false cm, Bool.false_and]
      have hq := hk G hG (fun h => by rw [hj] at h; cases h)
      rw [hj, bi_f] at hq
      simp only [YK, c94, t94, tgK, lyK, rkK, wK, rfK, hr, qRes_eq, qNon_eq, qup_ap, vup_ap, vcpy_ap, kc8_0, kc8_1, kc8_2, lc_lt, lc_gt, lc_eq, Option.toList_some, Option.toList_none, List.cons_append, List.nil_append, lay_len, lay_sz, Nat.reduceAdd, Nat.reduceSub, Nat.reduceMul, Int.reduceToNat, Int.reduceLE, Int.reduceLT, Int.reduceEq, Int.reduceAdd, Int.reduceSub, Int.reduceMul, Int.reduceNeg, Nat.reduceLeDiff, Nat.reduceLT, true_and, and_true, false_and, and_false, qcat_0, qcat_1, qcat_3, qcat_9, Nat.reduceEqDiff, if_true, if_false, ite_self, or_true, true_or, or_false, false_or, forall_const, not_true_eq_false, not_false_eq_true, false_implies, implies_true, qtK0, qtK1, qtK2, qtK3, qtK4, List.getD_cons_zero, List.getD_cons_succ, Int.toNat_natCast, ne_eq, qcK, hbF, bsetF, bclrF, ek, e1, e2, e3, e4, hL, hL1, hM, hM1, e5, cm']
      exact hq
  · have ek : ((d / 1000 : Nat) : Int) = 2 := by omega
    have hjb : jB n ns na F tp d = (decide (d / 10 % 100 = 0) && decide (d % 10 ≤ 8)) := by
      unfold jB fitB
      rw [hs]
      rfl
    by_cases cm : d / 10 % 100 = 0
    · have cm' : ((d / 10 % 100 : Nat) : Int) = 0 := by omega
      by_cases cf : d % 10 ≤ 8
      · have hj : jB n ns na F tp d = true := by rw [hjb, decide_eq_true cm, decide_eq_true cf]; rfl
        have hjn : jN tp d = (fun j => if j = 1 then ((d % 10 : Nat) : Int) else tp j) := by
          unfold jN
          rw [if_pos (by omega), hs]
        have dlo : (((d % 10 : Nat) : Int) < 0) = False := eq_false (by omega)
        have dhi : (8 < ((d % 10 : Nat) : Int)) = False := eq_false (by omega)
        have hq := hk (qup G 26 1 ((d % 10 : Nat) : Int)) ⟨hG.1.upA _ _ (by decide), fun c hc c1 c2 => by rw [qup_c c2]; exact hG.2 c hc c1 c2⟩ (fun _ => by
          rw [hjn]
          refine ⟨fun j hj5 => ?_, ?_⟩
          · show _ = if j = 1 then ((d % 10 : Nat) : Int) else tp j
            rw [qup_ap, if_pos rfl]
            by_cases c : j = 1
            · rw [if_pos c, if_pos c]
            · rw [if_neg c, if_neg c]; exact hT.1 j hj5
          · show _ = if 5 = 1 then ((d % 10 : Nat) : Int) else tp 5
            rw [qup_c (by decide), if_neg (by decide)]; exact hT.2)
        rw [hj, bi_t] at hq
        simp only [YK, c94, t94, c58, t58, cl58, tgK, lyK, rkK, wK, rfK, hr, qRes_eq, qNon_eq, qup_ap, vup_ap, vcpy_ap, kc8_0, kc8_1, kc8_2, lc_lt, lc_gt, lc_eq, Option.toList_some, Option.toList_none, List.cons_append, List.nil_append, lay_len, lay_sz, Nat.reduceAdd, Nat.reduceSub, Nat.reduceMul, Int.reduceToNat, Int.reduceLE, Int.reduceLT, Int.reduceEq, Int.reduceAdd, Int.reduceSub, Int.reduceMul, Int.reduceNeg, Nat.reduceLeDiff, Nat.reduceLT, true_and, and_true, false_and, and_false, qcat_0, qcat_1, qcat_3, qcat_9, Nat.reduceEqDiff, if_true, if_false, ite_self, or_true, true_or, or_false, false_or, forall_const, not_true_eq_false, not_false_eq_true, false_implies, implies_true, qtK0, qtK1, qtK2, qtK3, qtK4, List.getD_cons_zero, List.getD_cons_succ, Int.toNat_natCast, ne_eq, qcK, hbF, bsetF, bclrF, ek, e1, e2, e3, e4, hL, hL1, hM, hM1, e5, cm', dlo, dhi]
        exact hq
      · have hj : jB n ns na F tp d = false := by rw [hjb, decide_eq_false cf, Bool.and_false]
        have hq := hk G hG (fun h => by rw [hj] at h; cases h)
        rw [hj, bi_f] at hq
        by_cases dl : ((d % 10 : Nat) : Int) < 0
        · have dlo : (((d % 10 : Nat) : Int) < 0) = True := eq_true dl
          simp only [YK, c94, t94, c58, t58, cl58, tgK, lyK, rkK, wK, rfK, hr, qRes_eq, qNon_eq, qup_ap, vup_ap, vcpy_ap, kc8_0, kc8_1, kc8_2, lc_lt, lc_gt, lc_eq, Option.toList_some, Option.toList_none, List.cons_append, List.nil_append, lay_len, lay_sz, Nat.reduceAdd, Nat.reduceSub, Nat.reduceMul, Int.reduceToNat, Int.reduceLE, Int.reduceLT, Int.reduceEq, Int.reduceAdd, Int.reduceSub, Int.reduceMul, Int.reduceNeg, Nat.reduceLeDiff, Nat.reduceLT, true_and, and_true, false_and, and_false, qcat_0, qcat_1, qcat_3, qcat_9, Nat.reduceEqDiff, if_true, if_false, ite_self, or_true, true_or, or_false, false_or, forall_const, not_true_eq_false, not_false_eq_true, false_implies, implies_true, qtK0, qtK1, qtK2, qtK3, qtK4, List.getD_cons_zero, List.getD_cons_succ, Int.toNat_natCast, ne_eq, qcK, hbF, bsetF, bclrF, ek, e1, e2, e3, e4, hL, hL1, hM, hM1, e5, cm', dlo]
          exact hq
        · have dlo : (((d % 10 : Nat) : Int) < 0) = False := eq_false dl
          have dhi : (8 < ((d % 10 : Nat) : Int)) = True := eq_true (by omega)
          simp only [YK, c94, t94, c58, t58, cl58, tgK, lyK, rkK, wK, rfK, hr, qRes_eq, qNon_eq, qup_ap, vup_ap, vcpy_ap, kc8_0, kc8_1, kc8_2, lc_lt, lc_gt, lc_eq, Option.toList_some, Option.toList_none, List.cons_append, List.nil_append, lay_len, lay_sz, Nat.reduceAdd, Nat.reduceSub, Nat.reduceMul, Int.reduceToNat, Int.reduceLE, Int.reduceLT, Int.reduceEq, Int.reduceAdd, Int.reduceSub, Int.reduceMul, Int.reduceNeg, Nat.reduceLeDiff, Nat.reduceLT, true_and, and_true, false_and, and_false, qcat_0, qcat_1, qcat_3, qcat_9, Nat.reduceEqDiff, if_true, if_false, ite_self, or_true, true_or, or_false, false_or, forall_const, not_true_eq_false, not_false_eq_true, false_implies, implies_true, qtK0, qtK1, qtK2, qtK3, qtK4, List.getD_cons_zero, List.getD_cons_succ, Int.toNat_natCast, ne_eq, qcK, hbF, bsetF, bclrF, ek, e1, e2, e3, e4, hL, hL1, hM, hM1, e5, cm', dlo, dhi]
          exact hq
    · have cm' : (((d / 10 % 100 : Nat) : Int) = 0) = False := eq_false (by omega)
      have hj : jB n ns na F tp d = false := by rw [hjb, decide_eq_false cm, Bool.false_and]
      have hq := hk G hG (fun h => by rw [hj] at h; cases h)
      rw [hj, bi_f] at hq
      simp only [YK, c94, t94, tgK, lyK, rkK, wK, rfK, hr, qRes_eq, qNon_eq, qup_ap, vup_ap, vcpy_ap, kc8_0, kc8_1, kc8_2, lc_lt, lc_gt, lc_eq, Option.toList_some, Option.toList_none, List.cons_append, List.nil_append, lay_len, lay_sz, Nat.reduceAdd, Nat.reduceSub, Nat.reduceMul, Int.reduceToNat, Int.reduceLE, Int.reduceLT, Int.reduceEq, Int.reduceAdd, Int.reduceSub, Int.reduceMul, Int.reduceNeg, Nat.reduceLeDiff, Nat.reduceLT, true_and, and_true, false_and, and_false, qcat_0, qcat_1, qcat_3, qcat_9, Nat.reduceEqDiff, if_true, if_false, ite_self, or_true, true_or, or_false, false_or, forall_const, not_true_eq_false, not_false_eq_true, false_implies, implies_true, qtK0, qtK1, qtK2, qtK3, qtK4, List.getD_cons_zero, List.getD_cons_succ, Int.toNat_natCast, ne_eq, qcK, hbF, bsetF, bclrF, ek, e1, e2, e3, e4, hL, hL1, hM, hM1, e5, cm']
      exact hq
  · have ek : ((d / 1000 : Nat) : Int) = 3 := by omega
    have hjb : jB n ns na F tp d = (decide (d / 10 % 100 = 0) && decide (d % 10 ≤ 2)) := by
      unfold jB fitB
      rw [hs]
      rfl
    by_cases cm : d / 10 % 100 = 0
    · have cm' : ((d / 10 % 100 : Nat) : Int) = 0 := by omega
      by_cases cf : d % 10 ≤ 2
      · have hj : jB n ns na F tp d = true := by rw [hjb, decide_eq_true cm, decide_eq_true cf]; rfl
        have hjn : jN tp d = (fun j => if j = 2 then ((d % 10 : Nat) : Int) else tp j) := by
          unfold jN
          rw [if_pos (by omega), hs]
        have dlo : (((d % 10 : Nat) : Int) < 0) = False := eq_false (by omega)
        have dhi : (2 < ((d % 10 : Nat) : Int)) = False := eq_false (by omega)
        have hq := hk (qup G 26 2 ((d % 10 : Nat) : Int)) ⟨hG.1.upA _ _ (by decide), fun c hc c1 c2 => by rw [qup_c c2]; exact hG.2 c hc c1 c2⟩ (fun _ => by
          rw [hjn]
          refine ⟨fun j hj5 => ?_, ?_⟩
          · show _ = if j = 2 then ((d % 10 : Nat) : Int) else tp j
            rw [qup_ap, if_pos rfl]
            by_cases c : j = 2
            · rw [if_pos c, if_pos c]
            · rw [if_neg c, if_neg c]; exact hT.1 j hj5
          · show _ = if 5 = 2 then ((d % 10 : Nat) : Int) else tp 5
            rw [qup_c (by decide), if_neg (by decide)]; exact hT.2)
        rw [hj, bi_t] at hq
        simp only [YK, c94, t94, c58, t58, cl58, tgK, lyK, rkK, wK, rfK, hr, qRes_eq, qNon_eq, qup_ap, vup_ap, vcpy_ap, kc8_0, kc8_1, kc8_2, lc_lt, lc_gt, lc_eq, Option.toList_some, Option.toList_none, List.cons_append, List.nil_append, lay_len, lay_sz, Nat.reduceAdd, Nat.reduceSub, Nat.reduceMul, Int.reduceToNat, Int.reduceLE, Int.reduceLT, Int.reduceEq, Int.reduceAdd, Int.reduceSub, Int.reduceMul, Int.reduceNeg, Nat.reduceLeDiff, Nat.reduceLT, true_and, and_true, false_and, and_false, qcat_0, qcat_1, qcat_3, qcat_9, Nat.reduceEqDiff, if_true, if_false, ite_self, or_true, true_or, or_false, false_or, forall_const, not_true_eq_false, not_false_eq_true, false_implies, implies_true, qtK0, qtK1, qtK2, qtK3, qtK4, List.getD_cons_zero, List.getD_cons_succ, Int.toNat_natCast, ne_eq, qcK, hbF, bsetF, bclrF, ek, e1, e2, e3, e4, hL, hL1, hM, hM1, e5, cm', dlo, dhi]
        exact hq
      · have hj : jB n ns na F tp d = false := by rw [hjb, decide_eq_false cf, Bool.and_false]
        have hq := hk G hG (fun h => by rw [hj] at h; cases h)
        rw [hj, bi_f] at hq
        by_cases dl : ((d % 10 : Nat) : Int) < 0
        · have dlo : (((d % 10 : Nat) : Int) < 0) = True := eq_true dl
          simp only [YK, c94, t94, c58, t58, cl58, tgK, lyK, rkK, wK, rfK, hr, qRes_eq, qNon_eq, qup_ap, vup_ap, vcpy_ap, kc8_0, kc8_1, kc8_2, lc_lt, lc_gt, lc_eq, Option.toList_some, Option.toList_none, List.cons_append, List.nil_append, lay_len, lay_sz, Nat.reduceAdd, Nat.reduceSub, Nat.reduceMul, Int.reduceToNat, Int.reduceLE, Int.reduceLT, Int.reduceEq, Int.reduceAdd, Int.reduceSub, Int.reduceMul, Int.reduceNeg, Nat.reduceLeDiff, Nat.reduceLT, true_and, and_true, false_and, and_false, qcat_0, qcat_1, qcat_3, qcat_9, Nat.reduceEqDiff, if_true, if_false, ite_self, or_true, true_or, or_false, false_or, forall_const, not_true_eq_false, not_false_eq_true, false_implies, implies_true, qtK0, qtK1, qtK2, qtK3, qtK4, List.getD_cons_zero, List.getD_cons_succ, Int.toNat_natCast, ne_eq, qcK, hbF, bsetF, bclrF, ek, e1, e2, e3, e4, hL, hL1, hM, hM1, e5, cm', dlo]
          exact hq
        · have dlo : (((d % 10 : Nat) : Int) < 0) = False := eq_false dl
          have dhi : (2 < ((d % 10 : Nat) : Int)) = True := eq_true (by omega)
          simp only [YK, c94, t94, c58, t58, cl58, tgK, lyK, rkK, wK, rfK, hr, qRes_eq, qNon_eq, qup_ap, vup_ap, vcpy_ap, kc8_0, kc8_1, kc8_2, lc_lt, lc_gt, lc_eq, Option.toList_some, Option.toList_none, List.cons_append, List.nil_append, lay_len, lay_sz, Nat.reduceAdd, Nat.reduceSub, Nat.reduceMul, Int.reduceToNat, Int.reduceLE, Int.reduceLT, Int.reduceEq, Int.reduceAdd, Int.reduceSub, Int.reduceMul, Int.reduceNeg, Nat.reduceLeDiff, Nat.reduceLT, true_and, and_true, false_and, and_false, qcat_0, qcat_1, qcat_3, qcat_9, Nat.reduceEqDiff, if_true, if_false, ite_self, or_true, true_or, or_false, false_or, forall_const, not_true_eq_false, not_false_eq_true, false_implies, implies_true, qtK0, qtK1, qtK2, qtK3, qtK4, List.getD_cons_zero, List.getD_cons_succ, Int.toNat_natCast, ne_eq, qcK, hbF, bsetF, bclrF, ek, e1, e2, e3, e4, hL, hL1, hM, hM1, e5, cm', dlo, dhi]
          exact hq
    · have cm' : (((d / 10 % 100 : Nat) : Int) = 0) = False := eq_false (by omega)
      have hj : jB n ns na F tp d = false := by rw [hjb, decide_eq_false cm, Bool.false_and]
      have hq := hk G hG (fun h => by rw [hj] at h; cases h)
      rw [hj, bi_f] at hq
      simp only [YK, c94, t94, tgK, lyK, rkK, wK, rfK, hr, qRes_eq, qNon_eq, qup_ap, vup_ap, vcpy_ap, kc8_0, kc8_1, kc8_2, lc_lt, lc_gt, lc_eq, Option.toList_some, Option.toList_none, List.cons_append, List.nil_append, lay_len, lay_sz, Nat.reduceAdd, Nat.reduceSub, Nat.reduceMul, Int.reduceToNat, Int.reduceLE, Int.reduceLT, Int.reduceEq, Int.reduceAdd, Int.reduceSub, Int.reduceMul, Int.reduceNeg, Nat.reduceLeDiff, Nat.reduceLT, true_and, and_true, false_and, and_false, qcat_0, qcat_1, qcat_3, qcat_9, Nat.reduceEqDiff, if_true, if_false, ite_self, or_true, true_or, or_false, false_or, forall_const, not_true_eq_false, not_false_eq_true, false_implies, implies_true, qtK0, qtK1, qtK2, qtK3, qtK4, List.getD_cons_zero, List.getD_cons_succ, Int.toNat_natCast, ne_eq, qcK, hbF, bsetF, bclrF, ek, e1, e2, e3, e4, hL, hL1, hM, hM1, e5, cm']
      exact hq
  · have ek : ((d / 1000 : Nat) : Int) = 4 := by omega
    have hjb : jB n ns na F tp d = (decide (d / 10 % 100 = 0) && decide (d % 10 ≤ 3)) := by
      unfold jB fitB
      rw [hs]
      rfl
    by_cases cm : d / 10 % 100 = 0
    · have cm' : ((d / 10 % 100 : Nat) : Int) = 0 := by omega
      by_cases cf : d % 10 ≤ 3
      · have hj : jB n ns na F tp d = true := by rw [hjb, decide_eq_true cm, decide_eq_true cf]; rfl
        have hjn : jN tp d = (fun j => if j = 3 then ((d % 10 : Nat) : Int) else tp j) := by
          unfold jN
          rw [if_pos (by omega), hs]
        have dlo : (((d % 10 : Nat) : Int) < 0) = False := eq_false (by omega)
        have dhi : (3 < ((d % 10 : Nat) : Int)) = False := eq_false (by omega)
        have hq := hk (qup G 26 3 ((d % 10 : Nat) : Int)) ⟨hG.1.upA _ _ (by decide), fun c hc c1 c2 => by rw [qup_c c2]; exact hG.2 c hc c1 c2⟩ (fun _ => by
          rw [hjn]
          refine ⟨fun j hj5 => ?_, ?_⟩
          · show _ = if j = 3 then ((d % 10 : Nat) : Int) else tp j
            rw [qup_ap, if_pos rfl]
            by_cases c : j = 3
            · rw [if_pos c, if_pos c]
            · rw [if_neg c, if_neg c]; exact hT.1 j hj5
          · show _ = if 5 = 3 then ((d % 10 : Nat) : Int) else tp 5
            rw [qup_c (by decide), if_neg (by decide)]; exact hT.2)
        rw [hj, bi_t] at hq
        simp only [YK, c94, t94, c58, t58, cl58, tgK, lyK, rkK, wK, rfK, hr, qRes_eq, qNon_eq, qup_ap, vup_ap, vcpy_ap, kc8_0, kc8_1, kc8_2, lc_lt, lc_gt, lc_eq, Option.toList_some, Option.toList_none, List.cons_append, List.nil_append, lay_len, lay_sz, Nat.reduceAdd, Nat.reduceSub, Nat.reduceMul, Int.reduceToNat, Int.reduceLE, Int.reduceLT, Int.reduceEq, Int.reduceAdd, Int.reduceSub, Int.reduceMul, Int.reduceNeg, Nat.reduceLeDiff, Nat.reduceLT, true_and, and_true, false_and, and_false, qcat_0, qcat_1, qcat_3, qcat_9, Nat.reduceEqDiff, if_true, if_false, ite_self, or_true, true_or, or_false, false_or, forall_const, not_true_eq_false, not_false_eq_true, false_implies, implies_true, qtK0, qtK1, qtK2, qtK3, qtK4, List.getD_cons_zero, List.getD_cons_succ, Int.toNat_natCast, ne_eq, qcK, hbF, bsetF, bclrF, ek, e1, e2, e3, e4, hL, hL1, hM, hM1, e5, cm', dlo, dhi]
        exact hq
      · have hj : jB n ns na F tp d = false := by rw [hjb, decide_eq_false cf, Bool.and_false]
        have hq := hk G hG (fun h => by rw [hj] at h; cases h)
        rw [hj, bi_f] at hq
        by_cases dl : ((d % 10 : Nat) : Int) < 0
        · have dlo : (((d % 10 : Nat) : Int) < 0) = True := eq_true dl
          simp only [YK, c94, t94, c58, t58, cl58, tgK, lyK, rkK, wK, rfK, hr, qRes_eq, qNon_eq, qup_ap, vup_ap, vcpy_ap, kc8_0, kc8_1, kc8_2, lc_lt, lc_gt, lc_eq, Option.toList_some, Option.toList_none, List.cons_append, List.nil_append, lay_len, lay_sz, Nat.reduceAdd, Nat.reduceSub, Nat.reduceMul, Int.reduceToNat, Int.reduceLE, Int.reduceLT, Int.reduceEq, Int.reduceAdd, Int.reduceSub, Int.reduceMul, Int.reduceNeg, Nat.reduceLeDiff, Nat.reduceLT, true_and, and_true, false_and, and_false, qcat_0, qcat_1, qcat_3, qcat_9, Nat.reduceEqDiff, if_true, if_false, ite_self, or_true, true_or, or_false, false_or, forall_const, not_true_eq_false, not_false_eq_true, false_implies, implies_true, qtK0, qtK1, qtK2, qtK3, qtK4, List.getD_cons_zero, List.getD_cons_succ, Int.toNat_natCast, ne_eq, qcK, hbF, bsetF, bclrF, ek, e1, e2, e3, e4, hL, hL1, hM, hM1, e5, cm', dlo]
          exact hq
        · have dlo : (((d % 10 : Nat) : Int) < 0) = False := eq_false dl
          have dhi : (3 < ((d % 10 : Nat) : Int)) = True := eq_true (by omega)
          simp only [YK, c94, t94, c58, t58, cl58, tgK, lyK, rkK, wK, rfK, hr, qRes_eq, qNon_eq, qup_ap, vup_ap, vcpy_ap, kc8_0, kc8_1, kc8_2, lc_lt, lc_gt, lc_eq, Option.toList_some, Option.toList_none, List.cons_append, List.nil_append, lay_len, lay_sz, Nat.reduceAdd, Nat.reduceSub, Nat.reduceMul, Int.reduceToNat, Int.reduceLE, Int.reduceLT, Int.reduceEq, Int.reduceAdd, Int.reduceSub, Int.reduceMul, Int.reduceNeg, Nat.reduceLeDiff, Nat.reduceLT, true_and, and_true, false_and, and_false, qcat_0, qcat_1, qcat_3, qcat_9, Nat.reduceEqDiff, if_true, if_false, ite_self, or_true, true_or, or_false, false_or, forall_const, not_true_eq_false, not_false_eq_true, false_implies, implies_true, qtK0, qtK1, qtK2, qtK3, qtK4, List.getD_cons_zero, List.getD_cons_succ, Int.toNat_natCast, ne_eq, qcK, hbF, bsetF, bclrF, ek, e1, e2, e3, e4, hL, hL1, hM, hM1, e5, cm', dlo, dhi]
          exact hq
    · have cm' : (((d / 10 % 100 : Nat) : Int) = 0) = False := eq_false (by omega)
      have hj : jB n ns na F tp d = false := by rw [hjb, decide_eq_false cm, Bool.false_and]
      have hq := hk G hG (fun h => by rw [hj] at h; cases h)
      rw [hj, bi_f] at hq
      simp only [YK, c94, t94, tgK, lyK, rkK, wK, rfK, hr, qRes_eq, qNon_eq, qup_ap, vup_ap, vcpy_ap, kc8_0, kc8_1, kc8_2, lc_lt, lc_gt, lc_eq, Option.toList_some, Option.toList_none, List.cons_append, List.nil_append, lay_len, lay_sz, Nat.reduceAdd, Nat.reduceSub, Nat.reduceMul, Int.reduceToNat, Int.reduceLE, Int.reduceLT, Int.reduceEq, Int.reduceAdd, Int.reduceSub, Int.reduceMul, Int.reduceNeg, Nat.reduceLeDiff, Nat.reduceLT, true_and, and_true, false_and, and_false, qcat_0, qcat_1, qcat_3, qcat_9, Nat.reduceEqDiff, if_true, if_false, ite_self, or_true, true_or, or_false, false_or, forall_const, not_true_eq_false, not_false_eq_true, false_implies, implies_true, qtK0, qtK1, qtK2, qtK3, qtK4, List.getD_cons_zero, List.getD_cons_succ, Int.toNat_natCast, ne_eq, qcK, hbF, bsetF, bclrF, ek, e1, e2, e3, e4, hL, hL1, hM, hM1, e5, cm']
      exact hq
  · have ek : ((d / 1000 : Nat) : Int) = 5 := by omega
    have hjb : jB n ns na F tp d = (decide (d / 10 % 100 = 0) && decide (d % 10 ≤ 2)) := by
      unfold jB fitB
      rw [hs]
      rfl
    by_cases cm : d / 10 % 100 = 0
    · have cm' : ((d / 10 % 100 : Nat) : Int) = 0 := by omega
      by_cases cf : d % 10 ≤ 2
      · have hj : jB n ns na F tp d = true := by rw [hjb, decide_eq_true cm, decide_eq_true cf]; rfl
        have hjn : jN tp d = (fun j => if j = 4 then ((d % 10 : Nat) : Int) else tp j) := by
          unfold jN
          rw [if_pos (by omega), hs]
        have dlo : (((d % 10 : Nat) : Int) < 0) = False := eq_false (by omega)
        have dhi : (2 < ((d % 10 : Nat) : Int)) = False := eq_false (by omega)
        have hq := hk (qup G 26 4 ((d % 10 : Nat) : Int)) ⟨hG.1.upA _ _ (by decide), fun c hc c1 c2 => by rw [qup_c c2]; exact hG.2 c hc c1 c2⟩ (fun _ => by
          rw [hjn]
          refine ⟨fun j hj5 => ?_, ?_⟩
          · show _ = if j = 4 then ((d % 10 : Nat) : Int) else tp j
            rw [qup_ap, if_pos rfl]
            by_cases c : j = 4
            · rw [if_pos c, if_pos c]
            · rw [if_neg c, if_neg c]; exact hT.1 j hj5
          · show _ = if 5 = 4 then ((d % 10 : Nat) : Int) else tp 5
            rw [qup_c (by decide), if_neg (by decide)]; exact hT.2)
        rw [hj, bi_t] at hq
        simp only [YK, c94, t94, c58, t58, cl58, tgK, lyK, rkK, wK, rfK, hr, qRes_eq, qNon_eq, qup_ap, vup_ap, vcpy_ap, kc8_0, kc8_1, kc8_2, lc_lt, lc_gt, lc_eq, Option.toList_some, Option.toList_none, List.cons_append, List.nil_append, lay_len, lay_sz, Nat.reduceAdd, Nat.reduceSub, Nat.reduceMul, Int.reduceToNat, Int.reduceLE, Int.reduceLT, Int.reduceEq, Int.reduceAdd, Int.reduceSub, Int.reduceMul, Int.reduceNeg, Nat.reduceLeDiff, Nat.reduceLT, true_and, and_true, false_and, and_false, qcat_0, qcat_1, qcat_3, qcat_9, Nat.reduceEqDiff, if_true, if_false, ite_self, or_true, true_or, or_false, false_or, forall_const, not_true_eq_false, not_false_eq_true, false_implies, implies_true, qtK0, qtK1, qtK2, qtK3, qtK4, List.getD_cons_zero, List.getD_cons_succ, Int.toNat_natCast, ne_eq, qcK, hbF, bsetF, bclrF, ek, e1, e2, e3, e4, hL, hL1, hM, hM1, e5, cm', dlo, dhi]
        exact hq
      · have hj : jB n ns na F tp d = false := by rw [hjb, decide_eq_false cf, Bool.and_false]
        have hq := hk G hG (fun h => by rw [hj] at h; cases h)
        rw [hj, bi_f] at hq
        by_cases dl : ((d % 10 : Nat) : Int) < 0
        · have dlo : (((d % 10 : Nat) : Int) < 0) = True := eq_true dl
          simp only [YK, c94, t94, c58, t58, cl58, tgK, lyK, rkK, wK, rfK, hr, qRes_eq, qNon_eq, qup_ap, vup_ap, vcpy_ap, kc8_0, kc8_1, kc8_2, lc_lt, lc_gt, lc_eq, Option.toList_some, Option.toList_none, List.cons_append, List.nil_append, lay_len, lay_sz, Nat.reduceAdd, Nat.reduceSub, Nat.reduceMul, Int.reduceToNat, Int.reduceLE, Int.reduceLT, Int.reduceEq, Int.reduceAdd, Int.reduceSub, Int.reduceMul, Int.reduceNeg, Nat.reduceLeDiff, Nat.reduceLT, true_and, and_true, false_and, and_false, qcat_0, qcat_1, qcat_3, qcat_9, Nat.reduceEqDiff, if_true, if_false, ite_self, or_true, true_or, or_false, false_or, forall_const, not_true_eq_false, not_false_eq_true, false_implies, implies_true, qtK0, qtK1, qtK2, qtK3, qtK4, List.getD_cons_zero, List.getD_cons_succ, Int.toNat_natCast, ne_eq, qcK, hbF, bsetF, bclrF, ek, e1, e2, e3, e4, hL, hL1, hM, hM1, e5, cm', dlo]
          exact hq
        · have dlo : (((d % 10 : Nat) : Int) < 0) = False := eq_false dl
          have dhi : (2 < ((d % 10 : Nat) : Int)) = True := eq_true (by omega)
          simp only [YK, c94, t94, c58, t58, cl58, tgK, lyK, rkK, wK, rfK, hr, qRes_eq, qNon_eq, qup_ap, vup_ap, vcpy_ap, kc8_0, kc8_1, kc8_2, lc_lt, lc_gt, lc_eq, Option.toList_some, Option.toList_none, List.cons_append, List.nil_append, lay_len, lay_sz, Nat.reduceAdd, Nat.reduceSub, Nat.reduceMul, Int.reduceToNat, Int.reduceLE, Int.reduceLT, Int.reduceEq, Int.reduceAdd, Int.reduceSub, Int.reduceMul, Int.reduceNeg, Nat.reduceLeDiff, Nat.reduceLT, true_and, and_true, false_and, and_false, qcat_0, qcat_1, qcat_3, qcat_9, Nat.reduceEqDiff, if_true, if_false, ite_self, or_true, true_or, or_false, false_or, forall_const, not_true_eq_false, not_false_eq_true, false_implies, implies_true, qtK0, qtK1, qtK2, qtK3, qtK4, List.getD_cons_zero, List.getD_cons_succ, Int.toNat_natCast, ne_eq, qcK, hbF, bsetF, bclrF, ek, e1, e2, e3, e4, hL, hL1, hM, hM1, e5, cm', dlo, dhi]
          exact hq
    · have cm' : (((d / 10 % 100 : Nat) : Int) = 0) = False := eq_false (by omega)
      have hj : jB n ns na F tp d = false := by rw [hjb, decide_eq_false cm, Bool.false_and]
      have hq := hk G hG (fun h => by rw [hj] at h; cases h)
      rw [hj, bi_f] at hq
      simp only [YK, c94, t94, tgK, lyK, rkK, wK, rfK, hr, qRes_eq, qNon_eq, qup_ap, vup_ap, vcpy_ap, kc8_0, kc8_1, kc8_2, lc_lt, lc_gt, lc_eq, Option.toList_some, Option.toList_none, List.cons_append, List.nil_append, lay_len, lay_sz, Nat.reduceAdd, Nat.reduceSub, Nat.reduceMul, Int.reduceToNat, Int.reduceLE, Int.reduceLT, Int.reduceEq, Int.reduceAdd, Int.reduceSub, Int.reduceMul, Int.reduceNeg, Nat.reduceLeDiff, Nat.reduceLT, true_and, and_true, false_and, and_false, qcat_0, qcat_1, qcat_3, qcat_9, Nat.reduceEqDiff, if_true, if_false, ite_self, or_true, true_or, or_false, false_or, forall_const, not_true_eq_false, not_false_eq_true, false_implies, implies_true, qtK0, qtK1, qtK2, qtK3, qtK4, List.getD_cons_zero, List.getD_cons_succ, Int.toNat_natCast, ne_eq, qcK, hbF, bsetF, bclrF, ek, e1, e2, e3, e4, hL, hL1, hM, hM1, e5, cm']
      exact hq
  · have ek : ((d / 1000 : Nat) : Int) = 6 := by omega
    simp only [YK, c94, t94, cl8, tgK, lyK, rkK, wK, rfK, hr, qRes_eq, qNon_eq, qup_ap, vup_ap, vcpy_ap, kc8_0, kc8_1, kc8_2, lc_lt, lc_gt, lc_eq, Option.toList_some, Option.toList_none, List.cons_append, List.nil_append, lay_len, lay_sz, Nat.reduceAdd, Nat.reduceSub, Nat.reduceMul, Int.reduceToNat, Int.reduceLE, Int.reduceLT, Int.reduceEq, Int.reduceAdd, Int.reduceSub, Int.reduceMul, Int.reduceNeg, Nat.reduceLeDiff, Nat.reduceLT, true_and, and_true, false_and, and_false, qcat_0, qcat_1, qcat_3, qcat_9, Nat.reduceEqDiff, if_true, if_false, ite_self, or_true, true_or, or_false, false_or, forall_const, not_true_eq_false, not_false_eq_true, false_implies, implies_true, qtK0, qtK1, qtK2, qtK3, qtK4, List.getD_cons_zero, List.getD_cons_succ, Int.toNat_natCast, ne_eq, qcK, hbF, bsetF, bclrF, ek, e1, e2, e3, e4]
    refine c_tr hA hR hd hG tp (F 118) hT.1 hT.2 hPB ?_
    clear hr
    intro G2 hC hG2 g25 g26
    have hr := Rf_k hG2.1
    have hC2 := hC
    unfold CC at hC2
    have hq := hk G2 hG2 (fun _ => by
      have hjn : jN tp d = tp := by unfold jN; rw [if_neg (by omega), if_neg (by omega)]
      rw [hjn]
      exact ⟨fun j hj => by rw [g26]; exact hT.1 j hj, by rw [g25]; exact hT.2⟩)
    have hjb : jB n ns na F tp d = decide (d / 10 % 100 < na ∧ 2 ≤ d % 10 ∧ d % 10 ≤ 4 ∧ (pRunT n ns na 80 (trX F tp (F 118), L0)).1 98 (d / 10 % 100) = ((d % 10 : Nat) : Int)) := by
      unfold jB
      rw [if_neg (by omega), if_neg (by omega), if_pos hs]
    have g32b : G2 3 2 = (na : Int) := by rw [hG2.2 3 (by unfold fx; decide) (by decide) (by decide)]; exact hd.2.2
    simp only [YK, c94, t94, c95, t95, cl95, cl65, tgK, lyK, rkK, wK, rfK, hr, qRes_eq, qNon_eq, qup_ap, vup_ap, vcpy_ap, kc8_0, kc8_1, kc8_2, lc_lt, lc_gt, lc_eq, Option.toList_some, Option.toList_none, List.cons_append, List.nil_append, lay_len, lay_sz, Nat.reduceAdd, Nat.reduceSub, Nat.reduceMul, Int.reduceToNat, Int.reduceLE, Int.reduceLT, Int.reduceEq, Int.reduceAdd, Int.reduceSub, Int.reduceMul, Int.reduceNeg, Nat.reduceLeDiff, Nat.reduceLT, true_and, and_true, false_and, and_false, qcat_0, qcat_1, qcat_3, qcat_9, Nat.reduceEqDiff, if_true, if_false, ite_self, or_true, true_or, or_false, false_or, forall_const, not_true_eq_false, not_false_eq_true, false_implies, implies_true, qtK0, qtK1, qtK2, qtK3, qtK4, List.getD_cons_zero, List.getD_cons_succ, Int.toNat_natCast, ne_eq, qcK, hbF, bsetF, bclrF]
    refine k65 hG2.1 ((d / 10 % 100 : Nat) : Int) na g32b ?_
    by_cases ca : d / 10 % 100 < na
    · rw [b01_t (by omega)]
      have e37 := (hC2.2.2.2.2.1 (d / 10 % 100) (by omega)).1
      have b1 : (0 ≤ ((d / 10 % 100 : Nat) : Int) ∧ ((d / 10 % 100 : Nat) : Int) < 12) = True := eq_true (by omega)
      by_cases c2 : ((d % 10 : Nat) : Int) < 2
      · rw [hjb, decide_eq_false (by omega), bi_f] at hq
        simp only [YK, c94, t94, c95, t95, tgK, lyK, rkK, wK, rfK, hr, qRes_eq, qNon_eq, qup_ap, vup_ap, vcpy_ap, kc8_0, kc8_1, kc8_2, lc_lt, lc_gt, lc_eq, Option.toList_some, Option.toList_none, List.cons_append, List.nil_append, lay_len, lay_sz, Nat.reduceAdd, Nat.reduceSub, Nat.reduceMul, Int.reduceToNat, Int.reduceLE, Int.reduceLT, Int.reduceEq, Int.reduceAdd, Int.reduceSub, Int.reduceMul, Int.reduceNeg, Nat.reduceLeDiff, Nat.reduceLT, true_and, and_true, false_and, and_false, qcat_0, qcat_1, qcat_3, qcat_9, Nat.reduceEqDiff, if_true, if_false, ite_self, or_true, true_or, or_false, false_or, forall_const, not_true_eq_false, not_false_eq_true, false_implies, implies_true, qtK0, qtK1, qtK2, qtK3, qtK4, List.getD_cons_zero, List.getD_cons_succ, Int.toNat_natCast, ne_eq, qcK, hbF, bsetF, bclrF, c2]
        exact hq
      · by_cases c4 : 4 < ((d % 10 : Nat) : Int)
        · rw [hjb, decide_eq_false (by omega), bi_f] at hq
          simp only [YK, c94, t94, c95, t95, tgK, lyK, rkK, wK, rfK, hr, qRes_eq, qNon_eq, qup_ap, vup_ap, vcpy_ap, kc8_0, kc8_1, kc8_2, lc_lt, lc_gt, lc_eq, Option.toList_some, Option.toList_none, List.cons_append, List.nil_append, lay_len, lay_sz, Nat.reduceAdd, Nat.reduceSub, Nat.reduceMul, Int.reduceToNat, Int.reduceLE, Int.reduceLT, Int.reduceEq, Int.reduceAdd, Int.reduceSub, Int.reduceMul, Int.reduceNeg, Nat.reduceLeDiff, Nat.reduceLT, true_and, and_true, false_and, and_false, qcat_0, qcat_1, qcat_3, qcat_9, Nat.reduceEqDiff, if_true, if_false, ite_self, or_true, true_or, or_false, false_or, forall_const, not_true_eq_false, not_false_eq_true, false_implies, implies_true, qtK0, qtK1, qtK2, qtK3, qtK4, List.getD_cons_zero, List.getD_cons_succ, Int.toNat_natCast, ne_eq, qcK, hbF, bsetF, bclrF, c2, c4]
          exact hq
        · by_cases c9 : (pRunT n ns na 80 (trX F tp (F 118), L0)).1 98 (d / 10 % 100) = ((d % 10 : Nat) : Int)
          · rw [hjb, decide_eq_true ⟨ca, by omega, by omega, c9⟩, bi_t] at hq
            simp only [YK, c94, t94, c95, t95, tgK, lyK, rkK, wK, rfK, hr, qRes_eq, qNon_eq, qup_ap, vup_ap, vcpy_ap, kc8_0, kc8_1, kc8_2, lc_lt, lc_gt, lc_eq, Option.toList_some, Option.toList_none, List.cons_append, List.nil_append, lay_len, lay_sz, Nat.reduceAdd, Nat.reduceSub, Nat.reduceMul, Int.reduceToNat, Int.reduceLE, Int.reduceLT, Int.reduceEq, Int.reduceAdd, Int.reduceSub, Int.reduceMul, Int.reduceNeg, Nat.reduceLeDiff, Nat.reduceLT, true_and, and_true, false_and, and_false, qcat_0, qcat_1, qcat_3, qcat_9, Nat.reduceEqDiff, if_true, if_false, ite_self, or_true, true_or, or_false, false_or, forall_const, not_true_eq_false, not_false_eq_true, false_implies, implies_true, qtK0, qtK1, qtK2, qtK3, qtK4, List.getD_cons_zero, List.getD_cons_succ, Int.toNat_natCast, ne_eq, qcK, hbF, bsetF, bclrF, c2, c4, b1, e37, c9]
            exact hq
          · rw [hjb, decide_eq_false (fun q => c9 q.2.2.2), bi_f] at hq
            simp only [YK, c94, t94, c95, t95, tgK, lyK, rkK, wK, rfK, hr, qRes_eq, qNon_eq, qup_ap, vup_ap, vcpy_ap, kc8_0, kc8_1, kc8_2, lc_lt, lc_gt, lc_eq, Option.toList_some, Option.toList_none, List.cons_append, List.nil_append, lay_len, lay_sz, Nat.reduceAdd, Nat.reduceSub, Nat.reduceMul, Int.reduceToNat, Int.reduceLE, Int.reduceLT, Int.reduceEq, Int.reduceAdd, Int.reduceSub, Int.reduceMul, Int.reduceNeg, Nat.reduceLeDiff, Nat.reduceLT, true_and, and_true, false_and, and_false, qcat_0, qcat_1, qcat_3, qcat_9, Nat.reduceEqDiff, if_true, if_false, ite_self, or_true, true_or, or_false, false_or, forall_const, not_true_eq_false, not_false_eq_true, false_implies, implies_true, qtK0, qtK1, qtK2, qtK3, qtK4, List.getD_cons_zero, List.getD_cons_succ, Int.toNat_natCast, ne_eq, qcK, hbF, bsetF, bclrF, c2, c4, b1, e37, c9]
            exact hq
    · rw [b01_f (by omega)]
      rw [hjb, decide_eq_false (fun q => ca q.1), bi_f] at hq
      simp only [YK, c94, t94, c95, t95, tgK, lyK, rkK, wK, rfK, qRes_eq, qNon_eq, qup_ap, vup_ap, vcpy_ap, kc8_0, kc8_1, kc8_2, lc_lt, lc_gt, lc_eq, Option.toList_some, Option.toList_none, List.cons_append, List.nil_append, lay_len, lay_sz, Nat.reduceAdd, Nat.reduceSub, Nat.reduceMul, Int.reduceToNat, Int.reduceLE, Int.reduceLT, Int.reduceEq, Int.reduceAdd, Int.reduceSub, Int.reduceMul, Int.reduceNeg, Nat.reduceLeDiff, Nat.reduceLT, true_and, and_true, false_and, and_false, qcat_0, qcat_1, qcat_3, qcat_9, Nat.reduceEqDiff, if_true, if_false, ite_self, or_true, true_or, or_false, false_or, forall_const, not_true_eq_false, not_false_eq_true, false_implies, implies_true, qtK0, qtK1, qtK2, qtK3, qtK4, List.getD_cons_zero, List.getD_cons_succ, Int.toNat_natCast, ne_eq, qcK, hbF, bsetF, bclrF]
      exact hq
  · have ek : ((d / 1000 : Nat) : Int) = 7 := by omega
    simp only [YK, c94, t94, cl8, tgK, lyK, rkK, wK, rfK, hr, qRes_eq, qNon_eq, qup_ap, vup_ap, vcpy_ap, kc8_0, kc8_1, kc8_2, lc_lt, lc_gt, lc_eq, Option.toList_some, Option.toList_none, List.cons_append, List.nil_append, lay_len, lay_sz, Nat.reduceAdd, Nat.reduceSub, Nat.reduceMul, Int.reduceToNat, Int.reduceLE, Int.reduceLT, Int.reduceEq, Int.reduceAdd, Int.reduceSub, Int.reduceMul, Int.reduceNeg, Nat.reduceLeDiff, Nat.reduceLT, true_and, and_true, false_and, and_false, qcat_0, qcat_1, qcat_3, qcat_9, Nat.reduceEqDiff, if_true, if_false, ite_self, or_true, true_or, or_false, false_or, forall_const, not_true_eq_false, not_false_eq_true, false_implies, implies_true, qtK0, qtK1, qtK2, qtK3, qtK4, List.getD_cons_zero, List.getD_cons_succ, Int.toNat_natCast, ne_eq, qcK, hbF, bsetF, bclrF, ek, e1, e2, e3, e4]
    refine c_tr hA hR hd hG tp (F 118) hT.1 hT.2 hPB ?_
    clear hr
    intro G2 hC hG2 g25 g26
    have hr := Rf_k hG2.1
    have hC2 := hC
    unfold CC at hC2
    have hq := hk G2 hG2 (fun _ => by
      have hjn : jN tp d = tp := by unfold jN; rw [if_neg (by omega), if_neg (by omega)]
      rw [hjn]
      exact ⟨fun j hj => by rw [g26]; exact hT.1 j hj, by rw [g25]; exact hT.2⟩)
    have hjb : jB n ns na F tp d = decide (mT (pRunT n ns na 80 (trX F tp (F 118), L0)).1 2 na = ((d % 1000 : Nat) : Int)) := by
      unfold jB
      rw [if_neg (by omega), if_neg (by omega), if_neg (by omega), if_pos hs]
    simp only [YK, c94, t94, cl26, tgK, lyK, rkK, wK, rfK, hr, qRes_eq, qNon_eq, qup_ap, vup_ap, vcpy_ap, kc8_0, kc8_1, kc8_2, lc_lt, lc_gt, lc_eq, Option.toList_some, Option.toList_none, List.cons_append, List.nil_append, lay_len, lay_sz, Nat.reduceAdd, Nat.reduceSub, Nat.reduceMul, Int.reduceToNat, Int.reduceLE, Int.reduceLT, Int.reduceEq, Int.reduceAdd, Int.reduceSub, Int.reduceMul, Int.reduceNeg, Nat.reduceLeDiff, Nat.reduceLT, true_and, and_true, false_and, and_false, qcat_0, qcat_1, qcat_3, qcat_9, Nat.reduceEqDiff, if_true, if_false, ite_self, or_true, true_or, or_false, false_or, forall_const, not_true_eq_false, not_false_eq_true, false_implies, implies_true, qtK0, qtK1, qtK2, qtK3, qtK4, List.getD_cons_zero, List.getD_cons_succ, Int.toNat_natCast, ne_eq, qcK, hbF, bsetF, bclrF]
    refine k26 hC2 2 na g32 hna ?_
    by_cases c9 : mT (pRunT n ns na 80 (trX F tp (F 118), L0)).1 2 na = ((d % 1000 : Nat) : Int)
    · rw [hjb, decide_eq_true c9, bi_t] at hq
      simp only [YK, c94, t94, tgK, lyK, rkK, wK, rfK, qRes_eq, qNon_eq, qup_ap, vup_ap, vcpy_ap, kc8_0, kc8_1, kc8_2, lc_lt, lc_gt, lc_eq, Option.toList_some, Option.toList_none, List.cons_append, List.nil_append, lay_len, lay_sz, Nat.reduceAdd, Nat.reduceSub, Nat.reduceMul, Int.reduceToNat, Int.reduceLE, Int.reduceLT, Int.reduceEq, Int.reduceAdd, Int.reduceSub, Int.reduceMul, Int.reduceNeg, Nat.reduceLeDiff, Nat.reduceLT, true_and, and_true, false_and, and_false, qcat_0, qcat_1, qcat_3, qcat_9, Nat.reduceEqDiff, if_true, if_false, ite_self, or_true, true_or, or_false, false_or, forall_const, not_true_eq_false, not_false_eq_true, false_implies, implies_true, qtK0, qtK1, qtK2, qtK3, qtK4, List.getD_cons_zero, List.getD_cons_succ, Int.toNat_natCast, ne_eq, qcK, hbF, bsetF, bclrF, e6, c9]
      exact hq
    · rw [hjb, decide_eq_false c9, bi_f] at hq
      simp only [YK, c94, t94, tgK, lyK, rkK, wK, rfK, qRes_eq, qNon_eq, qup_ap, vup_ap, vcpy_ap, kc8_0, kc8_1, kc8_2, lc_lt, lc_gt, lc_eq, Option.toList_some, Option.toList_none, List.cons_append, List.nil_append, lay_len, lay_sz, Nat.reduceAdd, Nat.reduceSub, Nat.reduceMul, Int.reduceToNat, Int.reduceLE, Int.reduceLT, Int.reduceEq, Int.reduceAdd, Int.reduceSub, Int.reduceMul, Int.reduceNeg, Nat.reduceLeDiff, Nat.reduceLT, true_and, and_true, false_and, and_false, qcat_0, qcat_1, qcat_3, qcat_9, Nat.reduceEqDiff, if_true, if_false, ite_self, or_true, true_or, or_false, false_or, forall_const, not_true_eq_false, not_false_eq_true, false_implies, implies_true, qtK0, qtK1, qtK2, qtK3, qtK4, List.getD_cons_zero, List.getD_cons_succ, Int.toNat_natCast, ne_eq, qcK, hbF, bsetF, bclrF, e6, c9]
      exact hq
  · have ek : ((d / 1000 : Nat) : Int) = 8 := by omega
    have hjb : jB n ns na F tp d = decide (d / 100 % 10 < n ∧ d / 10 % 10 = 0 ∧ d % 10 ≤ 1) := by
      unfold jB
      rw [if_neg (by omega), if_neg (by omega), if_neg (by omega), if_neg (by omega), if_pos hs]
    have m1 : w32 (Int.tdiv ((d / 10 % 100 : Nat) : Int) 10) = ((d / 100 % 10 : Nat) : Int) := by
      have : Int.tdiv ((d / 10 % 100 : Nat) : Int) 10 = ((d / 10 % 100 / 10 : Nat) : Int) := rfl
      rw [this, w32_id ⟨by omega, by omega⟩]; omega
    have m2 : w32 (Int.tmod ((d / 10 % 100 : Nat) : Int) 10) = ((d / 10 % 10 : Nat) : Int) := by
      have : Int.tmod ((d / 10 % 100 : Nat) : Int) 10 = ((d / 10 % 100 % 10 : Nat) : Int) := rfl
      rw [this, w32_id ⟨by omega, by omega⟩]; omega
    by_cases cb : d / 10 % 10 = 0
    · have cb' : ((d / 10 % 10 : Nat) : Int) = 0 := by omega
      by_cases cv : d % 10 ≤ 1
      · have cv' : (1 < ((d % 10 : Nat) : Int)) = False := eq_false (by omega)
        simp only [YK, c94, t94, c96, t96, cl96, cl64, tgK, lyK, rkK, wK, rfK, hr, qRes_eq, qNon_eq, qup_ap, vup_ap, vcpy_ap, kc8_0, kc8_1, kc8_2, lc_lt, lc_gt, lc_eq, Option.toList_some, Option.toList_none, List.cons_append, List.nil_append, lay_len, lay_sz, Nat.reduceAdd, Nat.reduceSub, Nat.reduceMul, Int.reduceToNat, Int.reduceLE, Int.reduceLT, Int.reduceEq, Int.reduceAdd, Int.reduceSub, Int.reduceMul, Int.reduceNeg, Nat.reduceLeDiff, Nat.reduceLT, true_and, and_true, false_and, and_false, qcat_0, qcat_1, qcat_3, qcat_9, Nat.reduceEqDiff, if_true, if_false, ite_self, or_true, true_or, or_false, false_or, forall_const, not_true_eq_false, not_false_eq_true, false_implies, implies_true, qtK0, qtK1, qtK2, qtK3, qtK4, List.getD_cons_zero, List.getD_cons_succ, Int.toNat_natCast, ne_eq, qcK, hbF, bsetF, bclrF, ek, e1, e2, e3, e4, m1, m2, cb', cv']
        refine k64 hG.1 ((d / 100 % 10 : Nat) : Int) n g30 ?_
        by_cases ca : d / 100 % 10 < n
        · rw [b01_t (by omega)]
          have hj : jB n ns na F tp d = true := by rw [hjb, decide_eq_true ⟨ca, cb, cv⟩]
          have hjn : jN tp d = (fun j => if j = 5 then (if d % 10 = 1 then bset (tp 5) ((d / 100 % 10 : Nat) : Int) else bclr (tp 5) ((d / 100 % 10 : Nat) : Int)) else tp j) := by unfold jN; rw [if_neg (by omega), if_pos hs]
          have h25 := hT.2
          have hfin : ∀ v : Int, v = (if d % 10 = 1 then bset (tp 5) ((d / 100 % 10 : Nat) : Int) else bclr (tp 5) ((d / 100 % 10 : Nat) : Int)) → R (some (0, 1)) (LAY, qup G 25 1 v) := by
            intro v hv
            have hq := hk (qup G 25 1 v) ⟨hG.1.up (by decide), fun c hc c1 c2 => by rw [qup_c c1]; exact hG.2 c hc c1 c2⟩ (fun _ => by
              rw [hjn]
              refine ⟨fun j hj5 => ?_, ?_⟩
              · show _ = if j = 5 then _ else tp j
                rw [qup_c (by decide), if_neg (by omega)]; exact hT.1 j hj5
              · show _ = if 5 = 5 then _ else tp 5
                rw [qup_ap, if_pos rfl, if_pos rfl, if_pos rfl]; exact hv)
            rw [hj, bi_t] at hq
            exact hq
          by_cases c1 : d % 10 = 1
          · have c1' : ((d % 10 : Nat) : Int) = 1 := by omega
            have hq := hfin (bset (tp 5) ((d / 100 % 10 : Nat) : Int)) (by rw [if_pos c1])
            simp only [YK, c94, t94, c96, t96, tgK, lyK, rkK, wK, rfK, hr, qRes_eq, qNon_eq, qup_ap, vup_ap, vcpy_ap, kc8_0, kc8_1, kc8_2, lc_lt, lc_gt, lc_eq, Option.toList_some, Option.toList_none, List.cons_append, List.nil_append, lay_len, lay_sz, Nat.reduceAdd, Nat.reduceSub, Nat.reduceMul, Int.reduceToNat, Int.reduceLE, Int.reduceLT, Int.reduceEq, Int.reduceAdd, Int.reduceSub, Int.reduceMul, Int.reduceNeg, Nat.reduceLeDiff, Nat.reduceLT, true_and, and_true, false_and, and_false, qcat_0, qcat_1, qcat_3, qcat_9, Nat.reduceEqDiff, if_true, if_false, ite_self, or_true, true_or, or_false, false_or, forall_const, not_true_eq_false, not_false_eq_true, false_implies, implies_true, qtK0, qtK1, qtK2, qtK3, qtK4, List.getD_cons_zero, List.getD_cons_succ, Int.toNat_natCast, ne_eq, qcK, hbF, bsetF, bclrF, c1', h25]
            exact hq
          · have c1' : ((d % 10 : Nat) : Int) = 0 := by omega
            have hq := hfin (bclr (tp 5) ((d / 100 % 10 : Nat) : Int)) (by rw [if_neg c1])
            simp only [YK, c94, t94, c96, t96, tgK, lyK, rkK, wK, rfK, hr, qRes_eq, qNon_eq, qup_ap, vup_ap, vcpy_ap, kc8_0, kc8_1, kc8_2, lc_lt, lc_gt, lc_eq, Option.toList_some, Option.toList_none, List.cons_append, List.nil_append, lay_len, lay_sz, Nat.reduceAdd, Nat.reduceSub, Nat.reduceMul, Int.reduceToNat, Int.reduceLE, Int.reduceLT, Int.reduceEq, Int.reduceAdd, Int.reduceSub, Int.reduceMul, Int.reduceNeg, Nat.reduceLeDiff, Nat.reduceLT, true_and, and_true, false_and, and_false, qcat_0, qcat_1, qcat_3, qcat_9, Nat.reduceEqDiff, if_true, if_false, ite_self, or_true, true_or, or_false, false_or, forall_const, not_true_eq_false, not_false_eq_true, false_implies, implies_true, qtK0, qtK1, qtK2, qtK3, qtK4, List.getD_cons_zero, List.getD_cons_succ, Int.toNat_natCast, ne_eq, qcK, hbF, bsetF, bclrF, c1', h25]
            exact hq
        · rw [b01_f (by omega)]
          have hj : jB n ns na F tp d = false := by rw [hjb, decide_eq_false (fun q => ca q.1)]
          have hq := hk G hG (fun h => by rw [hj] at h; cases h)
          rw [hj, bi_f] at hq
          simp only [YK, c94, t94, c96, t96, tgK, lyK, rkK, wK, rfK, qRes_eq, qNon_eq, qup_ap, vup_ap, vcpy_ap, kc8_0, kc8_1, kc8_2, lc_lt, lc_gt, lc_eq, Option.toList_some, Option.toList_none, List.cons_append, List.nil_append, lay_len, lay_sz, Nat.reduceAdd, Nat.reduceSub, Nat.reduceMul, Int.reduceToNat, Int.reduceLE, Int.reduceLT, Int.reduceEq, Int.reduceAdd, Int.reduceSub, Int.reduceMul, Int.reduceNeg, Nat.reduceLeDiff, Nat.reduceLT, true_and, and_true, false_and, and_false, qcat_0, qcat_1, qcat_3, qcat_9, Nat.reduceEqDiff, if_true, if_false, ite_self, or_true, true_or, or_false, false_or, forall_const, not_true_eq_false, not_false_eq_true, false_implies, implies_true, qtK0, qtK1, qtK2, qtK3, qtK4, List.getD_cons_zero, List.getD_cons_succ, Int.toNat_natCast, ne_eq, qcK, hbF, bsetF, bclrF]
          exact hq
      · have cv' : (1 < ((d % 10 : Nat) : Int)) = True := eq_true (by omega)
        have hj : jB n ns na F tp d = false := by rw [hjb, decide_eq_false (fun q => cv q.2.2)]
        have hq := hk G hG (fun h => by rw [hj] at h; cases h)
        rw [hj, bi_f] at hq
        simp only [YK, c94, t94, c96, t96, cl96, tgK, lyK, rkK, wK, rfK, hr, qRes_eq, qNon_eq, qup_ap, vup_ap, vcpy_ap, kc8_0, kc8_1, kc8_2, lc_lt, lc_gt, lc_eq, Option.toList_some, Option.toList_none, List.cons_append, List.nil_append, lay_len, lay_sz, Nat.reduceAdd, Nat.reduceSub, Nat.reduceMul, Int.reduceToNat, Int.reduceLE, Int.reduceLT, Int.reduceEq, Int.reduceAdd, Int.reduceSub, Int.reduceMul, Int.reduceNeg, Nat.reduceLeDiff, Nat.reduceLT, true_and, and_true, false_and, and_false, qcat_0, qcat_1, qcat_3, qcat_9, Nat.reduceEqDiff, if_true, if_false, ite_self, or_true, true_or, or_false, false_or, forall_const, not_true_eq_false, not_false_eq_true, false_implies, implies_true, qtK0, qtK1, qtK2, qtK3, qtK4, List.getD_cons_zero, List.getD_cons_succ, Int.toNat_natCast, ne_eq, qcK, hbF, bsetF, bclrF, ek, e1, e2, e3, e4, m1, m2, cb', cv']
        exact hq
    · have cb' : (((d / 10 % 10 : Nat) : Int) = 0) = False := eq_false (by omega)
      have hj : jB n ns na F tp d = false := by rw [hjb, decide_eq_false (fun q => cb q.2.1)]
      have hq := hk G hG (fun h => by rw [hj] at h; cases h)
      rw [hj, bi_f] at hq
      simp only [YK, c94, t94, c96, t96, cl96, tgK, lyK, rkK, wK, rfK, hr, qRes_eq, qNon_eq, qup_ap, vup_ap, vcpy_ap, kc8_0, kc8_1, kc8_2, lc_lt, lc_gt, lc_eq, Option.toList_some, Option.toList_none, List.cons_append, List.nil_append, lay_len, lay_sz, Nat.reduceAdd, Nat.reduceSub, Nat.reduceMul, Int.reduceToNat, Int.reduceLE, Int.reduceLT, Int.reduceEq, Int.reduceAdd, Int.reduceSub, Int.reduceMul, Int.reduceNeg, Nat.reduceLeDiff, Nat.reduceLT, true_and, and_true, false_and, and_false, qcat_0, qcat_1, qcat_3, qcat_9, Nat.reduceEqDiff, if_true, if_false, ite_self, or_true, true_or, or_false, false_or, forall_const, not_true_eq_false, not_false_eq_true, false_implies, implies_true, qtK0, qtK1, qtK2, qtK3, qtK4, List.getD_cons_zero, List.getD_cons_succ, Int.toNat_natCast, ne_eq, qcK, hbF, bsetF, bclrF, ek, e1, e2, e3, e4, m1, m2, cb']
      exact hq
  · have ek : ((d / 1000 : Nat) : Int) = 9 := by omega
    have hj : jB n ns na F tp d = false := by unfold jB; rw [if_neg (by omega), if_neg (by omega), if_neg (by omega), if_neg (by omega), if_neg (by omega)]
    have hq := hk G hG (fun h => by rw [hj] at h; cases h)
    rw [hj, bi_f] at hq
    simp only [YK, c94, t94, tgK, lyK, rkK, wK, rfK, hr, qRes_eq, qNon_eq, qup_ap, vup_ap, vcpy_ap, kc8_0, kc8_1, kc8_2, lc_lt, lc_gt, lc_eq, Option.toList_some, Option.toList_none, List.cons_append, List.nil_append, lay_len, lay_sz, Nat.reduceAdd, Nat.reduceSub, Nat.reduceMul, Int.reduceToNat, Int.reduceLE, Int.reduceLT, Int.reduceEq, Int.reduceAdd, Int.reduceSub, Int.reduceMul, Int.reduceNeg, Nat.reduceLeDiff, Nat.reduceLT, true_and, and_true, false_and, and_false, qcat_0, qcat_1, qcat_3, qcat_9, Nat.reduceEqDiff, if_true, if_false, ite_self, or_true, true_or, or_false, false_or, forall_const, not_true_eq_false, not_false_eq_true, false_implies, implies_true, qtK0, qtK1, qtK2, qtK3, qtK4, List.getD_cons_zero, List.getD_cons_succ, Int.toNat_natCast, ne_eq, qcK, hbF, bsetF, bclrF, ek, e1, e2, e3, e4]
    exact hq
