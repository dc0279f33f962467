/-! the pair day -/
def LA (lo hi n : Nat) (G0 G : XT) (i : Nat) : Prop := Rf G ∧ (∀ c : Nat, (c < lo ∨ hi < c) → G c = G0 c) ∧ ∀ c j : Nat, lo ≤ c → c ≤ hi → j < i → G c j = G0 (c + 9) j
theorem r125a {tb : qTb} {G0 : XT} {R : Option qV → qM → Prop} (hk : ∀ G, LA 71 76 4 G0 G 4 → qW tb 125 (119, 1262) 123 [(3, 69), (0, 0)] [] (LAY, G) R) : ∀ (m i : Nat) (G : XT), i + m = 4 → LA 71 76 4 G0 G i → qW tb 125 (119, 1262) 38 [(3, 69), (0, (i : Int))] [] (LAY, G) R := by
  intro m
  induction m with
  | zero =>
    intro i G him hL
    obtain rfl : i = 4 := by omega
    have hq := hk G hL
    have r0 := Rf_k hL.1
    have f0 : (((4 : Nat) : Int) < 4) = False := eq_false (by decide)
    rw [h125_38]
    simp only [YK, c125, t125, cl103, tgK, lyK, rkK, wK, rfK, qRes_eq, qNon_eq, qup_ap, vup_ap, vcpy_ap, kc8_0, kc8_1, kc8_2, lc_lt, lc_gt, lc_eq, Option.toList_some, Option.toList_none, List.cons_append, List.nil_append, lay_len, lay_sz, Nat.reduceAdd, Nat.reduceSub, Nat.reduceMul, Int.reduceToNat, Int.reduceLE, Int.reduceLT, Int.reduceEq, Int.reduceAdd, Int.reduceSub, Int.reduceMul, Int.reduceNeg, Nat.reduceLeDiff, Nat.reduceLT, true_and, and_true, false_and, and_false, qcat_0, qcat_1, qcat_3, qcat_9, Nat.reduceEqDiff, if_true, if_false, ite_self, or_true, true_or, or_false, false_or, forall_const, not_true_eq_false, not_false_eq_true, false_implies, implies_true, qtK0, qtK1, qtK2, qtK3, qtK4, List.getD_cons_zero, List.getD_cons_succ, Int.toNat_natCast, ne_eq, qcK, hbF, bsetF, bclrF, r0, f0]
    exact hq
  | succ m ih =>
    intro i G him hL
    have r0 := Rf_k hL.1
    have f0 : ((i : Int) < 4) = True := eq_true (by omega)
    have bi : (0 ≤ (i : Int)) = True := eq_true (by omega)
    have w1 : w32 ((i : Int) + 1) = ((i + 1 : Nat) : Int) := by rw [w32_id ⟨by omega, by omega⟩]; omega
    have hq := ih (i + 1) (qup (qup (qup (qup (qup (qup G 71 i (G 80 i)) 72 i (G 81 i)) 73 i (G 82 i)) 74 i (G 83 i)) 75 i (G 84 i)) 76 i (G 85 i)) (by omega) ⟨(Rf.upA (Rf.upA (Rf.upA (Rf.upA (Rf.upA (Rf.upA hL.1 _ _ (by decide)) _ _ (by decide)) _ _ (by decide)) _ _ (by decide)) _ _ (by decide)) _ _ (by decide)), fun c hc => by rw [qup_c (by omega), qup_c (by omega), qup_c (by omega), qup_c (by omega), qup_c (by omega), qup_c (by omega)]; exact hL.2.1 c hc, fun c j h1 h2 hj => ?_⟩
    · rw [h125_38]
      simp only [YK, c125, t125, cl103, tgK, lyK, rkK, wK, rfK, qRes_eq, qNon_eq, qup_ap, vup_ap, vcpy_ap, kc8_0, kc8_1, kc8_2, lc_lt, lc_gt, lc_eq, Option.toList_some, Option.toList_none, List.cons_append, List.nil_append, lay_len, lay_sz, Nat.reduceAdd, Nat.reduceSub, Nat.reduceMul, Int.reduceToNat, Int.reduceLE, Int.reduceLT, Int.reduceEq, Int.reduceAdd, Int.reduceSub, Int.reduceMul, Int.reduceNeg, Nat.reduceLeDiff, Nat.reduceLT, true_and, and_true, false_and, and_false, qcat_0, qcat_1, qcat_3, qcat_9, Nat.reduceEqDiff, if_true, if_false, ite_self, or_true, true_or, or_false, false_or, forall_const, not_true_eq_false, not_false_eq_true, false_implies, implies_true, qtK0, qtK1, qtK2, qtK3, qtK4, List.getD_cons_zero, List.getD_cons_succ, Int.toNat_natCast, ne_eq, qcK, hbF, bsetF, bclrF, r0, f0, bi, w1]
      exact hq
    · have hc : c = 71 ∨ c = 72 ∨ c = 73 ∨ c = 74 ∨ c = 75 ∨ c = 76 := by omega
      by_cases cj : j = i
      · subst cj
        rcases hc with rfl | rfl | rfl | rfl | rfl | rfl
        · simp only [qup_ap, if_true, if_false, Nat.reduceEqDiff, Nat.reduceAdd]; rw [hL.2.1 80 (by omega)]
        · simp only [qup_ap, if_true, if_false, Nat.reduceEqDiff, Nat.reduceAdd]; rw [hL.2.1 81 (by omega)]
        · simp only [qup_ap, if_true, if_false, Nat.reduceEqDiff, Nat.reduceAdd]; rw [hL.2.1 82 (by omega)]
        · simp only [qup_ap, if_true, if_false, Nat.reduceEqDiff, Nat.reduceAdd]; rw [hL.2.1 83 (by omega)]
        · simp only [qup_ap, if_true, if_false, Nat.reduceEqDiff, Nat.reduceAdd]; rw [hL.2.1 84 (by omega)]
        · simp only [qup_ap, if_true, if_false, Nat.reduceEqDiff, Nat.reduceAdd]; rw [hL.2.1 85 (by omega)]
      · have := hL.2.2 c j h1 h2 (by omega)
        rcases hc with rfl | rfl | rfl | rfl | rfl | rfl <;> simp only [qup_ap, if_true, if_false, Nat.reduceEqDiff, Nat.reduceAdd, cj] <;> exact this
def dFin (G : XT) : XT := (qup (qup (qup (qup (qup (qup (qup (qup (qup G 89 0 2) 89 1 2) 89 2 0) 89 3 1) 89 4 0) 89 5 0) 69 31 0) 93 0 0) 93 1 0)
theorem r125b {tb : qTb} {G0 : XT} {R : Option qV → qM → Prop} (hk : ∀ G, LA 77 79 12 G0 G 12 → R (some (0, G 69 3)) (LAY, (qup (qup (qup (qup (qup (qup (qup (qup (qup G 89 0 2) 89 1 2) 89 2 0) 89 3 1) 89 4 0) 89 5 0) 69 31 0) 93 0 0) 93 1 0))) : ∀ (m i : Nat) (G : XT), i + m = 12 → LA 77 79 12 G0 G i → qW tb 125 (119, 1262) 123 [(3, 69), (0, (i : Int))] [] (LAY, G) R := by
  intro m
  induction m with
  | zero =>
    intro i G him hL
    obtain rfl : i = 12 := by omega
    have hq := hk G hL
    have r0 := Rf_k hL.1
    have f0 : (((12 : Nat) : Int) < 12) = False := eq_false (by decide)
    rw [h125_123]
    simp only [YK, c125, t125, c103, t103, cl103, tgK, lyK, rkK, wK, rfK, qRes_eq, qNon_eq, qup_ap, vup_ap, vcpy_ap, kc8_0, kc8_1, kc8_2, lc_lt, lc_gt, lc_eq, Option.toList_some, Option.toList_none, List.cons_append, List.nil_append, lay_len, lay_sz, Nat.reduceAdd, Nat.reduceSub, Nat.reduceMul, Int.reduceToNat, Int.reduceLE, Int.reduceLT, Int.reduceEq, Int.reduceAdd, Int.reduceSub, Int.reduceMul, Int.reduceNeg, Nat.reduceLeDiff, Nat.reduceLT, true_and, and_true, false_and, and_false, qcat_0, qcat_1, qcat_3, qcat_9, Nat.reduceEqDiff, if_true, if_false, ite_self, or_true, true_or, or_false, false_or, forall_const, not_true_eq_false, not_false_eq_true, false_implies, implies_true, qtK0, qtK1, qtK2, qtK3, qtK4, List.getD_cons_zero, List.getD_cons_succ, Int.toNat_natCast, ne_eq, qcK, hbF, bsetF, bclrF, r0, f0]
    exact hq
  | succ m ih =>
    intro i G him hL
    have r0 := Rf_k hL.1
    have f0 : ((i : Int) < 12) = True := eq_true (by omega)
    have bi : (0 ≤ (i : Int)) = True := eq_true (by omega)
    have w1 : w32 ((i : Int) + 1) = ((i + 1 : Nat) : Int) := by rw [w32_id ⟨by omega, by omega⟩]; omega
    have hq := ih (i + 1) (qup (qup (qup G 77 i (G 86 i)) 78 i (G 87 i)) 79 i (G 88 i)) (by omega) ⟨(Rf.upA (Rf.upA (Rf.upA hL.1 _ _ (by decide)) _ _ (by decide)) _ _ (by decide)), fun c hc => by rw [qup_c (by omega), qup_c (by omega), qup_c (by omega)]; exact hL.2.1 c hc, fun c j h1 h2 hj => ?_⟩
    · rw [h125_123]
      simp only [YK, c125, t125, c103, t103, cl103, tgK, lyK, rkK, wK, rfK, qRes_eq, qNon_eq, qup_ap, vup_ap, vcpy_ap, kc8_0, kc8_1, kc8_2, lc_lt, lc_gt, lc_eq, Option.toList_some, Option.toList_none, List.cons_append, List.nil_append, lay_len, lay_sz, Nat.reduceAdd, Nat.reduceSub, Nat.reduceMul, Int.reduceToNat, Int.reduceLE, Int.reduceLT, Int.reduceEq, Int.reduceAdd, Int.reduceSub, Int.reduceMul, Int.reduceNeg, Nat.reduceLeDiff, Nat.reduceLT, true_and, and_true, false_and, and_false, qcat_0, qcat_1, qcat_3, qcat_9, Nat.reduceEqDiff, if_true, if_false, ite_self, or_true, true_or, or_false, false_or, forall_const, not_true_eq_false, not_false_eq_true, false_implies, implies_true, qtK0, qtK1, qtK2, qtK3, qtK4, List.getD_cons_zero, List.getD_cons_succ, Int.toNat_natCast, ne_eq, qcK, hbF, bsetF, bclrF, r0, f0, bi, w1]
      exact hq
    · have hc : c = 77 ∨ c = 78 ∨ c = 79 := by omega
      by_cases cj : j = i
      · subst cj
        rcases hc with rfl | rfl | rfl
        · simp only [qup_ap, if_true, if_false, Nat.reduceEqDiff, Nat.reduceAdd]; rw [hL.2.1 86 (by omega)]
        · simp only [qup_ap, if_true, if_false, Nat.reduceEqDiff, Nat.reduceAdd]; rw [hL.2.1 87 (by omega)]
        · simp only [qup_ap, if_true, if_false, Nat.reduceEqDiff, Nat.reduceAdd]; rw [hL.2.1 88 (by omega)]
      · have := hL.2.2 c j h1 h2 (by omega)
        rcases hc with rfl | rfl | rfl <;> simp only [qup_ap, if_true, if_false, Nat.reduceEqDiff, Nat.reduceAdd, cj] <;> exact this
theorem H_day {L : Nat} {xs : Nat → Int} (F : Nat → Nat → Int) (hR : Rel F) : qPair (qtab L xs) Rel 0 73 125 [(3, 0), (9, 0)] [(3, 69), (9, 0)] F := by
  apply qPair_of
  obtain ⟨len, l1, l2, l3, l4⟩ := txt_of hR
  have hr := Rf_k hR.1
  simp only [YK, c73, t73, cl47, cl55, tgK, lyK, rkK, wK, rfK, qRes_eq, qNon_eq, qup_ap, vup_ap, vcpy_ap, kc8_0, kc8_1, kc8_2, lc_lt, lc_gt, lc_eq, Option.toList_some, Option.toList_none, List.cons_append, List.nil_append, lay_len, lay_sz, Nat.reduceAdd, Nat.reduceSub, Nat.reduceMul, Int.reduceToNat, Int.reduceLE, Int.reduceLT, Int.reduceEq, Int.reduceAdd, Int.reduceSub, Int.reduceMul, Int.reduceNeg, Nat.reduceLeDiff, Nat.reduceLT, true_and, and_true, false_and, and_false, qcat_0, qcat_1, qcat_3, qcat_9, Nat.reduceEqDiff, if_true, if_false, ite_self, or_true, true_or, or_false, false_or, forall_const, not_true_eq_false, not_false_eq_true, false_implies, implies_true, qtK0, qtK1, qtK2, qtK3, qtK4, List.getD_cons_zero, List.getD_cons_succ, Int.toNat_natCast, ne_eq, qcK, hbF, bsetF, bclrF, hr, l1]
  refine k47_13 hR.1 l2 (fun j hj => (l4 j hj).1) (fun _ _ => 0) ?_
  intro r G0 G hp hpost
  obtain ⟨g1, g2⟩ := post_fr hpost
  have gr := Rf_k g1
  cases r with
  | inl f =>
    have hf := PR_f _ _ _ _ _ _ hp
    have n9 : (f = -9) = False := eq_false (by omega)
    have ea : ans (.inl f) = f := rfl
    simp only [YK, c73, t73, c125, t125, cl47, cl55, cl123, cl103, tgK, lyK, rkK, wK, rfK, qRes_eq, qNon_eq, qup_ap, vup_ap, vcpy_ap, kc8_0, kc8_1, kc8_2, lc_lt, lc_gt, lc_eq, Option.toList_some, Option.toList_none, List.cons_append, List.nil_append, lay_len, lay_sz, Nat.reduceAdd, Nat.reduceSub, Nat.reduceMul, Int.reduceToNat, Int.reduceLE, Int.reduceLT, Int.reduceEq, Int.reduceAdd, Int.reduceSub, Int.reduceMul, Int.reduceNeg, Nat.reduceLeDiff, Nat.reduceLT, true_and, and_true, false_and, and_false, qcat_0, qcat_1, qcat_3, qcat_9, Nat.reduceEqDiff, if_true, if_false, ite_self, or_true, true_or, or_false, false_or, forall_const, not_true_eq_false, not_false_eq_true, false_implies, implies_true, qtK0, qtK1, qtK2, qtK3, qtK4, List.getD_cons_zero, List.getD_cons_succ, Int.toNat_natCast, ne_eq, qcK, hbF, bsetF, bclrF, gr, n9, ea]
    refine r123 (F := G) g1 l2 (T := F 1) (fun j hj => ?_) ?_ hp ?_
    · rw [g2 70 (by decide) (by decide)]
      exact ⟨(l4 j hj).2, (l4 j hj).1.2⟩
    · rw [g2 69 (by decide) (by decide)]
      exact l3
    · intro G2 h2
      obtain ⟨p1, p2, p3⟩ := postR_fr h2
      simp only [YK, c73, t73, c125, t125, cl47, cl55, cl123, cl103, tgK, lyK, rkK, wK, rfK, qRes_eq, qNon_eq, qup_ap, vup_ap, vcpy_ap, kc8_0, kc8_1, kc8_2, lc_lt, lc_gt, lc_eq, Option.toList_some, Option.toList_none, List.cons_append, List.nil_append, lay_len, lay_sz, Nat.reduceAdd, Nat.reduceSub, Nat.reduceMul, Int.reduceToNat, Int.reduceLE, Int.reduceLT, Int.reduceEq, Int.reduceAdd, Int.reduceSub, Int.reduceMul, Int.reduceNeg, Nat.reduceLeDiff, Nat.reduceLT, true_and, and_true, false_and, and_false, qcat_0, qcat_1, qcat_3, qcat_9, Nat.reduceEqDiff, if_true, if_false, ite_self, or_true, true_or, or_false, false_or, forall_const, not_true_eq_false, not_false_eq_true, false_implies, implies_true, qtK0, qtK1, qtK2, qtK3, qtK4, List.getD_cons_zero, List.getD_cons_succ, Int.toNat_natCast, ne_eq, qcK, hbF, bsetF, bclrF, gr, n9, ea]
      refine Rel_eq2 hR p1 (fun c hc => ?_) (fun j a1 a2 a3 a4 a5 => ?_)
      · rw [p2 c (by unfold rlc at hc; omega) (by unfold rlc at hc; omega)]
        exact g2 c (by unfold rlc at hc; omega) (by unfold rlc at hc; omega)
      · rw [p3 j a1 a2 a3 a4 a5, g2 69 (by decide) (by decide)]
  | inr q =>
    obtain ⟨k, h, s, a, W⟩ := q
    have ea : ans (.inr (k, h, s, a, W)) = -9 := rfl
    have l1b : G 0 1 = (len : Int) := by rw [g2 0 (by decide) (by decide)]; exact l1
    simp only [YK, c73, t73, cl47, cl55, tgK, lyK, rkK, wK, rfK, qRes_eq, qNon_eq, qup_ap, vup_ap, vcpy_ap, kc8_0, kc8_1, kc8_2, lc_lt, lc_gt, lc_eq, Option.toList_some, Option.toList_none, List.cons_append, List.nil_append, lay_len, lay_sz, Nat.reduceAdd, Nat.reduceSub, Nat.reduceMul, Int.reduceToNat, Int.reduceLE, Int.reduceLT, Int.reduceEq, Int.reduceAdd, Int.reduceSub, Int.reduceMul, Int.reduceNeg, Nat.reduceLeDiff, Nat.reduceLT, true_and, and_true, false_and, and_false, qcat_0, qcat_1, qcat_3, qcat_9, Nat.reduceEqDiff, if_true, if_false, ite_self, or_true, true_or, or_false, false_or, forall_const, not_true_eq_false, not_false_eq_true, false_implies, implies_true, qtK0, qtK1, qtK2, qtK3, qtK4, List.getD_cons_zero, List.getD_cons_succ, Int.toNat_natCast, ne_eq, qcK, hbF, bsetF, bclrF, gr, ea, l1b]
    refine k47_3 g1 l2 (T := F 1) (fun j hj => ?_) (fun _ _ => 0) ?_
    · rw [g2 1 (by decide) (by decide)]
      exact (l4 j hj).1
    intro r2 Ga Gb hp2 hpost2
    obtain rfl := PR_u _ _ _ _ _ _ hp hp2
    obtain ⟨b1, b2⟩ := post_fr hpost2
    have br := Rf_k b1
    have hB := PR_b _ _ _ _ _ _ (BW_0 _) hp
    obtain ⟨⟨x1, x2, x3, x4, x5⟩, y1, ⟨y2, y3, y4⟩, y5, y6, y7, y8⟩ := hpost2
    have hcp := fun y lim R pc len a b ls F i r => y_cpyT (qtab L xs) y lim R pc len a b ls F i 5 0 24 0 r (by decide) (by decide) (by decide) (by rw [qtK0]; decide) (by decide) (by decide +kernel) (by decide +kernel) (by decide)
    have z0 : Gb 3 0 = (h : Int) := by rw [x1 3 (by decide)]; exact y2
    have z1 : Gb 3 1 = (s : Int) := by rw [x1 3 (by decide)]; exact y3
    have z2 : Gb 3 2 = (a : Int) := by rw [x1 3 (by decide)]; exact y4
    simp only [YK, c73, t73, c55, t55, cl47, cl55, tgK, lyK, rkK, wK, rfK, qRes_eq, qNon_eq, qup_ap, vup_ap, vcpy_ap, kc8_0, kc8_1, kc8_2, lc_lt, lc_gt, lc_eq, Option.toList_some, Option.toList_none, List.cons_append, List.nil_append, lay_len, lay_sz, Nat.reduceAdd, Nat.reduceSub, Nat.reduceMul, Int.reduceToNat, Int.reduceLE, Int.reduceLT, Int.reduceEq, Int.reduceAdd, Int.reduceSub, Int.reduceMul, Int.reduceNeg, Nat.reduceLeDiff, Nat.reduceLT, true_and, and_true, false_and, and_false, qcat_0, qcat_1, qcat_3, qcat_9, Nat.reduceEqDiff, if_true, if_false, ite_self, or_true, true_or, or_false, false_or, forall_const, not_true_eq_false, not_false_eq_true, false_implies, implies_true, qtK0, qtK1, qtK2, qtK3, qtK4, List.getD_cons_zero, List.getD_cons_succ, Int.toNat_natCast, ne_eq, qcK, hbF, bsetF, bclrF, br, z0, z1, z2, hcp]
    rw [h73_56]
    simp only [YK, c73, t73, c55, t55, cl47, cl55, tgK, lyK, rkK, wK, rfK, qRes_eq, qNon_eq, qup_ap, vup_ap, vcpy_ap, kc8_0, kc8_1, kc8_2, lc_lt, lc_gt, lc_eq, Option.toList_some, Option.toList_none, List.cons_append, List.nil_append, lay_len, lay_sz, Nat.reduceAdd, Nat.reduceSub, Nat.reduceMul, Int.reduceToNat, Int.reduceLE, Int.reduceLT, Int.reduceEq, Int.reduceAdd, Int.reduceSub, Int.reduceMul, Int.reduceNeg, Nat.reduceLeDiff, Nat.reduceLT, true_and, and_true, false_and, and_false, qcat_0, qcat_1, qcat_3, qcat_9, Nat.reduceEqDiff, if_true, if_false, ite_self, or_true, true_or, or_false, false_or, forall_const, not_true_eq_false, not_false_eq_true, false_implies, implies_true, qtK0, qtK1, qtK2, qtK3, qtK4, List.getD_cons_zero, List.getD_cons_succ, Int.toNat_natCast, ne_eq, qcK, hbF, bsetF, bclrF, br, z0, z1, z2]
    rw [h73_56]
    simp only [YK, c73, t73, c55, t55, cl47, cl55, tgK, lyK, rkK, wK, rfK, qRes_eq, qNon_eq, qup_ap, vup_ap, vcpy_ap, kc8_0, kc8_1, kc8_2, lc_lt, lc_gt, lc_eq, Option.toList_some, Option.toList_none, List.cons_append, List.nil_append, lay_len, lay_sz, Nat.reduceAdd, Nat.reduceSub, Nat.reduceMul, Int.reduceToNat, Int.reduceLE, Int.reduceLT, Int.reduceEq, Int.reduceAdd, Int.reduceSub, Int.reduceMul, Int.reduceNeg, Nat.reduceLeDiff, Nat.reduceLT, true_and, and_true, false_and, and_false, qcat_0, qcat_1, qcat_3, qcat_9, Nat.reduceEqDiff, if_true, if_false, ite_self, or_true, true_or, or_false, false_or, forall_const, not_true_eq_false, not_false_eq_true, false_implies, implies_true, qtK0, qtK1, qtK2, qtK3, qtK4, List.getD_cons_zero, List.getD_cons_succ, Int.toNat_natCast, ne_eq, qcK, hbF, bsetF, bclrF, br, z0, z1, z2]
    rw [h73_56]
    simp only [YK, c73, t73, c55, t55, c125, t125, cl47, cl55, cl123, cl103, tgK, lyK, rkK, wK, rfK, qRes_eq, qNon_eq, qup_ap, vup_ap, vcpy_ap, kc8_0, kc8_1, kc8_2, lc_lt, lc_gt, lc_eq, Option.toList_some, Option.toList_none, List.cons_append, List.nil_append, lay_len, lay_sz, Nat.reduceAdd, Nat.reduceSub, Nat.reduceMul, Int.reduceToNat, Int.reduceLE, Int.reduceLT, Int.reduceEq, Int.reduceAdd, Int.reduceSub, Int.reduceMul, Int.reduceNeg, Nat.reduceLeDiff, Nat.reduceLT, true_and, and_true, false_and, and_false, qcat_0, qcat_1, qcat_3, qcat_9, Nat.reduceEqDiff, if_true, if_false, ite_self, or_true, true_or, or_false, false_or, forall_const, not_true_eq_false, not_false_eq_true, false_implies, implies_true, qtK0, qtK1, qtK2, qtK3, qtK4, List.getD_cons_zero, List.getD_cons_succ, Int.toNat_natCast, ne_eq, qcK, hbF, bsetF, bclrF, br, z0, z1, z2]
    obtain ⟨Gc, hGc⟩ : ∃ Gc : XT, Gc = qup (qup (qup (qup (va_up Gb 24 (va_cpy (fun j => ([2, 2, 0, 1, 0] : List Int).getD j 0) (Gb 24) 0 0 5)) 23 1 0) 27 0 0) 34 0 0) 34 1 0 := ⟨_, rfl⟩
    rw [← hGc]
    have c0 : Rf Gc := by rw [hGc]; exact ((((Rf_vup b1 _ (by decide)).up (by decide)).up (by decide)).up (by decide)).up (by decide)
    have c1 : ∀ c : Nat, c ≠ 24 → c ≠ 23 → c ≠ 27 → c ≠ 34 → Gc c = Gb c := fun c n1 n2 n3 n4 => by funext j; rw [hGc]; simp only [qup_ap, vup_ap, n1, n2, n3, n4, if_false]
    have c2 : Gc 24 0 = 2 ∧ Gc 24 1 = 2 ∧ Gc 24 2 = 0 ∧ Gc 24 3 = 1 ∧ Gc 24 4 = 0 := by
      rw [hGc]
      simp only [qup_ap, vup_ap, vcpy_ap, Nat.reduceEqDiff, if_true, if_false, Nat.reduceAdd, Nat.reduceSub, Nat.reduceLT, Nat.reduceLeDiff, true_and, and_true]
      exact ⟨rfl, rfl, rfl, rfl, rfl⟩
    have c3 : Gc 23 1 = 0 ∧ Gc 27 0 = 0 ∧ Gc 34 0 = 0 ∧ Gc 34 1 = 0 := by
      rw [hGc]
      simp only [qup_ap, vup_ap, Nat.reduceEqDiff, if_true, if_false, and_self]
    clear hGc
    have c4 : ∀ c : Nat, c ≠ 24 → c ≠ 23 → c ≠ 27 → c ≠ 34 → c ≠ 2 → (c < 3 ∨ 22 < c) → Gc c = F c := fun c n1 n2 n3 n4 n5 n6 => by rw [c1 c n1 n2 n3 n4, b2 c n5 (by omega)]; exact g2 c n5 (by omega)
    have c9 : Gc 69 = F 69 := c4 69 (by decide) (by decide) (by decide) (by decide) (by decide) (by decide)
    refine r123 (F := Gc) c0 l2 (T := F 1) (fun j hj => ?_) ?_ hp ?_
    · rw [c4 70 (by decide) (by decide) (by decide) (by decide) (by decide) (by decide)]
      exact ⟨(l4 j hj).2, (l4 j hj).1.2⟩
    · rw [c9]
      exact l3
    intro Gd hd
    obtain ⟨⟨pt, ⟨d0, d1, d2⟩, d3, d4, d5, -, -⟩, -, d6, d7, d8⟩ := hd
    have dr := Rf_k d0
    simp only [YK, c125, t125, cl123, cl103, tgK, lyK, rkK, wK, rfK, qRes_eq, qNon_eq, qup_ap, vup_ap, vcpy_ap, kc8_0, kc8_1, kc8_2, lc_lt, lc_gt, lc_eq, Option.toList_some, Option.toList_none, List.cons_append, List.nil_append, lay_len, lay_sz, Nat.reduceAdd, Nat.reduceSub, Nat.reduceMul, Int.reduceToNat, Int.reduceLE, Int.reduceLT, Int.reduceEq, Int.reduceAdd, Int.reduceSub, Int.reduceMul, Int.reduceNeg, Nat.reduceLeDiff, Nat.reduceLT, true_and, and_true, false_and, and_false, qcat_0, qcat_1, qcat_3, qcat_9, Nat.reduceEqDiff, if_true, if_false, ite_self, or_true, true_or, or_false, false_or, forall_const, not_true_eq_false, not_false_eq_true, false_implies, implies_true, qtK0, qtK1, qtK2, qtK3, qtK4, List.getD_cons_zero, List.getD_cons_succ, Int.toNat_natCast, ne_eq, qcK, hbF, bsetF, bclrF, dr, d3, d4, d5, ea]
    refine r125a (G0 := qup (qup (qup Gd 69 2 (h : Int)) 69 3 (a : Int)) 69 4 (s : Int)) ?_ 4 0 _ rfl ⟨((d0.up (by decide)).up (by decide)).up (by decide), fun _ _ => rfl, fun c j _ _ hj => absurd hj (by omega)⟩
    intro Ge he
    obtain ⟨e0, e1, e2⟩ := he
    refine r125b (G0 := Ge) ?_ 12 0 Ge rfl ⟨e0, fun _ _ => rfl, fun c j _ _ hj => absurd hj (by omega)⟩
    intro Gf hf
    obtain ⟨f0, f1, f2⟩ := hf
    have f9 : Gf 69 3 = (a : Int) := by
      rw [f1 69 (by decide), e1 69 (by decide)]
      simp only [qup_ap, Nat.reduceEqDiff, if_true, if_false]
    rw [qRes_eq, f9]
    refine ⟨rfl, ?_⟩
    obtain ⟨Gz, hGz⟩ : ∃ Gz : XT, Gz = (qup (qup (qup (qup (qup (qup (qup (qup (qup Gf 89 0 2) 89 1 2) 89 2 0) 89 3 1) 89 4 0) 89 5 0) 69 31 0) 93 0 0) 93 1 0) := ⟨_, rfl⟩
    rw [← hGz]
    have z0' : Rf Gz := by rw [hGz]; exact (Rf.up (Rf.up (Rf.up (Rf.up (Rf.up (Rf.up (Rf.up (Rf.up (Rf.up f0 (by decide)) (by decide)) (by decide)) (by decide)) (by decide)) (by decide)) (by decide)) (by decide)) (by decide))
    have z1' : ∀ c : Nat, c ≠ 89 → c ≠ 69 → c ≠ 93 → Gz c = Gf c := fun c n1 n2 n3 => by funext j; rw [hGz]; simp only [qup_ap, n1, n2, n3, if_false]
    have z2' : ∀ j : Nat, j ≠ 31 → Gz 69 j = Gf 69 j := fun j n1 => by rw [hGz]; simp only [qup_ap, n1, if_true, if_false, Nat.reduceEqDiff]
    have z3 : Gz 89 0 = 2 ∧ Gz 89 1 = 2 ∧ Gz 89 2 = 0 ∧ Gz 89 3 = 1 ∧ Gz 89 4 = 0 ∧ Gz 89 5 = 0 ∧ Gz 69 31 = 0 ∧ Gz 93 0 = 0 ∧ Gz 93 1 = 0 := by
      rw [hGz]
      simp only [qup_ap, Nat.reduceEqDiff, if_true, if_false, and_self]
    clear hGz
    have k9 : ∀ j : Nat, j ≠ 31 → Gz 69 j = qup (qup (qup Gd 69 2 (h : Int)) 69 3 (a : Int)) 69 4 (s : Int) 69 j := fun j n1 => by rw [z2' j n1, f1 69 (by decide), e1 69 (by decide)]
    have k2 : Gz 69 2 = (h : Int) := by rw [k9 2 (by decide)]; simp only [qup_ap, Nat.reduceEqDiff, if_true, if_false]
    have k3 : Gz 69 3 = (a : Int) := by rw [k9 3 (by decide)]; simp only [qup_ap, Nat.reduceEqDiff, if_true, if_false]
    have k4 : Gz 69 4 = (s : Int) := by rw [k9 4 (by decide)]; simp only [qup_ap, Nat.reduceEqDiff, if_true, if_false]
    have ko : ∀ j : Nat, j ≠ 31 → j ≠ 2 → j ≠ 3 → j ≠ 4 → j ≠ 14 → j ≠ 15 → j ≠ 16 → j ≠ 26 → j ≠ 27 → Gz 69 j = F 69 j := fun j n1 n2 n3 n4 a1 a2 a3 a4 a5 => by
      rw [k9 j n1]
      simp only [qup_ap, n2, n3, n4, if_true, if_false]
      rw [d2 j a1 a2 a3 a4 a5, c9]
    have kd : ∀ c : Nat, c ≠ 89 → c ≠ 69 → c ≠ 93 → (c < 71 ∨ 79 < c) → Gz c = Gd c := fun c n1 n2 n3 n4 => by rw [z1' c n1 n2 n3, f1 c (by omega), e1 c (by omega), qup_c n2, qup_c n2, qup_c n2]
    have kb : ∀ c : Nat, c ≠ 89 → c ≠ 69 → c ≠ 93 → (c < 71 ∨ 88 < c) → Gz c = Gc c := fun c n1 n2 n3 n4 => by rw [kd c n1 n2 n3 (by omega)]; exact d1 c n2 (by omega)
    have kf : ∀ c : Nat, c ≠ 89 → c ≠ 69 → c ≠ 93 → (c < 71 ∨ 88 < c) → c ≠ 24 → c ≠ 23 → c ≠ 27 → c ≠ 34 → c ≠ 2 → (c < 3 ∨ 22 < c) → Gz c = F c := fun c n1 n2 n3 n4 n5 n6 n7 n8 n9 n10 => by rw [kb c n1 n2 n3 n4]; exact c4 c n5 n6 n7 n8 n9 n10
    have kg : ∀ c : Nat, 3 ≤ c → c ≤ 12 → Gz c = Ga c := fun c n1 n2 => by rw [kb c (by omega) (by omega) (by omega) (by omega), c1 c (by omega) (by omega) (by omega) (by omega)]; exact x1 c (by omega)
    have m0 : Gz 3 0 = (h : Int) := by rw [kg 3 (by omega) (by omega)]; exact y2
    have m1 : Gz 3 1 = (s : Int) := by rw [kg 3 (by omega) (by omega)]; exact y3
    have m2 : Gz 3 2 = (a : Int) := by rw [kg 3 (by omega) (by omega)]; exact y4
    have p0 : ∀ j : Nat, j < h → Gz 4 j = W 0 j := fun j hj => by rw [kg 4 (by omega) (by omega)]; exact y6 0 j (by omega) hj
    have r0 : ∀ j : Nat, j < h → Gz 71 j = W 0 j := fun j hj => by rw [z1' 71 (by decide) (by decide) (by decide), f1 71 (by decide), e2 71 j (by decide) (by decide) (by omega), qup_c (by decide), qup_c (by decide), qup_c (by decide)]; exact d6 0 j (by omega) hj
    have p1 : ∀ j : Nat, j < h → Gz 5 j = W 1 j := fun j hj => by rw [kg 5 (by omega) (by omega)]; exact y6 1 j (by omega) hj
    have r1 : ∀ j : Nat, j < h → Gz 72 j = W 1 j := fun j hj => by rw [z1' 72 (by decide) (by decide) (by decide), f1 72 (by decide), e2 72 j (by decide) (by decide) (by omega), qup_c (by decide), qup_c (by decide), qup_c (by decide)]; exact d6 1 j (by omega) hj
    have p2 : ∀ j : Nat, j < h → Gz 6 j = W 2 j := fun j hj => by rw [kg 6 (by omega) (by omega)]; exact y6 2 j (by omega) hj
    have r2 : ∀ j : Nat, j < h → Gz 73 j = W 2 j := fun j hj => by rw [z1' 73 (by decide) (by decide) (by decide), f1 73 (by decide), e2 73 j (by decide) (by decide) (by omega), qup_c (by decide), qup_c (by decide), qup_c (by decide)]; exact d6 2 j (by omega) hj
    have p3 : ∀ j : Nat, j < s → Gz 7 j = W 3 j := fun j hj => by rw [kg 7 (by omega) (by omega)]; exact y7 3 j (by omega) (by omega) hj
    have r3 : ∀ j : Nat, j < s → Gz 74 j = W 3 j := fun j hj => by rw [z1' 74 (by decide) (by decide) (by decide), f1 74 (by decide), e2 74 j (by decide) (by decide) (by omega), qup_c (by decide), qup_c (by decide), qup_c (by decide)]; exact d7 3 j (by omega) (by omega) hj
    have p4 : ∀ j : Nat, j < s → Gz 8 j = W 4 j := fun j hj => by rw [kg 8 (by omega) (by omega)]; exact y7 4 j (by omega) (by omega) hj
    have r4 : ∀ j : Nat, j < s → Gz 75 j = W 4 j := fun j hj => by rw [z1' 75 (by decide) (by decide) (by decide), f1 75 (by decide), e2 75 j (by decide) (by decide) (by omega), qup_c (by decide), qup_c (by decide), qup_c (by decide)]; exact d7 4 j (by omega) (by omega) hj
    have p5 : ∀ j : Nat, j < s → Gz 9 j = W 5 j := fun j hj => by rw [kg 9 (by omega) (by omega)]; exact y7 5 j (by omega) (by omega) hj
    have r5 : ∀ j : Nat, j < s → Gz 76 j = W 5 j := fun j hj => by rw [z1' 76 (by decide) (by decide) (by decide), f1 76 (by decide), e2 76 j (by decide) (by decide) (by omega), qup_c (by decide), qup_c (by decide), qup_c (by decide)]; exact d7 5 j (by omega) (by omega) hj
    have p6 : ∀ j : Nat, j < a → Gz 10 j = W 6 j := fun j hj => by rw [kg 10 (by omega) (by omega)]; exact y8 6 j (by omega) (by omega) hj
    have r6 : ∀ j : Nat, j < a → Gz 77 j = W 6 j := fun j hj => by rw [z1' 77 (by decide) (by decide) (by decide), f2 77 j (by decide) (by decide) (by omega), e1 _ (by decide), qup_c (by decide), qup_c (by decide), qup_c (by decide)]; exact d8 6 j (by omega) (by omega) hj
    have p7 : ∀ j : Nat, j < a → Gz 11 j = W 7 j := fun j hj => by rw [kg 11 (by omega) (by omega)]; exact y8 7 j (by omega) (by omega) hj
    have r7 : ∀ j : Nat, j < a → Gz 78 j = W 7 j := fun j hj => by rw [z1' 78 (by decide) (by decide) (by decide), f2 78 j (by decide) (by decide) (by omega), e1 _ (by decide), qup_c (by decide), qup_c (by decide), qup_c (by decide)]; exact d8 7 j (by omega) (by omega) hj
    have p8 : ∀ j : Nat, j < a → Gz 12 j = W 8 j := fun j hj => by rw [kg 12 (by omega) (by omega)]; exact y8 8 j (by omega) (by omega) hj
    have r8 : ∀ j : Nat, j < a → Gz 79 j = W 8 j := fun j hj => by rw [z1' 79 (by decide) (by decide) (by decide), f2 79 j (by decide) (by decide) (by omega), e1 _ (by decide), qup_c (by decide), qup_c (by decide), qup_c (by decide)]; exact d8 8 j (by omega) (by omega) hj
    obtain ⟨-, hT, -, -, hO, -, hS, hG⟩ := hR
    have F' : ∀ c : Nat, c ≠ 89 → c ≠ 69 → c ≠ 93 → (c < 71 ∨ 88 < c) → c ≠ 24 → c ≠ 23 → c ≠ 27 → c ≠ 34 → c ≠ 2 → (c < 3 ∨ 22 < c) → Gz c = F c := kf
    have q0 := kf 0 (by decide) (by decide) (by decide) (by decide) (by decide) (by decide) (by decide) (by decide) (by decide) (by decide)
    have q1 := kf 1 (by decide) (by decide) (by decide) (by decide) (by decide) (by decide) (by decide) (by decide) (by decide) (by decide)
    have q30 := kf 30 (by decide) (by decide) (by decide) (by decide) (by decide) (by decide) (by decide) (by decide) (by decide) (by decide)
    have q31 := kf 31 (by decide) (by decide) (by decide) (by decide) (by decide) (by decide) (by decide) (by decide) (by decide) (by decide)
    have q32 := kf 32 (by decide) (by decide) (by decide) (by decide) (by decide) (by decide) (by decide) (by decide) (by decide) (by decide)
    have q70 := kf 70 (by decide) (by decide) (by decide) (by decide) (by decide) (by decide) (by decide) (by decide) (by decide) (by decide)
    have q94 := kf 94 (by decide) (by decide) (by decide) (by decide) (by decide) (by decide) (by decide) (by decide) (by decide) (by decide)
    have q95 := kf 95 (by decide) (by decide) (by decide) (by decide) (by decide) (by decide) (by decide) (by decide) (by decide) (by decide)
    have q23 := kb 23 (by decide) (by decide) (by decide) (by decide)
    have q24 := kb 24 (by decide) (by decide) (by decide) (by decide)
    have q27 := kb 27 (by decide) (by decide) (by decide) (by decide)
    have q34 := kb 34 (by decide) (by decide) (by decide) (by decide)
    have u1 := ko 1 (by decide) (by decide) (by decide) (by decide) (by decide) (by decide) (by decide) (by decide) (by decide)
    have u32 := ko 32 (by decide) (by decide) (by decide) (by decide) (by decide) (by decide) (by decide) (by decide) (by decide)
    have u37 := ko 37 (by decide) (by decide) (by decide) (by decide) (by decide) (by decide) (by decide) (by decide) (by decide)
    have u38 := ko 38 (by decide) (by decide) (by decide) (by decide) (by decide) (by decide) (by decide) (by decide) (by decide)
    obtain ⟨w0, w1, w2, w3, w4⟩ := c2
    obtain ⟨w5, w6, w7, w8⟩ := c3
    obtain ⟨v0, v1, v2, v3, v4, v5, v6, v7, v8⟩ := z3
    obtain ⟨⟨bb1, bb2, bb3⟩, bb4, bb5, bb6⟩ := hB
    refine ⟨z0', ?_, ?_, ?_, ?_, ?_, ?_, ?_⟩
    · unfold RT at hT ⊢; rw [u1, q0, q70, q1]; exact hT
    · refine ⟨⟨by rw [k2, m0], by omega, by omega⟩, ⟨by rw [k3, m2], by omega, by omega⟩, ⟨by rw [k4, m1], by omega, by omega⟩, fun j hj => ?_, fun j hj => ?_, fun j hj => ?_⟩
      · have hj2 : j < h := by rw [m0] at hj; omega
        have := bb4 j hj2
        rw [r0 j hj2, r1 j hj2, r2 j hj2, p0 j hj2, p1 j hj2, p2 j hj2]
        exact ⟨rfl, this.1, this.2.1, rfl, this.2.2.1, this.2.2.2.1, rfl, this.2.2.2.2⟩
      · have hj2 : j < s := by rw [m1] at hj; omega
        have := bb5 j hj2
        rw [r3 j hj2, r4 j hj2, r5 j hj2, p3 j hj2, p4 j hj2, p5 j hj2, m0]
        exact ⟨rfl, this.1, this.2.1, rfl, this.2.2.1, this.2.2.2.1, rfl, this.2.2.2.2⟩
      · have hj2 : j < a := by rw [m2] at hj; omega
        have := bb6 j hj2
        rw [r6 j hj2, r7 j hj2, r8 j hj2, p6 j hj2, p7 j hj2, p8 j hj2]
        exact ⟨rfl, this.1, this.2.1, rfl, this.2.2.1, this.2.2.2.1, rfl, this.2.2.2.2⟩
    · refine ⟨?_, fun k hk => ?_, ?_⟩
      · unfold PB
        rw [q24, q23, w0, w1, w2, w3, w4, w5]
        decide
      · rw [q24]
        match k, hk with
        | 0, _ => rw [v0, w0]
        | 1, _ => rw [v1, w1]
        | 2, _ => rw [v2, w2]
        | 3, _ => rw [v3, w3]
        | 4, _ => rw [v4, w4]
      · rw [q23, v5, w5]
    · refine ⟨⟨by rw [v6, q27, w6], by rw [q27, w6]; decide, by rw [q27, w6]; decide⟩, by rw [u32]; exact hO.2.1, fun i hi => ?_⟩
      rw [q27, w6] at hi
      exact absurd hi (by omega)
    · unfold RK
      rw [q34, v7, v8, w7, w8]
      exact ⟨⟨rfl, Or.inl rfl, fun e => absurd e (by decide)⟩, ⟨rfl, Or.inl rfl, fun e => absurd e (by decide)⟩⟩
    · unfold RS at hS ⊢; rw [u37, q30, q31, q32, q94, q95]; exact hS
    · unfold RG at hG ⊢; rw [u38, q0]; exact hG
