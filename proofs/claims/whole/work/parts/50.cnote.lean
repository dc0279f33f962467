/-! the class: a breaker is told of a work; a work ends -/
theorem k5 {tb : qTb} {p u : Nat} {sp : Int} {C X F : XT} {L : LT} {e b : Int} {R : Option qV → qM → Prop} (hR : CR p u sp C X L e b F) (h : Nat) (hh : h < 4) (bad : Bool) (t : Int) (ht : 0 ≤ t ∧ t ≤ 80) (hOB : OB X h) (hK : 0 ≤ X 97 3 ∧ X 97 3 ≤ 3) (hN : 0 ≤ X 110 h ∧ X 110 h < 256) (hM : 0 ≤ X 111 h ∧ X 111 h ≤ 8) (hZ : X 97 3 ≠ 3 → X 112 h = 0) (hT : X 97 3 = 3 → FG (X 112 h) (bi bad) ∧ FHalf (twF (X 112 h) (bi bad))) (hk : ∀ F2, CR p u sp C (pNote X h bad t) L e b F2 → R none (LAY, F2)) : qW tb 5 (119, 1262) 0 [(3, ((hB h : Nat) : Int)), (0, bi bad), (0, t), (0, X 97 3), (9, 0)] [] (LAY, F) R := by
  have hr := Rf_k hR.rf
  have hx := hR.k
  unfold CD at hx
  have hg := hR.h hh
  have hc0 := hcK0 hh
  have hc1 := hcK1 h
  have hc2 := hcK2 h
  have q := hR.2.2.2.2.2 h hh
  have hbr := q.2.2.2.2.2
  have pn0 : ∀ c g, g ≠ h → pNote X h bad t c g = X c g := fun c g hg => pNote_o hg
  have pnc : ∀ c, c ≠ 108 → c ≠ 109 → c ≠ 110 → c ≠ 111 → c ≠ 112 → c ≠ 116 → pNote X h bad t c = X c := fun c c1 c2 c3 c4 c5 c6 => pNote_c c3 c4 c5 c1 c2 c6
  simp only [YK, c5, t5, cl3, tgK, lyK, rkK, wK, rfK, hr, qRes_eq, qNon_eq, qup_ap, vup_ap, vcpy_ap, kc8_0, kc8_1, kc8_2, lc_lt, lc_gt, lc_eq, Option.toList_some, Option.toList_none, List.cons_append, List.nil_append, lay_len, lay_sz, Nat.reduceAdd, Nat.reduceSub, Nat.reduceMul, Int.reduceToNat, Int.reduceLE, Int.reduceLT, Int.reduceEq, Int.reduceAdd, Int.reduceSub, Int.reduceMul, Int.reduceNeg, Nat.reduceLeDiff, Nat.reduceLT, true_and, and_true, false_and, and_false, qcat_0, qcat_1, qcat_3, qcat_9, Nat.reduceEqDiff, if_true, if_false, ite_self, or_true, true_or, or_false, false_or, forall_const, not_true_eq_false, not_false_eq_true, false_implies, implies_true, qtK0, qtK1, qtK2, qtK3, qtK4, List.getD_cons_zero, List.getD_cons_succ, hx, Int.toNat_natCast, ne_eq, qcK, hbF, bsetF, bclrF, hg, hc0, hc1, hc2]
  refine k3 hR h hh t ht hOB ?_
  rcases pBrk_r X h t with c | c | c
  · rw [c]
    simp only [YK, c5, t5, cl6, tgK, lyK, rkK, wK, rfK, hr, qRes_eq, qNon_eq, qup_ap, vup_ap, vcpy_ap, kc8_0, kc8_1, kc8_2, lc_lt, lc_gt, lc_eq, Option.toList_some, Option.toList_none, List.cons_append, List.nil_append, lay_len, lay_sz, Nat.reduceAdd, Nat.reduceSub, Nat.reduceMul, Int.reduceToNat, Int.reduceLE, Int.reduceLT, Int.reduceEq, Int.reduceAdd, Int.reduceSub, Int.reduceMul, Int.reduceNeg, Nat.reduceLeDiff, Nat.reduceLT, true_and, and_true, false_and, and_false, qcat_0, qcat_1, qcat_3, qcat_9, Nat.reduceEqDiff, if_true, if_false, ite_self, or_true, true_or, or_false, false_or, forall_const, not_true_eq_false, not_false_eq_true, false_implies, implies_true, qtK0, qtK1, qtK2, qtK3, qtK4, List.getD_cons_zero, List.getD_cons_succ, hx, Int.toNat_natCast, ne_eq, qcK, hbF, bsetF, bclrF, hg, hc0, hc1, hc2]
    refine k6 hR h hh bad (Classical.propDecidable _) hK hN hM hZ hT ?_
    intro F2 f1 f2 f3 f4 f5 f6
    obtain ⟨n1, n2, n3, n4⟩ := pNt_v (X := X) (h := h) (bad := bad)
    have n1' : pNt X h bad 97 3 = X 97 3 := by rw [n1]
    have n109 : pNt X h bad 109 = X 109 := pNt_c (by decide) (by decide) (by decide)
    have n108 : pNt X h bad 108 = X 108 := pNt_c (by decide) (by decide) (by decide)
    have n116 : pNt X h bad 116 = X 116 := pNt_c (by decide) (by decide) (by decide)
    have hpn : pNote X h bad t = pTail (pNt X h bad) h t := by unfold pNote; rw [if_neg (by omega), if_pos c]
    by_cases hTB : TB (pNt X h bad) h
    · have hpo : pNote X h bad t = pOpn (pNt X h bad) h t := by rw [hpn]; unfold pTail; exact if_pos hTB
      letI := Classical.propDecidable (TB (pNt X h bad) h)
      rw [b01_t hTB]
      have hq := hk (qup (qup (qup (qup (qup (qup F2 (hB h) 2 t) (hB h) 0 (w32 (X 116 h + 1))) (hB h) 1 0) (hB h) 3 0) (hB h) 4 0) (hB h) 5 0) (by
        refine hR.brk hh (fun c hc => by simp only [qup_c hc]; exact f1 c hc) pn0 pnc ?_
        rw [hpo]
        unfold CBk pOpn pFor
        simp only [qup_ap, if_true, if_false, Nat.reduceEqDiff, n1, n116]
        refine ⟨trivial, trivial, trivial, fun _ => Or.inl ⟨rfl, by decide⟩, fun _ => ⟨trivial, trivial⟩⟩)
      simp only [YK, c5, t5, c2, t2, cl2, tgK, lyK, rkK, wK, rfK, qRes_eq, qNon_eq, qup_ap, vup_ap, vcpy_ap, kc8_0, kc8_1, kc8_2, lc_lt, lc_gt, lc_eq, Option.toList_some, Option.toList_none, List.cons_append, List.nil_append, lay_len, lay_sz, Nat.reduceAdd, Nat.reduceSub, Nat.reduceMul, Int.reduceToNat, Int.reduceLE, Int.reduceLT, Int.reduceEq, Int.reduceAdd, Int.reduceSub, Int.reduceMul, Int.reduceNeg, Nat.reduceLeDiff, Nat.reduceLT, true_and, and_true, false_and, and_false, qcat_0, qcat_1, qcat_3, qcat_9, Nat.reduceEqDiff, if_true, if_false, ite_self, or_true, true_or, or_false, false_or, forall_const, not_true_eq_false, not_false_eq_true, false_implies, implies_true, qtK0, qtK1, qtK2, qtK3, qtK4, List.getD_cons_zero, List.getD_cons_succ, Int.toNat_natCast, ne_eq, qcK, hbF, bsetF, bclrF, hc0, hc1, hc2, f2]
      exact hq
    · have hpo : pNote X h bad t = pNt X h bad := by rw [hpn]; unfold pTail; exact if_neg hTB
      letI := Classical.propDecidable (TB (pNt X h bad) h)
      rw [b01_f hTB]
      have hq := hk F2 (by
        refine hR.brk hh f1 pn0 pnc ?_
        rw [hpo]
        unfold CBk
        rw [n1, n109, n108, n116]
        refine ⟨f2, f4, by rw [f3]; exact hbr.2.2.1, f5 hTB, f6⟩)
      simp only [YK, c5, t5, tgK, lyK, rkK, wK, rfK, qRes_eq, qNon_eq, qup_ap, vup_ap, vcpy_ap, kc8_0, kc8_1, kc8_2, lc_lt, lc_gt, lc_eq, Option.toList_some, Option.toList_none, List.cons_append, List.nil_append, lay_len, lay_sz, Nat.reduceAdd, Nat.reduceSub, Nat.reduceMul, Int.reduceToNat, Int.reduceLE, Int.reduceLT, Int.reduceEq, Int.reduceAdd, Int.reduceSub, Int.reduceMul, Int.reduceNeg, Nat.reduceLeDiff, Nat.reduceLT, true_and, and_true, false_and, and_false, qcat_0, qcat_1, qcat_3, qcat_9, Nat.reduceEqDiff, if_true, if_false, ite_self, or_true, true_or, or_false, false_or, forall_const, not_true_eq_false, not_false_eq_true, false_implies, implies_true, qtK0, qtK1, qtK2, qtK3, qtK4, List.getD_cons_zero, List.getD_cons_succ, Int.toNat_natCast, ne_eq, qcK, hbF, bsetF, bclrF, hc0, hc1, hc2]
      exact hq
  · rw [c]
    have hq := hk F (by unfold pNote; rw [if_neg (by omega), if_neg (by omega)]; exact hR)
    simp only [YK, c5, t5, cl6, tgK, lyK, rkK, wK, rfK, hr, qRes_eq, qNon_eq, qup_ap, vup_ap, vcpy_ap, kc8_0, kc8_1, kc8_2, lc_lt, lc_gt, lc_eq, Option.toList_some, Option.toList_none, List.cons_append, List.nil_append, lay_len, lay_sz, Nat.reduceAdd, Nat.reduceSub, Nat.reduceMul, Int.reduceToNat, Int.reduceLE, Int.reduceLT, Int.reduceEq, Int.reduceAdd, Int.reduceSub, Int.reduceMul, Int.reduceNeg, Nat.reduceLeDiff, Nat.reduceLT, true_and, and_true, false_and, and_false, qcat_0, qcat_1, qcat_3, qcat_9, Nat.reduceEqDiff, if_true, if_false, ite_self, or_true, true_or, or_false, false_or, forall_const, not_true_eq_false, not_false_eq_true, false_implies, implies_true, qtK0, qtK1, qtK2, qtK3, qtK4, List.getD_cons_zero, List.getD_cons_succ, hx, Int.toNat_natCast, ne_eq, qcK, hbF, bsetF, bclrF, hg, hc0, hc1, hc2]
    exact hq
  · rw [c]
    cases bad with
    | true =>
      have hpo : pNote X h true t = pOpn X h t := by unfold pNote; rw [if_pos c, if_pos rfl]
      have hq := hk (qup (qup (qup (qup (qup (qup F (hB h) 2 t) (hB h) 0 (w32 (X 116 h + 1))) (hB h) 1 0) (hB h) 3 0) (hB h) 4 0) (hB h) 5 0) (by
        refine hR.brk hh (fun c hc => by simp only [qup_c hc]) pn0 pnc ?_
        rw [hpo]
        unfold CBk pOpn pFor
        simp only [qup_ap, if_true, if_false, Nat.reduceEqDiff]
        refine ⟨trivial, trivial, trivial, fun _ => Or.inl ⟨rfl, by decide⟩, fun _ => ⟨trivial, trivial⟩⟩)
      simp only [YK, c5, t5, c2, t2, cl2, tgK, lyK, rkK, wK, rfK, hr, qRes_eq, qNon_eq, qup_ap, vup_ap, vcpy_ap, kc8_0, kc8_1, kc8_2, lc_lt, lc_gt, lc_eq, Option.toList_some, Option.toList_none, List.cons_append, List.nil_append, lay_len, lay_sz, Nat.reduceAdd, Nat.reduceSub, Nat.reduceMul, Int.reduceToNat, Int.reduceLE, Int.reduceLT, Int.reduceEq, Int.reduceAdd, Int.reduceSub, Int.reduceMul, Int.reduceNeg, Nat.reduceLeDiff, Nat.reduceLT, true_and, and_true, false_and, and_false, qcat_0, qcat_1, qcat_3, qcat_9, Nat.reduceEqDiff, if_true, if_false, ite_self, or_true, true_or, or_false, false_or, forall_const, not_true_eq_false, not_false_eq_true, false_implies, implies_true, qtK0, qtK1, qtK2, qtK3, qtK4, List.getD_cons_zero, List.getD_cons_succ, hx, Int.toNat_natCast, ne_eq, qcK, hbF, bsetF, bclrF, hg, hc0, hc1, hc2, bi_t]
      exact hq
    | false =>
      have hpo : pNote X h false t = pFor (qup X 109 h 1) h := by unfold pNote; rw [if_pos c, if_neg (by decide)]
      have hq := hk (qup (qup (qup (qup (qup F (hB h) 2 (-1)) (hB h) 1 0) (hB h) 3 0) (hB h) 4 0) (hB h) 5 0) (by
        refine hR.brk hh (fun c hc => by simp only [qup_c hc]) pn0 pnc ?_
        rw [hpo]
        unfold CBk pFor
        simp only [qup_ap, if_true, if_false, Nat.reduceEqDiff]
        refine ⟨hbr.1, trivial, by rw [if_neg (by decide)], fun _ => Or.inl ⟨rfl, by decide⟩, fun _ => ⟨trivial, trivial⟩⟩)
      simp only [YK, c5, t5, c2, t2, cl2, tgK, lyK, rkK, wK, rfK, hr, qRes_eq, qNon_eq, qup_ap, vup_ap, vcpy_ap, kc8_0, kc8_1, kc8_2, lc_lt, lc_gt, lc_eq, Option.toList_some, Option.toList_none, List.cons_append, List.nil_append, lay_len, lay_sz, Nat.reduceAdd, Nat.reduceSub, Nat.reduceMul, Int.reduceToNat, Int.reduceLE, Int.reduceLT, Int.reduceEq, Int.reduceAdd, Int.reduceSub, Int.reduceMul, Int.reduceNeg, Nat.reduceLeDiff, Nat.reduceLT, true_and, and_true, false_and, and_false, qcat_0, qcat_1, qcat_3, qcat_9, Nat.reduceEqDiff, if_true, if_false, ite_self, or_true, true_or, or_false, false_or, forall_const, not_true_eq_false, not_false_eq_true, false_implies, implies_true, qtK0, qtK1, qtK2, qtK3, qtK4, List.getD_cons_zero, List.getD_cons_succ, hx, Int.toNat_natCast, ne_eq, qcK, hbF, bsetF, bclrF, hg, hc0, hc1, hc2, bi_f]
      exact hq
theorem shg0_at (f : Nat → Int) (m : Nat) : shg f 0 m (m + 1) = f (m + 1) := by
  unfold shg
  rw [if_neg (by omega)]
theorem shu_step (G : XT) (w v : Nat) (hwv : w ≠ v) (g f : Nat → Int) (m : Nat) : qup (qup (va_up (va_up G w (shg g 0 m)) v (shg f 0 m)) w m (g (m + 1))) v m (f (m + 1)) = va_up (va_up G w (shg g 0 (m + 1))) v (shg f 0 (m + 1)) := by
  have e1 := shg_step g 0 m
  have e2 := shg_step f 0 m
  rw [Nat.zero_add] at e1 e2
  funext c j
  simp only [qup_ap, vup_ap, ← e1, ← e2]
  by_cases hc : c = v
  · have : ¬ c = w := fun h => hwv (h.symm.trans hc)
    rw [if_pos hc, if_neg this, if_pos hc, if_pos hc]
  · rw [if_neg hc, if_neg hc, if_neg hc]
    by_cases hc2 : c = w
    · rw [if_pos hc2, if_pos hc2, if_pos hc2]
    · rw [if_neg hc2, if_neg hc2, if_neg hc2]
theorem k43 {tb : qTb} {p u : Nat} {sp : Int} {C X F : XT} {L : LT} {e b : Int} {R : Option qV → qM → Prop} (hR : CR p u sp C X L e b F) (h : Nat) (hh : h < 4) (hw : 0 < (L 1 h).length) (hI : HI L h) (hk : ∀ F2, CR p u sp C X (lset (lset L 1 h ((L 1 h).eraseIdx 0)) 2 h ((L 2 h).eraseIdx 0)) e b F2 → R (some (0, (L 1 h).getD 0 0)) (LAY, F2)) : qW tb 43 (119, 1262) 0 [(3, ((hO h : Nat) : Int)), (9, 0), (9, 0)] [] (LAY, F) R := by
  have hr := Rf_k hR.rf
  have hx := hR.k
  unfold CD at hx
  have hg := hR.h hh
  have hc0 := hcK0 hh
  have hc1 := hcK1 h
  have hc2 := hcK2 h
  have q := hR.2.2.2.2.2 h hh
  have hl := q.2.2.1.2.2.2
  obtain ⟨i1, i2, i3, i4, i5⟩ := hI
  have ha := i2 _ (getD_mem hw)
  obtain ⟨a, hae⟩ : ∃ a : Nat, (L 1 h).getD 0 0 = (a : Int) := ⟨((L 1 h).getD 0 0).toNat, by omega⟩
  have e3 : F (hA h) 0 = (a : Int) := by rw [q.2.2.1.2.1 0 hw, hae]
  rw [hae] at hk
  have hloop : ∀ (n m : Nat), m + n + 1 = (L 1 h).length → qW tb 43 (119, 1262) 9 [(3, ((hO h : Nat) : Int)), (0, (a : Int)), (0, (m : Int))] [] (LAY, va_up (va_up F (hA h) (shg (F (hA h)) 0 m)) (hE h) (shg (F (hE h)) 0 m)) R := by
    intro n
    induction n with
    | zero =>
      intro m hm
      have w3 : w32 ((m : Int) + 1) = ((m + 1 : Nat) : Int) := by rw [w32_id ⟨by omega, by omega⟩]; omega
      have b4 : (((m + 1 : Nat) : Int) < ((L 1 h).length : Int)) = False := eq_false (by omega)
      have w0 : w32 (((L 1 h).length : Int) - 1) = (((L 1 h).length - 1 : Nat) : Int) := by rw [w32_id ⟨by omega, by omega⟩]; omega
      have hm2 : m = (L 1 h).length - 1 - 0 := by omega
      have hq := hk (qup (qup (va_up (va_up F (hA h) (shg (F (hA h)) 0 m)) (hE h) (shg (F (hE h)) 0 m)) (hO h) 5 (((L 1 h).length - 1 : Nat) : Int)) (hO h) 6 (bclr (F (hO h) 6) (a : Int))) (by
        refine hR.host hh ?_ (fun i g hg => by rw [lset_ne (Or.inr hg), lset_ne (Or.inr hg)]) (fun _ _ _ _ _ => rfl) (fun _ _ => rfl) ?_
        · intro c c1 c2 c3 c4 c5
          rw [qup_c c1, qup_c c1]
          funext j
          rw [vup_ap, if_neg c5, vup_ap, if_neg c4]
        · refine CH_wrk q _ _ ?_ ?_ ?_ ?_ ?_ ?_ ?_ ?_ ?_
          · intro j h5 h6
            rw [qup_ap, if_pos rfl, if_neg h6, qup_ap, if_pos rfl, if_neg h5, vup_ap, if_neg (by unfold hO hE; omega), vup_ap, if_neg (by unfold hO hA; omega)]
          · rw [qup_ap, if_pos rfl, if_neg (by decide), qup_ap, if_pos rfl, if_pos rfl, List.length_eraseIdx_of_lt hw]
          · rw [qup_c (by unfold hO hB; omega), qup_c (by unfold hO hB; omega)]; funext j; rw [vup_ap, if_neg (by unfold hE hB; omega), vup_ap, if_neg (by unfold hA hB; omega)]
          · rw [qup_c (by unfold hO hW; omega), qup_c (by unfold hO hW; omega)]; funext j; rw [vup_ap, if_neg (by unfold hE hW; omega), vup_ap, if_neg (by unfold hA hW; omega)]
          · rw [qup_c (by unfold hO hA; omega), qup_c (by unfold hO hA; omega)]
            have e : va_up (va_up F (hA h) (shg (F (hA h)) 0 m)) (hE h) (shg (F (hE h)) 0 m) (hA h) = shg (F (hA h)) 0 m := by funext j; rw [vup_ap, if_neg (by unfold hE hA; omega), vup_ap, if_pos rfl]
            rw [e, hm2]
            exact shg_er q.2.2.1.2.1 hw
          · rw [qup_c (by unfold hO hE; omega), qup_c (by unfold hO hE; omega)]
            have e : va_up (va_up F (hA h) (shg (F (hA h)) 0 m)) (hE h) (shg (F (hE h)) 0 m) (hE h) = shg (F (hE h)) 0 m := by funext j; rw [vup_ap, if_pos rfl]
            rw [e, hm2, ← hl.2]
            exact shg_er q.2.2.1.2.2.1 (by omega)
          · rw [List.length_eraseIdx_of_lt hw]; omega
          · rw [List.length_eraseIdx_of_lt hw, List.length_eraseIdx_of_lt (by omega), hl.2]
          · rw [qup_ap, if_pos rfl, if_pos rfl]
            exact held_er1 q.2.2.2.1 i4 i5 hw a (by omega) hae)
      rw [h43_9]
      simp only [YK, c43, t43, tgK, lyK, rkK, wK, rfK, hr, qRes_eq, qNon_eq, qup_ap, vup_ap, vcpy_ap, kc8_0, kc8_1, kc8_2, lc_lt, lc_gt, lc_eq, Option.toList_some, Option.toList_none, List.cons_append, List.nil_append, lay_len, lay_sz, Nat.reduceAdd, Nat.reduceSub, Nat.reduceMul, Int.reduceToNat, Int.reduceLE, Int.reduceLT, Int.reduceEq, Int.reduceAdd, Int.reduceSub, Int.reduceMul, Int.reduceNeg, Nat.reduceLeDiff, Nat.reduceLT, true_and, and_true, false_and, and_false, qcat_0, qcat_1, qcat_3, qcat_9, Nat.reduceEqDiff, if_true, if_false, ite_self, or_true, true_or, or_false, false_or, forall_const, not_true_eq_false, not_false_eq_true, false_implies, implies_true, qtK0, qtK1, qtK2, qtK3, qtK4, List.getD_cons_zero, List.getD_cons_succ, hx, Int.toNat_natCast, ne_eq, qcK, hbF, bsetF, bclrF, hg, hc0, hc1, hc2, w3, b4, w0]
      exact hq
    | succ n ih =>
      intro m hm
      have w3 : w32 ((m : Int) + 1) = ((m + 1 : Nat) : Int) := by rw [w32_id ⟨by omega, by omega⟩]; omega
      have b4 : (((m + 1 : Nat) : Int) < ((L 1 h).length : Int)) = True := eq_true (by omega)
      have b5 : (0 ≤ (m : Int) ∧ (m : Int) < 3) = True := eq_true (by omega)
      have b6 : (0 ≤ ((m + 1 : Nat) : Int) ∧ ((m + 1 : Nat) : Int) < 3) = True := eq_true (by omega)
      have e5 := shg0_at (F (hA h)) m
      have e6 := shg0_at (F (hE h)) m
      have hi := ih (m + 1) (by omega)
      rw [← shu_step F (hA h) (hE h) (by unfold hA hE; omega)] at hi
      rw [h43_9]
      simp only [YK, c43, t43, tgK, lyK, rkK, wK, rfK, hr, qRes_eq, qNon_eq, qup_ap, vup_ap, vcpy_ap, kc8_0, kc8_1, kc8_2, lc_lt, lc_gt, lc_eq, Option.toList_some, Option.toList_none, List.cons_append, List.nil_append, lay_len, lay_sz, Nat.reduceAdd, Nat.reduceSub, Nat.reduceMul, Int.reduceToNat, Int.reduceLE, Int.reduceLT, Int.reduceEq, Int.reduceAdd, Int.reduceSub, Int.reduceMul, Int.reduceNeg, Nat.reduceLeDiff, Nat.reduceLT, true_and, and_true, false_and, and_false, qcat_0, qcat_1, qcat_3, qcat_9, Nat.reduceEqDiff, if_true, if_false, ite_self, or_true, true_or, or_false, false_or, forall_const, not_true_eq_false, not_false_eq_true, false_implies, implies_true, qtK0, qtK1, qtK2, qtK3, qtK4, List.getD_cons_zero, List.getD_cons_succ, hx, Int.toNat_natCast, ne_eq, qcK, hbF, bsetF, bclrF, hg, hc0, hc1, hc2, w3, b4, b5, b6, e5, e6]
      exact hi
  simp only [YK, c43, t43, tgK, lyK, rkK, wK, rfK, hr, qRes_eq, qNon_eq, qup_ap, vup_ap, vcpy_ap, kc8_0, kc8_1, kc8_2, lc_lt, lc_gt, lc_eq, Option.toList_some, Option.toList_none, List.cons_append, List.nil_append, lay_len, lay_sz, Nat.reduceAdd, Nat.reduceSub, Nat.reduceMul, Int.reduceToNat, Int.reduceLE, Int.reduceLT, Int.reduceEq, Int.reduceAdd, Int.reduceSub, Int.reduceMul, Int.reduceNeg, Nat.reduceLeDiff, Nat.reduceLT, true_and, and_true, false_and, and_false, qcat_0, qcat_1, qcat_3, qcat_9, Nat.reduceEqDiff, if_true, if_false, ite_self, or_true, true_or, or_false, false_or, forall_const, not_true_eq_false, not_false_eq_true, false_implies, implies_true, qtK0, qtK1, qtK2, qtK3, qtK4, List.getD_cons_zero, List.getD_cons_succ, hx, Int.toNat_natCast, ne_eq, qcK, hbF, bsetF, bclrF, hg, hc0, hc1, hc2, e3]
  have hl0 := hloop ((L 1 h).length - 1) 0 (by omega)
  rw [shg_zero, shg_zero] at hl0
  have e9 : va_up (va_up F (hA h) (F (hA h))) (hE h) (F (hE h)) = F := by
    funext c j
    rw [vup_ap]
    by_cases hc : c = hE h
    · rw [if_pos hc, hc]
    · rw [if_neg hc, vup_ap]
      by_cases hc2 : c = hA h
      · rw [if_pos hc2, hc2]
      · rw [if_neg hc2]
  rw [e9] at hl0
  exact hl0
