/-! the reference: all works that end at a tick -/
def pPop (S : XT × LT) (h : Nat) : XT × LT := (S.1, lset (lset S.2 1 h ((S.2 1 h).eraseIdx 0)) 2 h ((S.2 2 h).eraseIdx 0))
def endsNow (L : LT) (h : Nat) (t : Int) : Prop := 0 < (L 2 h).length ∧ (L 2 h).getD 0 0 = t
abbrev endsB (L : LT) (h : Nat) (t : Int) : Bool := decide (0 < (L 2 h).length) && decide ((L 2 h).getD 0 0 = t)
def pEndsH (n ns h : Nat) (t : Int) : Nat → XT × LT → XT × LT
  | 0, S => S
  | f + 1, S => if endsB S.2 h t = true then pEndsH n ns h t f (pEndOne n ns (pPop S h) h ((S.2 1 h).getD 0 0) t) else S
def shg (f : Nat → Int) (b e : Nat) : Nat → Int := fun j => if b ≤ j ∧ j < b + e then f (j + 1) else f j
theorem shg_zero (f : Nat → Int) (b : Nat) : shg f b 0 = f := by
  funext j
  unfold shg
  rw [if_neg (by omega)]
theorem shg_at (f : Nat → Int) (b e : Nat) : shg f b e (b + e + 1) = f (b + e + 1) := by
  unfold shg
  rw [if_neg (by omega)]
theorem shg_step (f : Nat → Int) (b e : Nat) : (fun j => if j = b + e then f (b + e + 1) else shg f b e j) = shg f b (e + 1) := by
  funext j
  unfold shg
  by_cases hj : j = b + e
  · rw [if_pos hj, if_pos (by omega), hj]
  · rw [if_neg hj]
    by_cases h2 : b ≤ j ∧ j < b + e
    · rw [if_pos h2, if_pos (by omega)]
    · rw [if_neg h2, if_neg (by omega)]
def shw (F : XT) (h e : Nat) : XT := va_up (va_up F 105 (shg (F 105) (3 * h) e)) 106 (shg (F 106) (3 * h) e)
theorem shw_zero (F : XT) (h : Nat) : shw F h 0 = F := by
  unfold shw
  rw [shg_zero, shg_zero]
  funext c j
  rw [vup_ap, vup_ap]
  by_cases h6 : c = 106
  · rw [if_pos h6, h6]
  · rw [if_neg h6]
    by_cases h5 : c = 105
    · rw [if_pos h5, h5]
    · rw [if_neg h5]
theorem shw_step (F : XT) (h e : Nat) : qup (qup (shw F h e) 105 (3 * h + e) (F 105 (3 * h + e + 1))) 106 (3 * h + e) (F 106 (3 * h + e + 1)) = shw F h (e + 1) := by
  unfold shw
  rw [← shg_step (F 105), ← shg_step (F 106)]
  funext c j
  rw [qup_ap, qup_ap, vup_ap, vup_ap, vup_ap, vup_ap]
  by_cases h6 : c = 106
  · have h5 : ¬ c = 105 := by omega
    simp only [if_pos h6, if_neg h5]
  · by_cases h5 : c = 105
    · simp only [if_pos h5, if_neg h6]
    · simp only [if_neg h5, if_neg h6]
theorem RR_pop {C X F : XT} {L : LT} (hR : RR C X L F) (h : Nat) (hh : h < 4) (hl : 0 < (L 1 h).length) : RR C X (lset (lset L 1 h ((L 1 h).eraseIdx 0)) 2 h ((L 2 h).eraseIdx 0)) (shw (qup F 107 h (((L 1 h).length - 1 : Nat) : Int)) h ((L 1 h).length - 1)) := by
  obtain ⟨h1, h2, h3, h4⟩ := hR
  have q8' := (h4 h hh).2.2.2.2.2.2.2
  have hlen1 : ((L 1 h).eraseIdx 0).length = (L 1 h).length - 1 := List.length_eraseIdx_of_lt hl
  have hlen2 : ((L 2 h).eraseIdx 0).length = (L 1 h).length - 1 := by rw [List.length_eraseIdx_of_lt (by omega), q8']
  refine ⟨Rf_vup (Rf_vup (h1.upA _ _ (by decide)) _ (by decide)) _ (by decide), ?_, ?_, ?_⟩
  · intro c hc
    funext j
    unfold shw
    rw [vup_ap, if_neg (by omega), vup_ap, if_neg (by omega), qup_ap, if_neg (by omega), h2 c hc]
  · intro c hc
    funext j
    unfold nl at hc
    unfold shw
    rw [vup_ap, if_neg (by omega), vup_ap, if_neg (by omega), qup_ap, if_neg (by omega), h3 c hc]
  · intro g hg
    obtain ⟨q1, q2, q3, q4, q5, q6, q7, q8⟩ := h4 g hg
    have e3 : shw (qup F 107 h (((L 1 h).length - 1 : Nat) : Int)) h ((L 1 h).length - 1) 103 = F 103 := rfl
    have e4 : shw (qup F 107 h (((L 1 h).length - 1 : Nat) : Int)) h ((L 1 h).length - 1) 104 = F 104 := rfl
    have e5 : shw (qup F 107 h (((L 1 h).length - 1 : Nat) : Int)) h ((L 1 h).length - 1) 105 = shg (F 105) (3 * h) ((L 1 h).length - 1) := rfl
    have e6 : shw (qup F 107 h (((L 1 h).length - 1 : Nat) : Int)) h ((L 1 h).length - 1) 106 = shg (F 106) (3 * h) ((L 1 h).length - 1) := rfl
    have e7 : ∀ j, shw (qup F 107 h (((L 1 h).length - 1 : Nat) : Int)) h ((L 1 h).length - 1) 107 j = if j = h then (((L 1 h).length - 1 : Nat) : Int) else F 107 j := by
      intro j
      show qup F 107 h _ 107 j = _
      rw [qup_ap, if_pos rfl]
    have hq7 := (h4 h hh).2.2.2.2.2.2.1
    by_cases hgh : g = h
    · subst hgh
      have l1 : lset (lset L 1 g ((L 1 g).eraseIdx 0)) 2 g ((L 2 g).eraseIdx 0) 1 g = (L 1 g).eraseIdx 0 := by rw [lset_ne (Or.inl (by decide)), lset_self]
      have l0 : lset (lset L 1 g ((L 1 g).eraseIdx 0)) 2 g ((L 2 g).eraseIdx 0) 0 g = L 0 g := by rw [lset_ne (Or.inl (by decide)), lset_ne (Or.inl (by decide))]
      have l2 : lset (lset L 1 g ((L 1 g).eraseIdx 0)) 2 g ((L 2 g).eraseIdx 0) 2 g = (L 2 g).eraseIdx 0 := by rw [lset_self]
      unfold RRh
      rw [l0, l1, l2]
      refine ⟨?_, ?_, ?_, ?_, ?_, ?_, ?_, ?_⟩
      · rw [e3]; exact q1
      · rw [e4]; exact q2
      · intro j hj
        rw [hlen1] at hj
        rw [e5, getD_erase, if_neg (by omega)]
        unfold shg
        rw [if_pos (by omega)]
        exact q3 (j + 1) (by omega)
      · intro j hj
        rw [hlen2] at hj
        rw [e6, getD_erase, if_neg (by omega)]
        unfold shg
        rw [if_pos (by omega)]
        exact q4 (j + 1) (by omega)
      · rw [e7, if_pos rfl, hlen1]
      · exact q6
      · rw [hlen1]; omega
      · rw [hlen1, hlen2]
    · have l1 : lset (lset L 1 h ((L 1 h).eraseIdx 0)) 2 h ((L 2 h).eraseIdx 0) 1 g = L 1 g := by rw [lset_ne (Or.inr hgh), lset_ne (Or.inr hgh)]
      have l0 : lset (lset L 1 h ((L 1 h).eraseIdx 0)) 2 h ((L 2 h).eraseIdx 0) 0 g = L 0 g := by rw [lset_ne (Or.inr hgh), lset_ne (Or.inr hgh)]
      have l2 : lset (lset L 1 h ((L 1 h).eraseIdx 0)) 2 h ((L 2 h).eraseIdx 0) 2 g = L 2 g := by rw [lset_ne (Or.inr hgh), lset_ne (Or.inr hgh)]
      unfold RRh
      rw [l0, l1, l2]
      refine ⟨?_, ?_, ?_, ?_, ?_, q6, q7, q8⟩
      · rw [e3]; exact q1
      · rw [e4]; exact q2
      · intro j hj
        rw [e5]
        unfold shg
        rw [if_neg (by omega)]
        exact q3 j hj
      · intro j hj
        rw [e6]
        unfold shg
        rw [if_neg (by omega)]
        exact q4 j hj
      · rw [e7, if_neg hgh]; exact q5
/-- the works' ends of a host are in order, none before t -/
def Srt (t : Int) (l : List Int) : Prop := ∀ j : Nat, j < l.length → l.getD 0 0 ≤ l.getD j 0 ∧ t ≤ l.getD j 0
theorem r142w {tb : qTb} {C X F : XT} {L : LT} {R : Option qV → qM → Prop} (hR : RR C X L F) (h : Nat) (hh : h < 4) (t : Int) (v4 v5 : qV) (hk : qW tb 142 (119, 1262) 2 [(3, 69), (0, t), (0, ((h + 1 : Nat) : Int)), (0, ((L 1 h).length : Int)), v4, v5] [] (LAY, F) R) : ∀ (n k : Nat), k + n = (L 1 h).length → (∀ j : Nat, k ≤ j → j < (L 1 h).length → ¬ (L 2 h).getD j 0 = t) → qW tb 142 (119, 1262) 12 [(3, 69), (0, t), (0, (h : Int)), (0, (k : Int)), v4, v5] [] (LAY, F) R := by
  have hr := Rf_k hR.rf
  have hx := hR.k
  obtain ⟨q1, q2, q3, q4, q5, q6, q7, q8⟩ := hR.2.2.2 h hh
  have b1 : (0 ≤ (h : Int) ∧ (h : Int) < 4) = True := eq_true (by omega)
  intro n
  induction n with
  | zero =>
    intro k he hno
    have b2 : ((k : Int) < ((L 1 h).length : Int)) = False := eq_false (by omega)
    have w1 : w32 ((h : Int) + 1) = ((h + 1 : Nat) : Int) := by rw [w32_id ⟨by omega, by omega⟩]; omega
    have e : k = (L 1 h).length := by omega
    rw [h142_12]
    simp only [YK, c142, t142, tgK, lyK, rkK, wK, rfK, hr, qRes_eq, qNon_eq, qup_ap, vup_ap, vcpy_ap, kc8_0, kc8_1, kc8_2, lc_lt, lc_gt, lc_eq, Option.toList_some, Option.toList_none, List.cons_append, List.nil_append, lay_len, lay_sz, Nat.reduceAdd, Nat.reduceSub, Nat.reduceMul, Int.reduceToNat, Int.reduceLE, Int.reduceLT, Int.reduceEq, Int.reduceAdd, Int.reduceSub, Int.reduceMul, Int.reduceNeg, Nat.reduceLeDiff, Nat.reduceLT, true_and, and_true, false_and, and_false, qcat_0, qcat_1, qcat_3, qcat_9, Nat.reduceEqDiff, if_true, if_false, ite_self, or_true, true_or, or_false, false_or, forall_const, not_true_eq_false, not_false_eq_true, false_implies, implies_true, qtK0, qtK1, qtK2, qtK3, qtK4, List.getD_cons_zero, List.getD_cons_succ, hx, Int.toNat_natCast, ne_eq, qcK, b1, b2, q5, w1]
    rw [e]
    exact hk
  | succ n ih =>
    intro k he hno
    have b2 : ((k : Int) < ((L 1 h).length : Int)) = True := eq_true (by omega)
    have w2 : w32 (3 * (h : Int)) = ((3 * h : Nat) : Int) := by rw [w32_id ⟨by omega, by omega⟩]; omega
    have w3 : w32 (((3 * h : Nat) : Int) + (k : Int)) = ((3 * h + k : Nat) : Int) := by rw [w32_id ⟨by omega, by omega⟩]; omega
    have w4 : w32 ((k : Int) + 1) = ((k + 1 : Nat) : Int) := by rw [w32_id ⟨by omega, by omega⟩]; omega
    have b3 : (0 ≤ ((3 * h + k : Nat) : Int) ∧ ((3 * h + k : Nat) : Int) < 12) = True := eq_true (by omega)
    have e3 : F 106 (3 * h + k) = (L 2 h).getD k 0 := q4 k (by omega)
    have c1 := hno k (Nat.le_refl _) (by omega)
    rw [h142_12]
    simp only [YK, c142, t142, tgK, lyK, rkK, wK, rfK, hr, qRes_eq, qNon_eq, qup_ap, vup_ap, vcpy_ap, kc8_0, kc8_1, kc8_2, lc_lt, lc_gt, lc_eq, Option.toList_some, Option.toList_none, List.cons_append, List.nil_append, lay_len, lay_sz, Nat.reduceAdd, Nat.reduceSub, Nat.reduceMul, Int.reduceToNat, Int.reduceLE, Int.reduceLT, Int.reduceEq, Int.reduceAdd, Int.reduceSub, Int.reduceMul, Int.reduceNeg, Nat.reduceLeDiff, Nat.reduceLT, true_and, and_true, false_and, and_false, qcat_0, qcat_1, qcat_3, qcat_9, Nat.reduceEqDiff, if_true, if_false, ite_self, or_true, true_or, or_false, false_or, forall_const, not_true_eq_false, not_false_eq_true, false_implies, implies_true, qtK0, qtK1, qtK2, qtK3, qtK4, List.getD_cons_zero, List.getD_cons_succ, hx, Int.toNat_natCast, ne_eq, qcK, b1, b2, q5, w2, w3, w4, b3, e3, c1]
    exact ih (k + 1) (by omega) (fun j h1 h2 => hno j (by omega) h2)
theorem r142h {tb : qTb} {C : XT} {R : Option qV → qM → Prop} (n ns h : Nat) (hh : h < 4) (t : Int) (P : XT × LT → Prop) (hP : ∀ S, P S → Srt t (S.2 2 h) ∧ (endsB S.2 h t = true → EndC n ns S.1 h ((S.2 1 h).getD 0 0) t ∧ P (pEndOne n ns (pPop S h) h ((S.2 1 h).getD 0 0) t) ∧ ((pEndOne n ns (pPop S h) h ((S.2 1 h).getD 0 0) t).2 1 h).length < (S.2 1 h).length))
    (v4 v5 : qV) : ∀ (f : Nat) (S : XT × LT) (F : XT), RR C S.1 S.2 F → P S → (S.2 1 h).length ≤ f → (∀ F2 v3 v4 v5, RR C (pEndsH n ns h t f S).1 (pEndsH n ns h t f S).2 F2 → qW tb 142 (119, 1262) 2 [(3, 69), (0, t), (0, ((h + 1 : Nat) : Int)), (0, v3), v4, v5] [] (LAY, F2) R) → ∀ v4 v5, qW tb 142 (119, 1262) 12 [(3, 69), (0, t), (0, (h : Int)), (0, 0), v4, v5] [] (LAY, F) R := by
  intro f
  induction f with
  | zero =>
    intro S F hR hPS hf hk v4 v5
    have hl : (S.2 1 h).length = 0 := by omega
    exact r142w hR h hh t v4 v5 (hk F _ v4 v5 hR) 0 0 (by omega) (fun j h1 h2 => absurd h2 (by omega))
  | succ f ih =>
    intro S F hR hPS hf hk v4 v5
    obtain ⟨hs, hE⟩ := hP S hPS
    have q8 := (hR.2.2.2 h hh).2.2.2.2.2.2.2
    unfold pEndsH at hk
    by_cases hc : endsB S.2 h t = true
    · rw [if_pos hc] at hk
      have hc2 := hc
      simp only [endsB, Bool.and_eq_true, decide_eq_true_eq] at hc2
      obtain ⟨hEC, hPn, hlt⟩ := hE hc
      have hr := Rf_k hR.rf
      have hx := hR.k
      obtain ⟨q1, q2, q3, q4, q5, q6, q7, q8⟩ := hR.2.2.2 h hh
      have hl0 : 0 < (S.2 1 h).length := by omega
      have b1 : (0 ≤ (h : Int) ∧ (h : Int) < 4) = True := eq_true (by omega)
      have b2 : (0 < ((S.2 1 h).length : Int)) = True := eq_true (by omega)
      have w2 : w32 (3 * (h : Int)) = ((3 * h : Nat) : Int) := by rw [w32_id ⟨by omega, by omega⟩]; omega
      have w3 : w32 (((3 * h : Nat) : Int) + 0) = ((3 * h + 0 : Nat) : Int) := by rw [w32_id ⟨by omega, by omega⟩]; omega
      have b3 : (0 ≤ ((3 * h + 0 : Nat) : Int) ∧ ((3 * h + 0 : Nat) : Int) < 12) = True := eq_true (by omega)
      have e3 : F 106 (3 * h + 0) = (S.2 2 h).getD 0 0 := q4 0 (by omega)
      have e4 : F 105 (3 * h + 0) = (S.2 1 h).getD 0 0 := q3 0 (by omega)
      have c1 : (S.2 2 h).getD 0 0 = t := hc2.2
      have w5 : w32 (((S.2 1 h).length : Int) - 1) = (((S.2 1 h).length - 1 : Nat) : Int) := by rw [w32_id ⟨by omega, by omega⟩]; omega
      have hloop : ∀ (m e : Nat), e + m = (S.2 1 h).length - 1 → qW tb 142 (119, 1262) 61 [(3, 69), (0, t), (0, (h : Int)), (0, 0), (0, (S.2 1 h).getD 0 0), (0, (e : Int))] [] (LAY, shw (qup F 107 h (((S.2 1 h).length - 1 : Nat) : Int)) h e) R := by
        intro m
        induction m with
        | zero =>
          intro e he
          have b4 : ((e : Int) < (((S.2 1 h).length - 1 : Nat) : Int)) = False := eq_false (by omega)
          have hpop := RR_pop hR h hh hl0
          have ee : e = (S.2 1 h).length - 1 := by omega
          rw [h142_61]
          rw [← ee] at hpop b4
          rw [← ee]
          unfold shw at hpop ⊢
          simp only [YK, c142, t142, cl141, tgK, lyK, rkK, wK, rfK, hr, qRes_eq, qNon_eq, qup_ap, vup_ap, vcpy_ap, kc8_0, kc8_1, kc8_2, lc_lt, lc_gt, lc_eq, Option.toList_some, Option.toList_none, List.cons_append, List.nil_append, lay_len, lay_sz, Nat.reduceAdd, Nat.reduceSub, Nat.reduceMul, Int.reduceToNat, Int.reduceLE, Int.reduceLT, Int.reduceEq, Int.reduceAdd, Int.reduceSub, Int.reduceMul, Int.reduceNeg, Nat.reduceLeDiff, Nat.reduceLT, true_and, and_true, false_and, and_false, qcat_0, qcat_1, qcat_3, qcat_9, Nat.reduceEqDiff, if_true, if_false, ite_self, or_true, true_or, or_false, false_or, forall_const, not_true_eq_false, not_false_eq_true, false_implies, implies_true, qtK0, qtK1, qtK2, qtK3, qtK4, List.getD_cons_zero, List.getD_cons_succ, hx, Int.toNat_natCast, ne_eq, qcK, b1, b4]
          refine r141 hpop n ns h hh _ t hEC ?_
          intro F2 hF2
          have := ih (pEndOne n ns (pPop S h) h ((S.2 1 h).getD 0 0) t) F2 hF2 hPn (by omega) hk (0, (S.2 1 h).getD 0 0) (0, (e : Int))
          simp only [YK, c142, t142, tgK, lyK, rkK, wK, rfK, qRes_eq, qNon_eq, qup_ap, vup_ap, vcpy_ap, kc8_0, kc8_1, kc8_2, lc_lt, lc_gt, lc_eq, Option.toList_some, Option.toList_none, List.cons_append, List.nil_append, lay_len, lay_sz, Nat.reduceAdd, Nat.reduceSub, Nat.reduceMul, Int.reduceToNat, Int.reduceLE, Int.reduceLT, Int.reduceEq, Int.reduceAdd, Int.reduceSub, Int.reduceMul, Int.reduceNeg, Nat.reduceLeDiff, Nat.reduceLT, true_and, and_true, false_and, and_false, qcat_0, qcat_1, qcat_3, qcat_9, Nat.reduceEqDiff, if_true, if_false, ite_self, or_true, true_or, or_false, false_or, forall_const, not_true_eq_false, not_false_eq_true, false_implies, implies_true, qtK0, qtK1, qtK2, qtK3, qtK4, List.getD_cons_zero, List.getD_cons_succ, Int.toNat_natCast, ne_eq, qcK]
          exact this
        | succ m ihm =>
          intro e he
          have b4 : ((e : Int) < (((S.2 1 h).length - 1 : Nat) : Int)) = True := eq_true (by omega)
          have x3 : w32 (((3 * h : Nat) : Int) + (e : Int)) = ((3 * h + e : Nat) : Int) := by rw [w32_id ⟨by omega, by omega⟩]; omega
          have x4 : w32 (((3 * h + e : Nat) : Int) + 1) = ((3 * h + e + 1 : Nat) : Int) := by rw [w32_id ⟨by omega, by omega⟩]; omega
          have x5 : w32 ((e : Int) + 1) = ((e + 1 : Nat) : Int) := by rw [w32_id ⟨by omega, by omega⟩]; omega
          have b5 : (0 ≤ ((3 * h + e : Nat) : Int) ∧ ((3 * h + e : Nat) : Int) < 12) = True := eq_true (by omega)
          have b6 : (0 ≤ ((3 * h + e + 1 : Nat) : Int) ∧ ((3 * h + e + 1 : Nat) : Int) < 12) = True := eq_true (by omega)
          have hi := ihm (e + 1) (by omega)
          rw [← shw_step] at hi
          rw [h142_61]
          unfold shw at hi ⊢
          simp only [YK, c142, t142, tgK, lyK, rkK, wK, rfK, hr, qRes_eq, qNon_eq, qup_ap, vup_ap, vcpy_ap, kc8_0, kc8_1, kc8_2, lc_lt, lc_gt, lc_eq, Option.toList_some, Option.toList_none, List.cons_append, List.nil_append, lay_len, lay_sz, Nat.reduceAdd, Nat.reduceSub, Nat.reduceMul, Int.reduceToNat, Int.reduceLE, Int.reduceLT, Int.reduceEq, Int.reduceAdd, Int.reduceSub, Int.reduceMul, Int.reduceNeg, Nat.reduceLeDiff, Nat.reduceLT, true_and, and_true, false_and, and_false, qcat_0, qcat_1, qcat_3, qcat_9, Nat.reduceEqDiff, if_true, if_false, ite_self, or_true, true_or, or_false, false_or, forall_const, not_true_eq_false, not_false_eq_true, false_implies, implies_true, qtK0, qtK1, qtK2, qtK3, qtK4, List.getD_cons_zero, List.getD_cons_succ, hx, Int.toNat_natCast, ne_eq, qcK, b1, b4, b5, b6, w2, x3, x4, x5, shg_at]
          simp only [qup_ap, Nat.reduceEqDiff, if_false] at hi
          exact hi
      have hl := hloop ((S.2 1 h).length - 1) 0 (by omega)
      rw [shw_zero] at hl
      rw [h142_12]
      simp only [YK, c142, t142, tgK, lyK, rkK, wK, rfK, hr, qRes_eq, qNon_eq, qup_ap, vup_ap, vcpy_ap, kc8_0, kc8_1, kc8_2, lc_lt, lc_gt, lc_eq, Option.toList_some, Option.toList_none, List.cons_append, List.nil_append, lay_len, lay_sz, Nat.reduceAdd, Nat.reduceSub, Nat.reduceMul, Int.reduceToNat, Int.reduceLE, Int.reduceLT, Int.reduceEq, Int.reduceAdd, Int.reduceSub, Int.reduceMul, Int.reduceNeg, Nat.reduceLeDiff, Nat.reduceLT, true_and, and_true, false_and, and_false, qcat_0, qcat_1, qcat_3, qcat_9, Nat.reduceEqDiff, if_true, if_false, ite_self, or_true, true_or, or_false, false_or, forall_const, not_true_eq_false, not_false_eq_true, false_implies, implies_true, qtK0, qtK1, qtK2, qtK3, qtK4, List.getD_cons_zero, List.getD_cons_succ, hx, Int.toNat_natCast, ne_eq, qcK, b1, b2, b3, w2, w3, w5, e3, e4, c1, q5]
      exact hl
    · rw [if_neg hc] at hk
      simp only [endsB, Bool.and_eq_true, decide_eq_true_eq] at hc
      refine r142w hR h hh t v4 v5 (hk F _ v4 v5 hR) (S.2 1 h).length 0 (by omega) ?_
      intro j h1 h2 h3
      have z := hs j (by omega)
      have z0 := hs 0 (by omega)
      exact hc ⟨by omega, by omega⟩
