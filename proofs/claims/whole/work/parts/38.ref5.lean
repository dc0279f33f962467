/-! the reference: a copy is sent -/
/-- the host of the fewest copies, the first of these, gone through from the last (k of n hosts are looked at) -/
def pickD (X : XT) (L : LT) (a t : Int) (n : Nat) : Nat → Int
  | 0 => -9
  | k + 1 => if pMay X L (n - 1 - k) a t ∧ (pickD X L a t n k = -9 ∨ cps L (n - 1 - k) ≤ cps L (pickD X L a t n k).toNat) then ((n - 1 - k : Nat) : Int) else pickD X L a t n k
theorem pickD_r (X : XT) (L : LT) (a t : Int) (n : Nat) : ∀ k : Nat, k ≤ n → pickD X L a t n k = -9 ∨ (0 ≤ pickD X L a t n k ∧ pickD X L a t n k < (n : Int)) := by
  intro k
  induction k with
  | zero => intro _; exact Or.inl rfl
  | succ k ih =>
    intro hk
    unfold pickD
    split
    · right; omega
    · exact ih (by omega)
def pSend (n : Nat) (S : XT × LT) (a t : Int) : XT × LT :=
  if pickD S.1 S.2 a t n n = -9 then (qup (qup S.1 69 64 (w32 (S.1 69 64 + 1))) 69 67 (w32 (S.1 69 67 + 1)), S.2)
  else if w32 (w32 (S.1 73 (pickD S.1 S.2 a t n n).toNat + S.1 71 (pickD S.1 S.2 a t n n).toNat) - ((S.2 1 (pickD S.1 S.2 a t n n).toNat).length : Int)) < ((S.2 0 (pickD S.1 S.2 a t n n).toNat).length : Int) + 1 then
    pShed (qup S.1 69 64 (w32 (S.1 69 64 + 1)), lset S.2 0 (pickD S.1 S.2 a t n n).toNat (S.2 0 (pickD S.1 S.2 a t n n).toNat ++ [a])) (pickD S.1 S.2 a t n n).toNat
  else (qup S.1 69 64 (w32 (S.1 69 64 + 1)), lset S.2 0 (pickD S.1 S.2 a t n n).toNat (S.2 0 (pickD S.1 S.2 a t n n).toNat ++ [a]))
theorem RR_app {C X F : XT} {L : LT} (hR : RR C X L F) (h : Nat) (hh : h < 4) (a : Int) (hl : (L 0 h).length < 16) : RR C X (lset L 0 h (L 0 h ++ [a])) (qup (qup F 103 (16 * h + (L 0 h).length) a) 104 h (((L 0 h).length + 1 : Nat) : Int)) := by
  obtain ⟨h1, h2, h3, h4⟩ := hR
  refine ⟨(h1.upA _ _ (by decide)).upA _ _ (by decide), ?_, ?_, ?_⟩
  · intro c hc
    rw [qup_c (by omega), qup_c (by omega)]
    exact h2 c hc
  · intro c hc
    unfold nl at hc
    rw [qup_c (by omega), qup_c (by omega)]
    exact h3 c hc
  · intro g hg
    obtain ⟨q1, q2, q3, q4, q5, q6, q7, q8⟩ := h4 g hg
    have hq6 := (h4 h hh).2.2.2.2.2.1
    have e3 : ∀ j, (qup (qup F 103 (16 * h + (L 0 h).length) a) 104 h (((L 0 h).length + 1 : Nat) : Int)) 103 j = if j = 16 * h + (L 0 h).length then a else F 103 j := by
      intro j
      rw [qup_c (by decide), qup_ap, if_pos rfl]
    have e4 : ∀ j, (qup (qup F 103 (16 * h + (L 0 h).length) a) 104 h (((L 0 h).length + 1 : Nat) : Int)) 104 j = if j = h then (((L 0 h).length + 1 : Nat) : Int) else F 104 j := by
      intro j
      rw [qup_ap, if_pos rfl]
      by_cases hj : j = h
      · rw [if_pos hj, if_pos hj]
      · rw [if_neg hj, if_neg hj, qup_c (by decide)]
    have e5 : (qup (qup F 103 (16 * h + (L 0 h).length) a) 104 h (((L 0 h).length + 1 : Nat) : Int)) 105 = F 105 := by rw [qup_c (by decide), qup_c (by decide)]
    have e6 : (qup (qup F 103 (16 * h + (L 0 h).length) a) 104 h (((L 0 h).length + 1 : Nat) : Int)) 106 = F 106 := by rw [qup_c (by decide), qup_c (by decide)]
    have e7 : (qup (qup F 103 (16 * h + (L 0 h).length) a) 104 h (((L 0 h).length + 1 : Nat) : Int)) 107 = F 107 := by rw [qup_c (by decide), qup_c (by decide)]
    by_cases hgh : g = h
    · subst hgh
      refine ⟨?_, ?_, ?_, ?_, ?_, ?_, ?_, ?_⟩
      · intro j hj
        rw [lset_self] at hj ⊢
        rw [List.length_append, List.length_singleton] at hj
        rw [e3]
        by_cases hjl : j = (L 0 g).length
        · rw [if_pos (by omega), List.getD_eq_getElem?_getD, List.getElem?_append_right (by omega), hjl, Nat.sub_self]
          rfl
        · rw [if_neg (by omega), q1 j (by omega), List.getD_eq_getElem?_getD, List.getD_eq_getElem?_getD, List.getElem?_append_left (by omega)]
      · rw [e4, if_pos rfl, lset_self, List.length_append, List.length_singleton]
      · rw [e5, lset_ne (Or.inl (by decide))]; exact q3
      · rw [e6, lset_ne (Or.inl (by decide))]; exact q4
      · rw [e7, lset_ne (Or.inl (by decide))]; exact q5
      · rw [lset_self, List.length_append, List.length_singleton]; omega
      · rw [lset_ne (Or.inl (by decide))]; exact q7
      · rw [lset_ne (Or.inl (by decide)), lset_ne (Or.inl (by decide))]; exact q8
    · refine ⟨?_, ?_, ?_, ?_, ?_, ?_, ?_, ?_⟩
      · intro j hj
        rw [lset_ne (Or.inr hgh)] at hj ⊢
        rw [e3, if_neg (by omega)]
        exact q1 j hj
      · rw [e4, if_neg hgh, lset_ne (Or.inr hgh)]; exact q2
      · rw [e5, lset_ne (Or.inl (by decide))]; exact q3
      · rw [e6, lset_ne (Or.inl (by decide))]; exact q4
      · rw [e7, lset_ne (Or.inl (by decide))]; exact q5
      · rw [lset_ne (Or.inr hgh)]; exact q6
      · rw [lset_ne (Or.inl (by decide))]; exact q7
      · rw [lset_ne (Or.inl (by decide)), lset_ne (Or.inl (by decide))]; exact q8
theorem pMay_X {X Y : XT} {L : LT} {h : Nat} {a t : Int} (h1 : X 97 = Y 97) (h2 : X 108 = Y 108) (h3 : X 109 = Y 109) : pMay X L h a t ↔ pMay Y L h a t := by
  unfold pMay pBrk
  rw [h1, h2, h3]
theorem pickD_X {X Y : XT} {L : LT} {a t : Int} {n : Nat} (h1 : X 97 = Y 97) (h2 : X 108 = Y 108) (h3 : X 109 = Y 109) : ∀ k, pickD X L a t n k = pickD Y L a t n k := by
  intro k
  induction k with
  | zero => rfl
  | succ k ih =>
    unfold pickD
    rw [ih]
    have e := pMay_X (L := L) (h := n - 1 - k) (a := a) (t := t) h1 h2 h3
    by_cases hc : pMay X L (n - 1 - k) a t ∧ (pickD Y L a t n k = -9 ∨ cps L (n - 1 - k) ≤ cps L (pickD Y L a t n k).toNat)
    · rw [if_pos hc, if_pos ⟨e.mp hc.1, hc.2⟩]
    · rw [if_neg hc, if_neg (fun q => hc ⟨e.mpr q.1, q.2⟩)]
theorem y136_21 (tb : qTb) (lim : Nat × Nat) (R : Option qV → qM → Prop) (ls st : List qV) (M : qM) : qW tb 136 lim 23 ls st M R = qy tb 136 lim R (23, .ifCond .lt 47, 3, 0, 0, 0) ls st M := qW_at (qcdB_spec (e := (23, .ifCond .lt 47, 3, 0, 0, 0)) (by decide +kernel))
theorem r136 {tb : qTb} {C X F : XT} {L : LT} {R : Option qV → qM → Prop} (hR : RR C X L F) (a t : Int) (nh : Nat) (hn : X 69 2 = (nh : Int)) (hn4 : nh ≤ 4) (ha : 0 ≤ a ∧ a < 12) (hel : ∀ h : Nat, h < 4 → ∀ a ∈ L 0 h, 0 ≤ a ∧ a < 12) (hlen : ∀ h : Nat, h < 4 → (L 0 h).length < 16) (hk : ∀ F2, RR C (pSend nh (X, L) a t).1 (pSend nh (X, L) a t).2 F2 → R none (LAY, F2)) : qW tb 136 (119, 1262) 0 [(3, 69), (0, a), (0, t), (9, 0), (9, 0)] [] (LAY, F) R := by
  have hr := Rf_k hR.rf
  have hx := hR.k
  have hY := hR.up (w32 (X 69 64 + 1)) (c := 69) (j := 64) (by unfold nl; decide) (by decide)
  have hpk := pickD_X (X := qup X 69 64 (w32 (X 69 64 + 1))) (Y := X) (L := L) (a := a) (t := t) (n := nh) rfl rfl rfl
  have hfin : ∀ v4 : qV, qW tb 136 (119, 1262) 70 [(3, 69), (0, a), (0, t), (0, pickD X L a t nh nh), v4] [] (LAY, qup F 69 64 (w32 (X 69 64 + 1))) R := by
    intro v4
    have hr2 := Rf_k hY.rf
    have hx2 := hY.k
    have hpr := pickD_r X L a t nh nh (Nat.le_refl _)
    have hk2 := hk
    unfold pSend at hk2
    generalize hT : pickD X L a t nh nh = T at hpr hk2
    by_cases c0 : T = -9
    · simp only [hT, if_pos c0] at hk2
      have hq := hk2 _ (hY.up (w32 (X 69 67 + 1)) (c := 69) (j := 67) (by unfold nl; decide) (by decide))
      simp only [YK, c136, t136, tgK, lyK, rkK, wK, rfK, hr2, qRes_eq, qNon_eq, qup_ap, vup_ap, vcpy_ap, kc8_0, kc8_1, kc8_2, lc_lt, lc_gt, lc_eq, Option.toList_some, Option.toList_none, List.cons_append, List.nil_append, lay_len, lay_sz, Nat.reduceAdd, Nat.reduceSub, Nat.reduceMul, Int.reduceToNat, Int.reduceLE, Int.reduceLT, Int.reduceEq, Int.reduceAdd, Int.reduceSub, Int.reduceMul, Int.reduceNeg, Nat.reduceLeDiff, Nat.reduceLT, true_and, and_true, false_and, and_false, qcat_0, qcat_1, qcat_3, qcat_9, Nat.reduceEqDiff, if_true, if_false, ite_self, or_true, true_or, or_false, false_or, forall_const, not_true_eq_false, not_false_eq_true, false_implies, implies_true, qtK0, qtK1, qtK2, qtK3, qtK4, List.getD_cons_zero, List.getD_cons_succ, hx2, Int.toNat_natCast, ne_eq, qcK, hT, c0, hx]
      exact hq
    · have hT4 : 0 ≤ T ∧ T < 4 := by omega
      simp only [hT, if_neg c0] at hk2
      obtain ⟨g, hg⟩ : ∃ g : Nat, T = (g : Int) := ⟨T.toNat, by omega⟩
      subst hg
      rw [Int.toNat_natCast] at hk2
      have hg4 : g < 4 := by omega
      have b1 : (0 ≤ (g : Int) ∧ (g : Int) < 4) = True := eq_true (by omega)
      obtain ⟨q1, q2, q3, q4, q5, q6, q7, q8⟩ := hR.2.2.2 g hg4
      have hl := hlen g hg4
      have w1 : w32 (16 * (g : Int)) = ((16 * g : Nat) : Int) := by rw [w32_id ⟨by omega, by omega⟩]; omega
      have w2 : w32 (((16 * g : Nat) : Int) + ((L 0 g).length : Int)) = ((16 * g + (L 0 g).length : Nat) : Int) := by rw [w32_id ⟨by omega, by omega⟩]; omega
      have w3 : w32 (((L 0 g).length : Int) + 1) = (((L 0 g).length + 1 : Nat) : Int) := by rw [w32_id ⟨by omega, by omega⟩]; omega
      have b3 : (0 ≤ ((16 * g + (L 0 g).length : Nat) : Int) ∧ ((16 * g + (L 0 g).length : Nat) : Int) < 64) = True := eq_true (by omega)
      have hA := RR_app hY g hg4 a hl
      by_cases c1 : w32 (w32 (X 73 g + X 71 g) - ((L 1 g).length : Int)) < ((L 0 g).length : Int) + 1
      · have c1' : (w32 (w32 (X 73 g + X 71 g) - ((L 1 g).length : Int)) < (((L 0 g).length + 1 : Nat) : Int)) = True := eq_true (by omega)
        simp only [if_pos c1] at hk2
        simp only [YK, c136, t136, cl135, tgK, lyK, rkK, wK, rfK, hr2, qRes_eq, qNon_eq, qup_ap, vup_ap, vcpy_ap, kc8_0, kc8_1, kc8_2, lc_lt, lc_gt, lc_eq, Option.toList_some, Option.toList_none, List.cons_append, List.nil_append, lay_len, lay_sz, Nat.reduceAdd, Nat.reduceSub, Nat.reduceMul, Int.reduceToNat, Int.reduceLE, Int.reduceLT, Int.reduceEq, Int.reduceAdd, Int.reduceSub, Int.reduceMul, Int.reduceNeg, Nat.reduceLeDiff, Nat.reduceLT, true_and, and_true, false_and, and_false, qcat_0, qcat_1, qcat_3, qcat_9, Nat.reduceEqDiff, if_true, if_false, ite_self, or_true, true_or, or_false, false_or, forall_const, not_true_eq_false, not_false_eq_true, false_implies, implies_true, qtK0, qtK1, qtK2, qtK3, qtK4, List.getD_cons_zero, List.getD_cons_succ, hx2, Int.toNat_natCast, ne_eq, qcK, c0, b1, q2, q5, w1, w2, w3, b3, hx, c1']
        refine r135 hA g hg4 ?_ ?_ ?_
        · rw [lset_self]
          intro b hb
          rcases List.mem_append.mp hb with hb | hb
          · exact hel g hg4 b hb
          · rw [List.mem_singleton] at hb; rw [hb]; exact ha
        · rw [lset_self, List.length_append, List.length_singleton]; omega
        · intro F2 hF2
          have hq := hk2 F2 hF2
          simp only [YK, c136, t136, tgK, lyK, rkK, wK, rfK, qRes_eq, qNon_eq, qup_ap, vup_ap, vcpy_ap, kc8_0, kc8_1, kc8_2, lc_lt, lc_gt, lc_eq, Option.toList_some, Option.toList_none, List.cons_append, List.nil_append, lay_len, lay_sz, Nat.reduceAdd, Nat.reduceSub, Nat.reduceMul, Int.reduceToNat, Int.reduceLE, Int.reduceLT, Int.reduceEq, Int.reduceAdd, Int.reduceSub, Int.reduceMul, Int.reduceNeg, Nat.reduceLeDiff, Nat.reduceLT, true_and, and_true, false_and, and_false, qcat_0, qcat_1, qcat_3, qcat_9, Nat.reduceEqDiff, if_true, if_false, ite_self, or_true, true_or, or_false, false_or, forall_const, not_true_eq_false, not_false_eq_true, false_implies, implies_true, qtK0, qtK1, qtK2, qtK3, qtK4, List.getD_cons_zero, List.getD_cons_succ, Int.toNat_natCast, ne_eq, qcK]
          exact hq
      · have c1' : (w32 (w32 (X 73 g + X 71 g) - ((L 1 g).length : Int)) < (((L 0 g).length + 1 : Nat) : Int)) = False := eq_false (by omega)
        simp only [if_neg c1] at hk2
        have hq := hk2 _ hA
        simp only [YK, c136, t136, cl135, tgK, lyK, rkK, wK, rfK, hr2, qRes_eq, qNon_eq, qup_ap, vup_ap, vcpy_ap, kc8_0, kc8_1, kc8_2, lc_lt, lc_gt, lc_eq, Option.toList_some, Option.toList_none, List.cons_append, List.nil_append, lay_len, lay_sz, Nat.reduceAdd, Nat.reduceSub, Nat.reduceMul, Int.reduceToNat, Int.reduceLE, Int.reduceLT, Int.reduceEq, Int.reduceAdd, Int.reduceSub, Int.reduceMul, Int.reduceNeg, Nat.reduceLeDiff, Nat.reduceLT, true_and, and_true, false_and, and_false, qcat_0, qcat_1, qcat_3, qcat_9, Nat.reduceEqDiff, if_true, if_false, ite_self, or_true, true_or, or_false, false_or, forall_const, not_true_eq_false, not_false_eq_true, false_implies, implies_true, qtK0, qtK1, qtK2, qtK3, qtK4, List.getD_cons_zero, List.getD_cons_succ, hx2, Int.toNat_natCast, ne_eq, qcK, c0, b1, q2, q5, w1, w2, w3, b3, hx, c1']
        exact hq
  have hloop : ∀ (n k : Nat), n + k = nh → qW tb 136 (119, 1262) 21 [(3, 69), (0, a), (0, t), (0, pickD X L a t nh k), (0, (n : Int) - 1)] [] (LAY, qup F 69 64 (w32 (X 69 64 + 1))) R := by
    have hr2 := Rf_k hY.rf
    have hx2 := hY.k
    intro n
    induction n with
    | zero =>
      intro k he
      have b2 : (((0 : Nat) : Int) - 1 < 0) = True := eq_true (by omega)
      have e : k = nh := by omega
      rw [e]
      rw [h136_21]
      have hf := hfin (0, ((0 : Nat) : Int) - 1)
      simp only [YK, y136_21, t136, tgK, lyK, rkK, wK, rfK, hr2, qRes_eq, qNon_eq, qup_ap, vup_ap, vcpy_ap, kc8_0, kc8_1, kc8_2, lc_lt, lc_gt, lc_eq, Option.toList_some, Option.toList_none, List.cons_append, List.nil_append, lay_len, lay_sz, Nat.reduceAdd, Nat.reduceSub, Nat.reduceMul, Int.reduceToNat, Int.reduceLE, Int.reduceLT, Int.reduceEq, Int.reduceAdd, Int.reduceSub, Int.reduceMul, Int.reduceNeg, Nat.reduceLeDiff, Nat.reduceLT, true_and, and_true, false_and, and_false, qcat_0, qcat_1, qcat_3, qcat_9, Nat.reduceEqDiff, if_true, if_false, ite_self, or_true, true_or, or_false, false_or, forall_const, not_true_eq_false, not_false_eq_true, false_implies, implies_true, qtK0, qtK1, qtK2, qtK3, qtK4, List.getD_cons_zero, List.getD_cons_succ, hx2, Int.toNat_natCast, ne_eq, qcK, b2]
      exact hf
    | succ n ih =>
      intro k he
      have e0 : (((n + 1 : Nat) : Int) - 1) = (n : Int) := by omega
      rw [e0]
      have hn4' : n < 4 := by omega
      have b2 : ((n : Int) < 0) = False := eq_false (by omega)
      have w3 : w32 ((n : Int) + -1) = (n : Int) - 1 := by rw [w32_id ⟨by omega, by omega⟩]; omega
      have hi := ih (k + 1) (by omega)
      unfold pickD at hi
      have en : nh - 1 - k = n := by omega
      rw [en] at hi
      have hpr := pickD_r X L a t nh k (by omega)
      generalize hT : pickD X L a t nh k = T at hpr hi
      rw [h136_21]
      simp only [YK, c136, t136, cl133, tgK, lyK, rkK, wK, rfK, hr2, qRes_eq, qNon_eq, qup_ap, vup_ap, vcpy_ap, kc8_0, kc8_1, kc8_2, lc_lt, lc_gt, lc_eq, Option.toList_some, Option.toList_none, List.cons_append, List.nil_append, lay_len, lay_sz, Nat.reduceAdd, Nat.reduceSub, Nat.reduceMul, Int.reduceToNat, Int.reduceLE, Int.reduceLT, Int.reduceEq, Int.reduceAdd, Int.reduceSub, Int.reduceMul, Int.reduceNeg, Nat.reduceLeDiff, Nat.reduceLT, true_and, and_true, false_and, and_false, qcat_0, qcat_1, qcat_3, qcat_9, Nat.reduceEqDiff, if_true, if_false, ite_self, or_true, true_or, or_false, false_or, forall_const, not_true_eq_false, not_false_eq_true, false_implies, implies_true, qtK0, qtK1, qtK2, qtK3, qtK4, List.getD_cons_zero, List.getD_cons_succ, hx2, Int.toNat_natCast, ne_eq, qcK, b2]
      refine r133 hY n hn4' a t ?_
      have hm := pMay_X (X := qup X 69 64 (w32 (X 69 64 + 1))) (Y := X) (L := L) (h := n) (a := a) (t := t) rfl rfl rfl
      by_cases c1 : pMay (qup X 69 64 (w32 (X 69 64 + 1))) L n a t
      · have d1 := b01_t c1
        by_cases c2 : T = -9
        · rw [if_pos ⟨hm.mp c1, Or.inl c2⟩] at hi
          simp only [YK, c136, t136, cl126, tgK, lyK, rkK, wK, rfK, hr2, qRes_eq, qNon_eq, qup_ap, vup_ap, vcpy_ap, kc8_0, kc8_1, kc8_2, lc_lt, lc_gt, lc_eq, Option.toList_some, Option.toList_none, List.cons_append, List.nil_append, lay_len, lay_sz, Nat.reduceAdd, Nat.reduceSub, Nat.reduceMul, Int.reduceToNat, Int.reduceLE, Int.reduceLT, Int.reduceEq, Int.reduceAdd, Int.reduceSub, Int.reduceMul, Int.reduceNeg, Nat.reduceLeDiff, Nat.reduceLT, true_and, and_true, false_and, and_false, qcat_0, qcat_1, qcat_3, qcat_9, Nat.reduceEqDiff, if_true, if_false, ite_self, or_true, true_or, or_false, false_or, forall_const, not_true_eq_false, not_false_eq_true, false_implies, implies_true, qtK0, qtK1, qtK2, qtK3, qtK4, List.getD_cons_zero, List.getD_cons_succ, hx2, Int.toNat_natCast, ne_eq, qcK, d1, c2, w3]
          exact hi
        · obtain ⟨g, hg⟩ : ∃ g : Nat, T = (g : Int) := ⟨T.toNat, by omega⟩
          subst hg
          rw [Int.toNat_natCast] at hi
          simp only [YK, c136, t136, cl126, tgK, lyK, rkK, wK, rfK, hr2, qRes_eq, qNon_eq, qup_ap, vup_ap, vcpy_ap, kc8_0, kc8_1, kc8_2, lc_lt, lc_gt, lc_eq, Option.toList_some, Option.toList_none, List.cons_append, List.nil_append, lay_len, lay_sz, Nat.reduceAdd, Nat.reduceSub, Nat.reduceMul, Int.reduceToNat, Int.reduceLE, Int.reduceLT, Int.reduceEq, Int.reduceAdd, Int.reduceSub, Int.reduceMul, Int.reduceNeg, Nat.reduceLeDiff, Nat.reduceLT, true_and, and_true, false_and, and_false, qcat_0, qcat_1, qcat_3, qcat_9, Nat.reduceEqDiff, if_true, if_false, ite_self, or_true, true_or, or_false, false_or, forall_const, not_true_eq_false, not_false_eq_true, false_implies, implies_true, qtK0, qtK1, qtK2, qtK3, qtK4, List.getD_cons_zero, List.getD_cons_succ, hx2, Int.toNat_natCast, ne_eq, qcK, d1, c2, w3]
          refine r126' hY n hn4' ?_
          simp only [YK, c136, t136, cl126, tgK, lyK, rkK, wK, rfK, hr2, qRes_eq, qNon_eq, qup_ap, vup_ap, vcpy_ap, kc8_0, kc8_1, kc8_2, lc_lt, lc_gt, lc_eq, Option.toList_some, Option.toList_none, List.cons_append, List.nil_append, lay_len, lay_sz, Nat.reduceAdd, Nat.reduceSub, Nat.reduceMul, Int.reduceToNat, Int.reduceLE, Int.reduceLT, Int.reduceEq, Int.reduceAdd, Int.reduceSub, Int.reduceMul, Int.reduceNeg, Nat.reduceLeDiff, Nat.reduceLT, true_and, and_true, false_and, and_false, qcat_0, qcat_1, qcat_3, qcat_9, Nat.reduceEqDiff, if_true, if_false, ite_self, or_true, true_or, or_false, false_or, forall_const, not_true_eq_false, not_false_eq_true, false_implies, implies_true, qtK0, qtK1, qtK2, qtK3, qtK4, List.getD_cons_zero, List.getD_cons_succ, hx2, Int.toNat_natCast, ne_eq, qcK, d1, c2, w3]
          refine r126' hY g (by omega) ?_
          by_cases c3 : cps L n ≤ cps L g
          · have c3' : (cps L g < cps L n) = False := eq_false (by omega)
            rw [if_pos ⟨hm.mp c1, Or.inr c3⟩] at hi
            simp only [YK, c136, t136, tgK, lyK, rkK, wK, rfK, hr2, qRes_eq, qNon_eq, qup_ap, vup_ap, vcpy_ap, kc8_0, kc8_1, kc8_2, lc_lt, lc_gt, lc_eq, Option.toList_some, Option.toList_none, List.cons_append, List.nil_append, lay_len, lay_sz, Nat.reduceAdd, Nat.reduceSub, Nat.reduceMul, Int.reduceToNat, Int.reduceLE, Int.reduceLT, Int.reduceEq, Int.reduceAdd, Int.reduceSub, Int.reduceMul, Int.reduceNeg, Nat.reduceLeDiff, Nat.reduceLT, true_and, and_true, false_and, and_false, qcat_0, qcat_1, qcat_3, qcat_9, Nat.reduceEqDiff, if_true, if_false, ite_self, or_true, true_or, or_false, false_or, forall_const, not_true_eq_false, not_false_eq_true, false_implies, implies_true, qtK0, qtK1, qtK2, qtK3, qtK4, List.getD_cons_zero, List.getD_cons_succ, hx2, Int.toNat_natCast, ne_eq, qcK, c3', w3]
            exact hi
          · have c3' : (cps L g < cps L n) = True := eq_true (by omega)
            rw [if_neg (fun q => q.2.elim c2 c3)] at hi
            simp only [YK, c136, t136, tgK, lyK, rkK, wK, rfK, hr2, qRes_eq, qNon_eq, qup_ap, vup_ap, vcpy_ap, kc8_0, kc8_1, kc8_2, lc_lt, lc_gt, lc_eq, Option.toList_some, Option.toList_none, List.cons_append, List.nil_append, lay_len, lay_sz, Nat.reduceAdd, Nat.reduceSub, Nat.reduceMul, Int.reduceToNat, Int.reduceLE, Int.reduceLT, Int.reduceEq, Int.reduceAdd, Int.reduceSub, Int.reduceMul, Int.reduceNeg, Nat.reduceLeDiff, Nat.reduceLT, true_and, and_true, false_and, and_false, qcat_0, qcat_1, qcat_3, qcat_9, Nat.reduceEqDiff, if_true, if_false, ite_self, or_true, true_or, or_false, false_or, forall_const, not_true_eq_false, not_false_eq_true, false_implies, implies_true, qtK0, qtK1, qtK2, qtK3, qtK4, List.getD_cons_zero, List.getD_cons_succ, hx2, Int.toNat_natCast, ne_eq, qcK, c3', w3]
            exact hi
      · have d1 := b01_f c1
        rw [if_neg (fun q => c1 (hm.mpr q.1))] at hi
        simp only [YK, c136, t136, tgK, lyK, rkK, wK, rfK, hr2, qRes_eq, qNon_eq, qup_ap, vup_ap, vcpy_ap, kc8_0, kc8_1, kc8_2, lc_lt, lc_gt, lc_eq, Option.toList_some, Option.toList_none, List.cons_append, List.nil_append, lay_len, lay_sz, Nat.reduceAdd, Nat.reduceSub, Nat.reduceMul, Int.reduceToNat, Int.reduceLE, Int.reduceLT, Int.reduceEq, Int.reduceAdd, Int.reduceSub, Int.reduceMul, Int.reduceNeg, Nat.reduceLeDiff, Nat.reduceLT, true_and, and_true, false_and, and_false, qcat_0, qcat_1, qcat_3, qcat_9, Nat.reduceEqDiff, if_true, if_false, ite_self, or_true, true_or, or_false, false_or, forall_const, not_true_eq_false, not_false_eq_true, false_implies, implies_true, qtK0, qtK1, qtK2, qtK3, qtK4, List.getD_cons_zero, List.getD_cons_succ, hx2, Int.toNat_natCast, ne_eq, qcK, d1, w3]
        exact hi
  have w0 : w32 ((nh : Int) - 1) = (nh : Int) - 1 := w32_id ⟨by omega, by omega⟩
  have := hloop nh 0 (by omega)
  unfold pickD at this
  simp only [YK, c136, t136, tgK, lyK, rkK, wK, rfK, hr, qRes_eq, qNon_eq, qup_ap, vup_ap, vcpy_ap, kc8_0, kc8_1, kc8_2, lc_lt, lc_gt, lc_eq, Option.toList_some, Option.toList_none, List.cons_append, List.nil_append, lay_len, lay_sz, Nat.reduceAdd, Nat.reduceSub, Nat.reduceMul, Int.reduceToNat, Int.reduceLE, Int.reduceLT, Int.reduceEq, Int.reduceAdd, Int.reduceSub, Int.reduceMul, Int.reduceNeg, Nat.reduceLeDiff, Nat.reduceLT, true_and, and_true, false_and, and_false, qcat_0, qcat_1, qcat_3, qcat_9, Nat.reduceEqDiff, if_true, if_false, ite_self, or_true, true_or, or_false, false_or, forall_const, not_true_eq_false, not_false_eq_true, false_implies, implies_true, qtK0, qtK1, qtK2, qtK3, qtK4, List.getD_cons_zero, List.getD_cons_succ, hx, Int.toNat_natCast, ne_eq, qcK, hn, w0]
  exact this
