/-! the class reads parts -/
def PFr (b : Nat) (F G0 : XT) : Prop := Rf G0 ∧ ∀ c : Nat, c ≠ 2 → (c < b ∨ b + 9 < c) → G0 c = F c
def PQ (b : Nat) (F G0 : XT) (h s a : Nat) (W : XT) : Prop := PFr b F G0 ∧ (G0 b 0 = (h : Int) ∧ G0 b 1 = (s : Int) ∧ G0 b 2 = (a : Int)) ∧ (h ≤ 4 ∧ s ≤ 4 ∧ a ≤ 12) ∧ (∀ i j : Nat, i < 3 → j < h → G0 (b + 1 + i) j = W i j) ∧ (∀ i j : Nat, 3 ≤ i → i < 6 → j < s → G0 (b + 1 + i) j = W i j) ∧ (∀ i j : Nat, 6 ≤ i → i < 9 → j < a → G0 (b + 1 + i) j = W i j)
def post (b : Nat) (F : XT) (len : Nat) (r : Int ⊕ QT) (G0 G : XT) : Prop := match r with
  | .inl f => PFl G0 G len f ∧ PFr b F G0
  | .inr (k, h, s, a, W) => P2 G0 G len k (-9) ∧ PQ b F G0 h s a W
theorem PFr_a3 {F G0 : XT} (h : PFr 3 F G0) {c : Nat} (j : Nat) (v : Int) (hc : c = 4 ∨ c = 5 ∨ c = 6 ∨ c = 7 ∨ c = 8 ∨ c = 9 ∨ c = 10 ∨ c = 11 ∨ c = 12) : PFr 3 F (qup G0 c j v) := by
  refine ⟨?_, fun c2 h2 h3 => by rw [qup_c (by omega)]; exact h.2 c2 h2 h3⟩
  rcases hc with rfl | rfl | rfl | rfl | rfl | rfl | rfl | rfl | rfl <;> exact h.1.upA j v (by decide)
theorem PFr_b3 {F G0 : XT} (h : PFr 3 F G0) {j : Nat} (v : Int) (hj : j = 0 ∨ j = 1 ∨ j = 2) : PFr 3 F (qup G0 3 j v) := by
  refine ⟨?_, fun c2 h2 h3 => by rw [qup_c (by omega)]; exact h.2 c2 h2 h3⟩
  rcases hj with rfl | rfl | rfl <;> exact h.1.up (by decide)
theorem PQ_H3 {F G0 : XT} {h s a : Nat} {W : XT} (hQ : PQ 3 F G0 h s a W) (hb : h < 4) (v1 v2 v3 : Int) : PQ 3 F (qup (qup (qup (qup G0 4 h v1) 5 h v2) 6 h v3) 3 0 ((h + 1 : Nat) : Int)) (h + 1) s a (qup (qup (qup W 0 h v1) 1 h v2) 2 h v3) := by
  obtain ⟨q1, ⟨q2, q3, q4⟩, ⟨q5, q6, q7⟩, q8, q9, q10⟩ := hQ
  refine ⟨PFr_b3 (PFr_a3 (PFr_a3 (PFr_a3 q1 _ _ (by decide)) _ _ (by decide)) _ _ (by decide)) _ (by decide), ?_, ⟨by omega, by omega, by omega⟩, ?_, ?_, ?_⟩
  · simp only [qup_ap, if_true, if_false, Nat.reduceEqDiff, q2, q3, q4, and_self]
  · intro i j hi hj
    have hi3 : i = 0 ∨ i = 1 ∨ i = 2 := by omega
    by_cases c : j = h
    · subst c
      rcases hi3 with rfl | rfl | rfl <;> simp only [qup_ap, if_true, if_false, Nat.reduceEqDiff, Nat.reduceAdd]
    · rcases hi3 with rfl | rfl | rfl
      · simp only [qup_ap, if_true, if_false, Nat.reduceEqDiff, Nat.reduceAdd, c]
        exact q8 0 j (by omega) (by omega)
      · simp only [qup_ap, if_true, if_false, Nat.reduceEqDiff, Nat.reduceAdd, c]
        exact q8 1 j (by omega) (by omega)
      · simp only [qup_ap, if_true, if_false, Nat.reduceEqDiff, Nat.reduceAdd, c]
        exact q8 2 j (by omega) (by omega)
  · intro i j h1 hi hj
    rw [qup_c (by omega), qup_c (by omega), qup_c (by omega), qup_c (by omega), qup_c (by omega), qup_c (by omega), qup_c (by omega)]
    exact q9 i j h1 hi hj
  · intro i j h1 hi hj
    rw [qup_c (by omega), qup_c (by omega), qup_c (by omega), qup_c (by omega), qup_c (by omega), qup_c (by omega), qup_c (by omega)]
    exact q10 i j h1 hi hj
theorem PQ_X3 {F G0 : XT} {h s a : Nat} {W : XT} (hQ : PQ 3 F G0 h s a W) (hb : s < 4) (v1 v2 v3 : Int) : PQ 3 F (qup (qup (qup (qup G0 7 s v1) 8 s v2) 9 s v3) 3 1 ((s + 1 : Nat) : Int)) h (s + 1) a (qup (qup (qup W 3 s v1) 4 s v2) 5 s v3) := by
  obtain ⟨q1, ⟨q2, q3, q4⟩, ⟨q5, q6, q7⟩, q8, q9, q10⟩ := hQ
  refine ⟨PFr_b3 (PFr_a3 (PFr_a3 (PFr_a3 q1 _ _ (by decide)) _ _ (by decide)) _ _ (by decide)) _ (by decide), ?_, ⟨by omega, by omega, by omega⟩, ?_, ?_, ?_⟩
  · simp only [qup_ap, if_true, if_false, Nat.reduceEqDiff, q2, q3, q4, and_self]
  · intro i j hi hj
    rw [qup_c (by omega), qup_c (by omega), qup_c (by omega), qup_c (by omega), qup_c (by omega), qup_c (by omega), qup_c (by omega)]
    exact q8 i j hi hj
  · intro i j h1 hi hj
    have hi3 : i = 3 ∨ i = 4 ∨ i = 5 := by omega
    by_cases c : j = s
    · subst c
      rcases hi3 with rfl | rfl | rfl <;> simp only [qup_ap, if_true, if_false, Nat.reduceEqDiff, Nat.reduceAdd]
    · rcases hi3 with rfl | rfl | rfl
      · simp only [qup_ap, if_true, if_false, Nat.reduceEqDiff, Nat.reduceAdd, c]
        exact q9 3 j (by omega) (by omega) (by omega)
      · simp only [qup_ap, if_true, if_false, Nat.reduceEqDiff, Nat.reduceAdd, c]
        exact q9 4 j (by omega) (by omega) (by omega)
      · simp only [qup_ap, if_true, if_false, Nat.reduceEqDiff, Nat.reduceAdd, c]
        exact q9 5 j (by omega) (by omega) (by omega)
  · intro i j h1 hi hj
    rw [qup_c (by omega), qup_c (by omega), qup_c (by omega), qup_c (by omega), qup_c (by omega), qup_c (by omega), qup_c (by omega)]
    exact q10 i j h1 hi hj
theorem PQ_A3 {F G0 : XT} {h s a : Nat} {W : XT} (hQ : PQ 3 F G0 h s a W) (hb : a < 12) (v1 v2 v3 : Int) : PQ 3 F (qup (qup (qup (qup G0 10 a v1) 11 a v2) 12 a v3) 3 2 ((a + 1 : Nat) : Int)) h s (a + 1) (qup (qup (qup W 6 a v1) 7 a v2) 8 a v3) := by
  obtain ⟨q1, ⟨q2, q3, q4⟩, ⟨q5, q6, q7⟩, q8, q9, q10⟩ := hQ
  refine ⟨PFr_b3 (PFr_a3 (PFr_a3 (PFr_a3 q1 _ _ (by decide)) _ _ (by decide)) _ _ (by decide)) _ (by decide), ?_, ⟨by omega, by omega, by omega⟩, ?_, ?_, ?_⟩
  · simp only [qup_ap, if_true, if_false, Nat.reduceEqDiff, q2, q3, q4, and_self]
  · intro i j hi hj
    rw [qup_c (by omega), qup_c (by omega), qup_c (by omega), qup_c (by omega), qup_c (by omega), qup_c (by omega), qup_c (by omega)]
    exact q8 i j hi hj
  · intro i j h1 hi hj
    rw [qup_c (by omega), qup_c (by omega), qup_c (by omega), qup_c (by omega), qup_c (by omega), qup_c (by omega), qup_c (by omega)]
    exact q9 i j h1 hi hj
  · intro i j h1 hi hj
    have hi3 : i = 6 ∨ i = 7 ∨ i = 8 := by omega
    by_cases c : j = a
    · subst c
      rcases hi3 with rfl | rfl | rfl <;> simp only [qup_ap, if_true, if_false, Nat.reduceEqDiff, Nat.reduceAdd]
    · rcases hi3 with rfl | rfl | rfl
      · simp only [qup_ap, if_true, if_false, Nat.reduceEqDiff, Nat.reduceAdd, c]
        exact q10 6 j (by omega) (by omega) (by omega)
      · simp only [qup_ap, if_true, if_false, Nat.reduceEqDiff, Nat.reduceAdd, c]
        exact q10 7 j (by omega) (by omega) (by omega)
      · simp only [qup_ap, if_true, if_false, Nat.reduceEqDiff, Nat.reduceAdd, c]
        exact q10 8 j (by omega) (by omega) (by omega)
theorem PFr_a13 {F G0 : XT} (h : PFr 13 F G0) {c : Nat} (j : Nat) (v : Int) (hc : c = 14 ∨ c = 15 ∨ c = 16 ∨ c = 17 ∨ c = 18 ∨ c = 19 ∨ c = 20 ∨ c = 21 ∨ c = 22) : PFr 13 F (qup G0 c j v) := by
  refine ⟨?_, fun c2 h2 h3 => by rw [qup_c (by omega)]; exact h.2 c2 h2 h3⟩
  rcases hc with rfl | rfl | rfl | rfl | rfl | rfl | rfl | rfl | rfl <;> exact h.1.upA j v (by decide)
theorem PFr_b13 {F G0 : XT} (h : PFr 13 F G0) {j : Nat} (v : Int) (hj : j = 0 ∨ j = 1 ∨ j = 2) : PFr 13 F (qup G0 13 j v) := by
  refine ⟨?_, fun c2 h2 h3 => by rw [qup_c (by omega)]; exact h.2 c2 h2 h3⟩
  rcases hj with rfl | rfl | rfl <;> exact h.1.up (by decide)
theorem PQ_H13 {F G0 : XT} {h s a : Nat} {W : XT} (hQ : PQ 13 F G0 h s a W) (hb : h < 4) (v1 v2 v3 : Int) : PQ 13 F (qup (qup (qup (qup G0 14 h v1) 15 h v2) 16 h v3) 13 0 ((h + 1 : Nat) : Int)) (h + 1) s a (qup (qup (qup W 0 h v1) 1 h v2) 2 h v3) := by
  obtain ⟨q1, ⟨q2, q3, q4⟩, ⟨q5, q6, q7⟩, q8, q9, q10⟩ := hQ
  refine ⟨PFr_b13 (PFr_a13 (PFr_a13 (PFr_a13 q1 _ _ (by decide)) _ _ (by decide)) _ _ (by decide)) _ (by decide), ?_, ⟨by omega, by omega, by omega⟩, ?_, ?_, ?_⟩
  · simp only [qup_ap, if_true, if_false, Nat.reduceEqDiff, q2, q3, q4, and_self]
  · intro i j hi hj
    have hi3 : i = 0 ∨ i = 1 ∨ i = 2 := by omega
    by_cases c : j = h
    · subst c
      rcases hi3 with rfl | rfl | rfl <;> simp only [qup_ap, if_true, if_false, Nat.reduceEqDiff, Nat.reduceAdd]
    · rcases hi3 with rfl | rfl | rfl
      · simp only [qup_ap, if_true, if_false, Nat.reduceEqDiff, Nat.reduceAdd, c]
        exact q8 0 j (by omega) (by omega)
      · simp only [qup_ap, if_true, if_false, Nat.reduceEqDiff, Nat.reduceAdd, c]
        exact q8 1 j (by omega) (by omega)
      · simp only [qup_ap, if_true, if_false, Nat.reduceEqDiff, Nat.reduceAdd, c]
        exact q8 2 j (by omega) (by omega)
  · intro i j h1 hi hj
    rw [qup_c (by omega), qup_c (by omega), qup_c (by omega), qup_c (by omega), qup_c (by omega), qup_c (by omega), qup_c (by omega)]
    exact q9 i j h1 hi hj
  · intro i j h1 hi hj
    rw [qup_c (by omega), qup_c (by omega), qup_c (by omega), qup_c (by omega), qup_c (by omega), qup_c (by omega), qup_c (by omega)]
    exact q10 i j h1 hi hj
theorem PQ_X13 {F G0 : XT} {h s a : Nat} {W : XT} (hQ : PQ 13 F G0 h s a W) (hb : s < 4) (v1 v2 v3 : Int) : PQ 13 F (qup (qup (qup (qup G0 17 s v1) 18 s v2) 19 s v3) 13 1 ((s + 1 : Nat) : Int)) h (s + 1) a (qup (qup (qup W 3 s v1) 4 s v2) 5 s v3) := by
  obtain ⟨q1, ⟨q2, q3, q4⟩, ⟨q5, q6, q7⟩, q8, q9, q10⟩ := hQ
  refine ⟨PFr_b13 (PFr_a13 (PFr_a13 (PFr_a13 q1 _ _ (by decide)) _ _ (by decide)) _ _ (by decide)) _ (by decide), ?_, ⟨by omega, by omega, by omega⟩, ?_, ?_, ?_⟩
  · simp only [qup_ap, if_true, if_false, Nat.reduceEqDiff, q2, q3, q4, and_self]
  · intro i j hi hj
    rw [qup_c (by omega), qup_c (by omega), qup_c (by omega), qup_c (by omega), qup_c (by omega), qup_c (by omega), qup_c (by omega)]
    exact q8 i j hi hj
  · intro i j h1 hi hj
    have hi3 : i = 3 ∨ i = 4 ∨ i = 5 := by omega
    by_cases c : j = s
    · subst c
      rcases hi3 with rfl | rfl | rfl <;> simp only [qup_ap, if_true, if_false, Nat.reduceEqDiff, Nat.reduceAdd]
    · rcases hi3 with rfl | rfl | rfl
      · simp only [qup_ap, if_true, if_false, Nat.reduceEqDiff, Nat.reduceAdd, c]
        exact q9 3 j (by omega) (by omega) (by omega)
      · simp only [qup_ap, if_true, if_false, Nat.reduceEqDiff, Nat.reduceAdd, c]
        exact q9 4 j (by omega) (by omega) (by omega)
      · simp only [qup_ap, if_true, if_false, Nat.reduceEqDiff, Nat.reduceAdd, c]
        exact q9 5 j (by omega) (by omega) (by omega)
  · intro i j h1 hi hj
    rw [qup_c (by omega), qup_c (by omega), qup_c (by omega), qup_c (by omega), qup_c (by omega), qup_c (by omega), qup_c (by omega)]
    exact q10 i j h1 hi hj
theorem PQ_A13 {F G0 : XT} {h s a : Nat} {W : XT} (hQ : PQ 13 F G0 h s a W) (hb : a < 12) (v1 v2 v3 : Int) : PQ 13 F (qup (qup (qup (qup G0 20 a v1) 21 a v2) 22 a v3) 13 2 ((a + 1 : Nat) : Int)) h s (a + 1) (qup (qup (qup W 6 a v1) 7 a v2) 8 a v3) := by
  obtain ⟨q1, ⟨q2, q3, q4⟩, ⟨q5, q6, q7⟩, q8, q9, q10⟩ := hQ
  refine ⟨PFr_b13 (PFr_a13 (PFr_a13 (PFr_a13 q1 _ _ (by decide)) _ _ (by decide)) _ _ (by decide)) _ (by decide), ?_, ⟨by omega, by omega, by omega⟩, ?_, ?_, ?_⟩
  · simp only [qup_ap, if_true, if_false, Nat.reduceEqDiff, q2, q3, q4, and_self]
  · intro i j hi hj
    rw [qup_c (by omega), qup_c (by omega), qup_c (by omega), qup_c (by omega), qup_c (by omega), qup_c (by omega), qup_c (by omega)]
    exact q8 i j hi hj
  · intro i j h1 hi hj
    rw [qup_c (by omega), qup_c (by omega), qup_c (by omega), qup_c (by omega), qup_c (by omega), qup_c (by omega), qup_c (by omega)]
    exact q9 i j h1 hi hj
  · intro i j h1 hi hj
    have hi3 : i = 6 ∨ i = 7 ∨ i = 8 := by omega
    by_cases c : j = a
    · subst c
      rcases hi3 with rfl | rfl | rfl <;> simp only [qup_ap, if_true, if_false, Nat.reduceEqDiff, Nat.reduceAdd]
    · rcases hi3 with rfl | rfl | rfl
      · simp only [qup_ap, if_true, if_false, Nat.reduceEqDiff, Nat.reduceAdd, c]
        exact q10 6 j (by omega) (by omega) (by omega)
      · simp only [qup_ap, if_true, if_false, Nat.reduceEqDiff, Nat.reduceAdd, c]
        exact q10 7 j (by omega) (by omega) (by omega)
      · simp only [qup_ap, if_true, if_false, Nat.reduceEqDiff, Nat.reduceAdd, c]
        exact q10 8 j (by omega) (by omega) (by omega)
theorem k49_3 {tb : qTb} {F G0 G : XT} {T : Nat → Int} {len k h s a : Nat} {W : XT} {R : Option qV → qM → Prop} (hlen : len ≤ 120) (hk1 : k ≤ 120) (hT : ∀ j : Nat, j < len → F 1 j = T j ∧ 0 ≤ T j ∧ T j ≤ 255) (hTk : T k = 72) (hb : h < 4) (hP : P2 G0 G len (k + 1) (-9)) (hQ : PQ 3 F G0 h s a W) (hk : ∀ r G0 G, stp T len k h s a W r → post 3 F len r G0 G → R none (LAY, G)) : qW tb 49 (119, 1262) 0 [(3, 2), (3, 3), (9, 0)] [] (LAY, G) R := by
  have hQ0 := hQ
  obtain ⟨q1, ⟨q2, q3, q4⟩, ⟨q5, q6, q7⟩, -⟩ := hQ
  have w1 : w32 ((h : Int) + 1) = ((h + 1 : Nat) : Int) := by rw [w32_id ⟨by omega, by omega⟩]; omega
  have bx : (0 ≤ (h : Int) ∧ (h : Int) < 4) = True := eq_true (by omega)
  have hTb : ∀ G0, PFr 3 F G0 → ∀ j : Nat, j < len → G0 1 j = T j ∧ 0 ≤ T j ∧ T j ≤ 255 := fun G0 h0 j hj => by rw [h0.2 1 (by decide) (by decide)]; exact hT j hj
  have r0 := Rf_k (P2_rf q1.1 hP.1 hP.2.1)
  have g0_0 : G 3 0 = (h : Int) := by rw [hP.1 3 (by decide)]; exact q2
  have g0_1 : G 3 1 = (s : Int) := by rw [hP.1 3 (by decide)]; exact q3
  have g0_2 : G 3 2 = (a : Int) := by rw [hP.1 3 (by decide)]; exact q4
  simp only [YK, c49, t49, cl52, tgK, lyK, rkK, wK, rfK, qRes_eq, qNon_eq, qup_ap, vup_ap, vcpy_ap, kc8_0, kc8_1, kc8_2, lc_lt, lc_gt, lc_eq, Option.toList_some, Option.toList_none, List.cons_append, List.nil_append, lay_len, lay_sz, Nat.reduceAdd, Nat.reduceSub, Nat.reduceMul, Int.reduceToNat, Int.reduceLE, Int.reduceLT, Int.reduceEq, Int.reduceAdd, Int.reduceSub, Int.reduceMul, Int.reduceNeg, Nat.reduceLeDiff, Nat.reduceLT, true_and, and_true, false_and, and_false, qcat_0, qcat_1, qcat_3, qcat_9, Nat.reduceEqDiff, if_true, if_false, ite_self, or_true, true_or, or_false, false_or, forall_const, not_true_eq_false, not_false_eq_true, false_implies, implies_true, qtK0, qtK1, qtK2, qtK3, qtK4, List.getD_cons_zero, List.getD_cons_succ, Int.toNat_natCast, ne_eq, qcK, hbF, bsetF, bclrF, r0, g0_0, g0_1, g0_2, bx, w1]
  refine k52 hP hlen (hTb _ q1) 1 3 (by omega) (by omega) ?_ ?_
  · intro ok1 G1 hP1
    have r1 := Rf_k (P2_rf q1.1 hP1.1 hP1.2.1)
    have g1_0 : G1 3 0 = (h : Int) := by rw [hP1.1 3 (by decide)]; exact q2
    have g1_1 : G1 3 1 = (s : Int) := by rw [hP1.1 3 (by decide)]; exact q3
    have g1_2 : G1 3 2 = (a : Int) := by rw [hP1.1 3 (by decide)]; exact q4
    simp only [YK, c49, t49, cl52, tgK, lyK, rkK, wK, rfK, qRes_eq, qNon_eq, qup_ap, vup_ap, vcpy_ap, kc8_0, kc8_1, kc8_2, lc_lt, lc_gt, lc_eq, Option.toList_some, Option.toList_none, List.cons_append, List.nil_append, lay_len, lay_sz, Nat.reduceAdd, Nat.reduceSub, Nat.reduceMul, Int.reduceToNat, Int.reduceLE, Int.reduceLT, Int.reduceEq, Int.reduceAdd, Int.reduceSub, Int.reduceMul, Int.reduceNeg, Nat.reduceLeDiff, Nat.reduceLT, true_and, and_true, false_and, and_false, qcat_0, qcat_1, qcat_3, qcat_9, Nat.reduceEqDiff, if_true, if_false, ite_self, or_true, true_or, or_false, false_or, forall_const, not_true_eq_false, not_false_eq_true, false_implies, implies_true, qtK0, qtK1, qtK2, qtK3, qtK4, List.getD_cons_zero, List.getD_cons_succ, Int.toNat_natCast, ne_eq, qcK, hbF, bsetF, bclrF, r1, g1_0, g1_1, g1_2, bx, w1]
    refine k52 (hP1.up h (dgT T len (k + 1)) (by decide)) hlen (hTb _ (PFr_a3 (c := 4) q1 h (dgT T len (k + 1)) (by decide))) 1 9 (by omega) (by omega) ?_ ?_
    · intro ok2 G2 hP2
      have r2 := Rf_k (P2_rf (PFr_a3 (c := 4) q1 h (dgT T len (k + 1)) (by decide)).1 hP2.1 hP2.2.1)
      have g2_0 : G2 3 0 = (h : Int) := by rw [hP2.1 3 (by decide)]; rw [qup_c (by decide)]; exact q2
      have g2_1 : G2 3 1 = (s : Int) := by rw [hP2.1 3 (by decide)]; rw [qup_c (by decide)]; exact q3
      have g2_2 : G2 3 2 = (a : Int) := by rw [hP2.1 3 (by decide)]; rw [qup_c (by decide)]; exact q4
      simp only [YK, c49, t49, cl52, tgK, lyK, rkK, wK, rfK, qRes_eq, qNon_eq, qup_ap, vup_ap, vcpy_ap, kc8_0, kc8_1, kc8_2, lc_lt, lc_gt, lc_eq, Option.toList_some, Option.toList_none, List.cons_append, List.nil_append, lay_len, lay_sz, Nat.reduceAdd, Nat.reduceSub, Nat.reduceMul, Int.reduceToNat, Int.reduceLE, Int.reduceLT, Int.reduceEq, Int.reduceAdd, Int.reduceSub, Int.reduceMul, Int.reduceNeg, Nat.reduceLeDiff, Nat.reduceLT, true_and, and_true, false_and, and_false, qcat_0, qcat_1, qcat_3, qcat_9, Nat.reduceEqDiff, if_true, if_false, ite_self, or_true, true_or, or_false, false_or, forall_const, not_true_eq_false, not_false_eq_true, false_implies, implies_true, qtK0, qtK1, qtK2, qtK3, qtK4, List.getD_cons_zero, List.getD_cons_succ, Int.toNat_natCast, ne_eq, qcK, hbF, bsetF, bclrF, r2, g2_0, g2_1, g2_2, bx, w1]
      refine k52 (hP2.up h (dgT T len (k + 2)) (by decide)) hlen (hTb _ (PFr_a3 (c := 5) (PFr_a3 (c := 4) q1 h (dgT T len (k + 1)) (by decide)) h (dgT T len (k + 2)) (by decide))) 0 5 (by omega) (by omega) ?_ ?_
      · intro ok3 G3 hP3
        have r3 := Rf_k (P2_rf (PFr_a3 (c := 5) (PFr_a3 (c := 4) q1 h (dgT T len (k + 1)) (by decide)) h (dgT T len (k + 2)) (by decide)).1 hP3.1 hP3.2.1)
        have g3_0 : G3 3 0 = (h : Int) := by rw [hP3.1 3 (by decide)]; rw [qup_c (by decide), qup_c (by decide)]; exact q2
        have g3_1 : G3 3 1 = (s : Int) := by rw [hP3.1 3 (by decide)]; rw [qup_c (by decide), qup_c (by decide)]; exact q3
        have g3_2 : G3 3 2 = (a : Int) := by rw [hP3.1 3 (by decide)]; rw [qup_c (by decide), qup_c (by decide)]; exact q4
        have hq := hk (.inr (k + 4, h + 1, s, a, qup (qup (qup W 0 h (dgT T len (k + 1))) 1 h (dgT T len (k + 2))) 2 h (dgT T len (k + 3)))) _ _ (Or.inl ⟨hTk, hb, Or.inr (Or.inr (Or.inr (⟨ok1, ok2, ok3, rfl⟩)))⟩) ⟨((hP3.up h (dgT T len (k + 3)) (by decide)).up 0 ((h + 1 : Nat) : Int) (by decide) : P2 _ _ len (k + 4) (-9)), PQ_H3 hQ0 hb (dgT T len (k + 1)) (dgT T len (k + 2)) (dgT T len (k + 3))⟩
        simp only [YK, c49, t49, tgK, lyK, rkK, wK, rfK, qRes_eq, qNon_eq, qup_ap, vup_ap, vcpy_ap, kc8_0, kc8_1, kc8_2, lc_lt, lc_gt, lc_eq, Option.toList_some, Option.toList_none, List.cons_append, List.nil_append, lay_len, lay_sz, Nat.reduceAdd, Nat.reduceSub, Nat.reduceMul, Int.reduceToNat, Int.reduceLE, Int.reduceLT, Int.reduceEq, Int.reduceAdd, Int.reduceSub, Int.reduceMul, Int.reduceNeg, Nat.reduceLeDiff, Nat.reduceLT, true_and, and_true, false_and, and_false, qcat_0, qcat_1, qcat_3, qcat_9, Nat.reduceEqDiff, if_true, if_false, ite_self, or_true, true_or, or_false, false_or, forall_const, not_true_eq_false, not_false_eq_true, false_implies, implies_true, qtK0, qtK1, qtK2, qtK3, qtK4, List.getD_cons_zero, List.getD_cons_succ, Int.toNat_natCast, ne_eq, qcK, hbF, bsetF, bclrF, r3, g3_0, g3_1, g3_2, bx, w1]
        exact hq
      · intro nok3 G3 hP3
        have r3 := Rf_k (P2_rf (PFr_a3 (c := 5) (PFr_a3 (c := 4) q1 h (dgT T len (k + 1)) (by decide)) h (dgT T len (k + 2)) (by decide)).1 hP3.1 hP3.2.1)
        have g3_0 : G3 3 0 = (h : Int) := by rw [hP3.1 3 (by decide)]; rw [qup_c (by decide), qup_c (by decide)]; exact q2
        have g3_1 : G3 3 1 = (s : Int) := by rw [hP3.1 3 (by decide)]; rw [qup_c (by decide), qup_c (by decide)]; exact q3
        have g3_2 : G3 3 2 = (a : Int) := by rw [hP3.1 3 (by decide)]; rw [qup_c (by decide), qup_c (by decide)]; exact q4
        have hq := hk (.inl ((k + 3 : Nat) : Int)) _ _ (Or.inl ⟨hTk, hb, Or.inr (Or.inr (Or.inl ⟨ok1, ok2, nok3, rfl⟩))⟩) ⟨PFl.up (c := 3) (hP3.up h (0) (by decide) : PFl (qup (qup (qup G0 4 h (dgT T len (k + 1))) 5 h (dgT T len (k + 2))) 6 h (0)) (qup G3 6 h (0)) len ((k + 3 : Nat) : Int)) 0 ((h + 1 : Nat) : Int) (by decide), PFr_b3 (PFr_a3 (c := 6) (PFr_a3 (c := 5) (PFr_a3 (c := 4) q1 h (dgT T len (k + 1)) (by decide)) h (dgT T len (k + 2)) (by decide)) h (0) (by decide)) _ (by decide)⟩
        simp only [YK, c49, t49, tgK, lyK, rkK, wK, rfK, qRes_eq, qNon_eq, qup_ap, vup_ap, vcpy_ap, kc8_0, kc8_1, kc8_2, lc_lt, lc_gt, lc_eq, Option.toList_some, Option.toList_none, List.cons_append, List.nil_append, lay_len, lay_sz, Nat.reduceAdd, Nat.reduceSub, Nat.reduceMul, Int.reduceToNat, Int.reduceLE, Int.reduceLT, Int.reduceEq, Int.reduceAdd, Int.reduceSub, Int.reduceMul, Int.reduceNeg, Nat.reduceLeDiff, Nat.reduceLT, true_and, and_true, false_and, and_false, qcat_0, qcat_1, qcat_3, qcat_9, Nat.reduceEqDiff, if_true, if_false, ite_self, or_true, true_or, or_false, false_or, forall_const, not_true_eq_false, not_false_eq_true, false_implies, implies_true, qtK0, qtK1, qtK2, qtK3, qtK4, List.getD_cons_zero, List.getD_cons_succ, Int.toNat_natCast, ne_eq, qcK, hbF, bsetF, bclrF, r3, g3_0, g3_1, g3_2, bx, w1]
        exact hq
    · intro nok2 G2 hP2
      have r2 := Rf_k (P2_rf (PFr_a3 (c := 4) q1 h (dgT T len (k + 1)) (by decide)).1 hP2.1 hP2.2.1)
      have g2_0 : G2 3 0 = (h : Int) := by rw [hP2.1 3 (by decide)]; rw [qup_c (by decide)]; exact q2
      have g2_1 : G2 3 1 = (s : Int) := by rw [hP2.1 3 (by decide)]; rw [qup_c (by decide)]; exact q3
      have g2_2 : G2 3 2 = (a : Int) := by rw [hP2.1 3 (by decide)]; rw [qup_c (by decide)]; exact q4
      simp only [YK, c49, t49, cl52, tgK, lyK, rkK, wK, rfK, qRes_eq, qNon_eq, qup_ap, vup_ap, vcpy_ap, kc8_0, kc8_1, kc8_2, lc_lt, lc_gt, lc_eq, Option.toList_some, Option.toList_none, List.cons_append, List.nil_append, lay_len, lay_sz, Nat.reduceAdd, Nat.reduceSub, Nat.reduceMul, Int.reduceToNat, Int.reduceLE, Int.reduceLT, Int.reduceEq, Int.reduceAdd, Int.reduceSub, Int.reduceMul, Int.reduceNeg, Nat.reduceLeDiff, Nat.reduceLT, true_and, and_true, false_and, and_false, qcat_0, qcat_1, qcat_3, qcat_9, Nat.reduceEqDiff, if_true, if_false, ite_self, or_true, true_or, or_false, false_or, forall_const, not_true_eq_false, not_false_eq_true, false_implies, implies_true, qtK0, qtK1, qtK2, qtK3, qtK4, List.getD_cons_zero, List.getD_cons_succ, Int.toNat_natCast, ne_eq, qcK, hbF, bsetF, bclrF, r2, g2_0, g2_1, g2_2, bx, w1]
      refine k52f (hP2.up h (1) (by decide) : PFl (qup (qup G0 4 h (dgT T len (k + 1))) 5 h (1)) (qup G2 5 h (1)) len ((k + 2 : Nat) : Int)) (by omega) _ _ ?_
      have hq := hk (.inl ((k + 2 : Nat) : Int)) _ _ (Or.inl ⟨hTk, hb, Or.inr (Or.inl ⟨ok1, nok2, rfl⟩)⟩) ⟨PFl.up (c := 3) (PFl.up (c := 6) (hP2.up h (1) (by decide) : PFl (qup (qup G0 4 h (dgT T len (k + 1))) 5 h (1)) (qup G2 5 h (1)) len ((k + 2 : Nat) : Int)) h (0) (by decide)) 0 ((h + 1 : Nat) : Int) (by decide), PFr_b3 (PFr_a3 (c := 6) (PFr_a3 (c := 5) (PFr_a3 (c := 4) q1 h (dgT T len (k + 1)) (by decide)) h (1) (by decide)) h (0) (by decide)) _ (by decide)⟩
      simp only [YK, c49, t49, tgK, lyK, rkK, wK, rfK, qRes_eq, qNon_eq, qup_ap, vup_ap, vcpy_ap, kc8_0, kc8_1, kc8_2, lc_lt, lc_gt, lc_eq, Option.toList_some, Option.toList_none, List.cons_append, List.nil_append, lay_len, lay_sz, Nat.reduceAdd, Nat.reduceSub, Nat.reduceMul, Int.reduceToNat, Int.reduceLE, Int.reduceLT, Int.reduceEq, Int.reduceAdd, Int.reduceSub, Int.reduceMul, Int.reduceNeg, Nat.reduceLeDiff, Nat.reduceLT, true_and, and_true, false_and, and_false, qcat_0, qcat_1, qcat_3, qcat_9, Nat.reduceEqDiff, if_true, if_false, ite_self, or_true, true_or, or_false, false_or, forall_const, not_true_eq_false, not_false_eq_true, false_implies, implies_true, qtK0, qtK1, qtK2, qtK3, qtK4, List.getD_cons_zero, List.getD_cons_succ, Int.toNat_natCast, ne_eq, qcK, hbF, bsetF, bclrF, r2, g2_0, g2_1, g2_2, bx, w1]
      exact hq
  · intro nok1 G1 hP1
    have r1 := Rf_k (P2_rf q1.1 hP1.1 hP1.2.1)
    have g1_0 : G1 3 0 = (h : Int) := by rw [hP1.1 3 (by decide)]; exact q2
    have g1_1 : G1 3 1 = (s : Int) := by rw [hP1.1 3 (by decide)]; exact q3
    have g1_2 : G1 3 2 = (a : Int) := by rw [hP1.1 3 (by decide)]; exact q4
    simp only [YK, c49, t49, cl52, tgK, lyK, rkK, wK, rfK, qRes_eq, qNon_eq, qup_ap, vup_ap, vcpy_ap, kc8_0, kc8_1, kc8_2, lc_lt, lc_gt, lc_eq, Option.toList_some, Option.toList_none, List.cons_append, List.nil_append, lay_len, lay_sz, Nat.reduceAdd, Nat.reduceSub, Nat.reduceMul, Int.reduceToNat, Int.reduceLE, Int.reduceLT, Int.reduceEq, Int.reduceAdd, Int.reduceSub, Int.reduceMul, Int.reduceNeg, Nat.reduceLeDiff, Nat.reduceLT, true_and, and_true, false_and, and_false, qcat_0, qcat_1, qcat_3, qcat_9, Nat.reduceEqDiff, if_true, if_false, ite_self, or_true, true_or, or_false, false_or, forall_const, not_true_eq_false, not_false_eq_true, false_implies, implies_true, qtK0, qtK1, qtK2, qtK3, qtK4, List.getD_cons_zero, List.getD_cons_succ, Int.toNat_natCast, ne_eq, qcK, hbF, bsetF, bclrF, r1, g1_0, g1_1, g1_2, bx, w1]
    refine k52f (hP1.up h (1) (by decide) : PFl (qup G0 4 h (1)) (qup G1 4 h (1)) len ((k + 1 : Nat) : Int)) (by omega) _ _ ?_
    simp only [YK, c49, t49, cl52, tgK, lyK, rkK, wK, rfK, qRes_eq, qNon_eq, qup_ap, vup_ap, vcpy_ap, kc8_0, kc8_1, kc8_2, lc_lt, lc_gt, lc_eq, Option.toList_some, Option.toList_none, List.cons_append, List.nil_append, lay_len, lay_sz, Nat.reduceAdd, Nat.reduceSub, Nat.reduceMul, Int.reduceToNat, Int.reduceLE, Int.reduceLT, Int.reduceEq, Int.reduceAdd, Int.reduceSub, Int.reduceMul, Int.reduceNeg, Nat.reduceLeDiff, Nat.reduceLT, true_and, and_true, false_and, and_false, qcat_0, qcat_1, qcat_3, qcat_9, Nat.reduceEqDiff, if_true, if_false, ite_self, or_true, true_or, or_false, false_or, forall_const, not_true_eq_false, not_false_eq_true, false_implies, implies_true, qtK0, qtK1, qtK2, qtK3, qtK4, List.getD_cons_zero, List.getD_cons_succ, Int.toNat_natCast, ne_eq, qcK, hbF, bsetF, bclrF, r1, g1_0, g1_1, g1_2, bx, w1]
    refine k52f (PFl.up (c := 5) (hP1.up h (1) (by decide) : PFl (qup G0 4 h (1)) (qup G1 4 h (1)) len ((k + 1 : Nat) : Int)) h (1) (by decide)) (by omega) _ _ ?_
    have hq := hk (.inl ((k + 1 : Nat) : Int)) _ _ (Or.inl ⟨hTk, hb, Or.inl ⟨nok1, rfl⟩⟩) ⟨PFl.up (c := 3) (PFl.up (c := 6) (PFl.up (c := 5) (hP1.up h (1) (by decide) : PFl (qup G0 4 h (1)) (qup G1 4 h (1)) len ((k + 1 : Nat) : Int)) h (1) (by decide)) h (0) (by decide)) 0 ((h + 1 : Nat) : Int) (by decide), PFr_b3 (PFr_a3 (c := 6) (PFr_a3 (c := 5) (PFr_a3 (c := 4) q1 h (1) (by decide)) h (1) (by decide)) h (0) (by decide)) _ (by decide)⟩
    simp only [YK, c49, t49, tgK, lyK, rkK, wK, rfK, qRes_eq, qNon_eq, qup_ap, vup_ap, vcpy_ap, kc8_0, kc8_1, kc8_2, lc_lt, lc_gt, lc_eq, Option.toList_some, Option.toList_none, List.cons_append, List.nil_append, lay_len, lay_sz, Nat.reduceAdd, Nat.reduceSub, Nat.reduceMul, Int.reduceToNat, Int.reduceLE, Int.reduceLT, Int.reduceEq, Int.reduceAdd, Int.reduceSub, Int.reduceMul, Int.reduceNeg, Nat.reduceLeDiff, Nat.reduceLT, true_and, and_true, false_and, and_false, qcat_0, qcat_1, qcat_3, qcat_9, Nat.reduceEqDiff, if_true, if_false, ite_self, or_true, true_or, or_false, false_or, forall_const, not_true_eq_false, not_false_eq_true, false_implies, implies_true, qtK0, qtK1, qtK2, qtK3, qtK4, List.getD_cons_zero, List.getD_cons_succ, Int.toNat_natCast, ne_eq, qcK, hbF, bsetF, bclrF, r1, g1_0, g1_1, g1_2, bx, w1]
    exact hq
theorem k50_3 {tb : qTb} {F G0 G : XT} {T : Nat → Int} {len k h s a : Nat} {W : XT} {R : Option qV → qM → Prop} (hlen : len ≤ 120) (hk1 : k ≤ 120) (hT : ∀ j : Nat, j < len → F 1 j = T j ∧ 0 ≤ T j ∧ T j ≤ 255) (hTk : T k = 88) (hh0 : 0 < h) (hb : s < 4) (hP : P2 G0 G len (k + 1) (-9)) (hQ : PQ 3 F G0 h s a W) (hk : ∀ r G0 G, stp T len k h s a W r → post 3 F len r G0 G → R none (LAY, G)) : qW tb 50 (119, 1262) 0 [(3, 2), (3, 3), (9, 0), (9, 0)] [] (LAY, G) R := by
  have hQ0 := hQ
  obtain ⟨q1, ⟨q2, q3, q4⟩, ⟨q5, q6, q7⟩, -⟩ := hQ
  have w1 : w32 ((s : Int) + 1) = ((s + 1 : Nat) : Int) := by rw [w32_id ⟨by omega, by omega⟩]; omega
  have bx : (0 ≤ (s : Int) ∧ (s : Int) < 4) = True := eq_true (by omega)
  have wh : w32 ((h : Int) - 1) = (h : Int) - 1 := w32_id ⟨by omega, by omega⟩
  have hTb : ∀ G0, PFr 3 F G0 → ∀ j : Nat, j < len → G0 1 j = T j ∧ 0 ≤ T j ∧ T j ≤ 255 := fun G0 h0 j hj => by rw [h0.2 1 (by decide) (by decide)]; exact hT j hj
  have r0 := Rf_k (P2_rf q1.1 hP.1 hP.2.1)
  have g0_0 : G 3 0 = (h : Int) := by rw [hP.1 3 (by decide)]; exact q2
  have g0_1 : G 3 1 = (s : Int) := by rw [hP.1 3 (by decide)]; exact q3
  have g0_2 : G 3 2 = (a : Int) := by rw [hP.1 3 (by decide)]; exact q4
  simp only [YK, c50, t50, cl52, tgK, lyK, rkK, wK, rfK, qRes_eq, qNon_eq, qup_ap, vup_ap, vcpy_ap, kc8_0, kc8_1, kc8_2, lc_lt, lc_gt, lc_eq, Option.toList_some, Option.toList_none, List.cons_append, List.nil_append, lay_len, lay_sz, Nat.reduceAdd, Nat.reduceSub, Nat.reduceMul, Int.reduceToNat, Int.reduceLE, Int.reduceLT, Int.reduceEq, Int.reduceAdd, Int.reduceSub, Int.reduceMul, Int.reduceNeg, Nat.reduceLeDiff, Nat.reduceLT, true_and, and_true, false_and, and_false, qcat_0, qcat_1, qcat_3, qcat_9, Nat.reduceEqDiff, if_true, if_false, ite_self, or_true, true_or, or_false, false_or, forall_const, not_true_eq_false, not_false_eq_true, false_implies, implies_true, qtK0, qtK1, qtK2, qtK3, qtK4, List.getD_cons_zero, List.getD_cons_succ, Int.toNat_natCast, ne_eq, qcK, hbF, bsetF, bclrF, r0, g0_0, g0_1, g0_2, bx, w1, wh]
  refine k52 hP hlen (hTb _ q1) 0 ((h : Int) - 1) (by omega) (by omega) ?_ ?_
  · intro ok1 G1 hP1
    have r1 := Rf_k (P2_rf q1.1 hP1.1 hP1.2.1)
    have g1_0 : G1 3 0 = (h : Int) := by rw [hP1.1 3 (by decide)]; exact q2
    have g1_1 : G1 3 1 = (s : Int) := by rw [hP1.1 3 (by decide)]; exact q3
    have g1_2 : G1 3 2 = (a : Int) := by rw [hP1.1 3 (by decide)]; exact q4
    simp only [YK, c50, t50, cl53, tgK, lyK, rkK, wK, rfK, qRes_eq, qNon_eq, qup_ap, vup_ap, vcpy_ap, kc8_0, kc8_1, kc8_2, lc_lt, lc_gt, lc_eq, Option.toList_some, Option.toList_none, List.cons_append, List.nil_append, lay_len, lay_sz, Nat.reduceAdd, Nat.reduceSub, Nat.reduceMul, Int.reduceToNat, Int.reduceLE, Int.reduceLT, Int.reduceEq, Int.reduceAdd, Int.reduceSub, Int.reduceMul, Int.reduceNeg, Nat.reduceLeDiff, Nat.reduceLT, true_and, and_true, false_and, and_false, qcat_0, qcat_1, qcat_3, qcat_9, Nat.reduceEqDiff, if_true, if_false, ite_self, or_true, true_or, or_false, false_or, forall_const, not_true_eq_false, not_false_eq_true, false_implies, implies_true, qtK0, qtK1, qtK2, qtK3, qtK4, List.getD_cons_zero, List.getD_cons_succ, Int.toNat_natCast, ne_eq, qcK, hbF, bsetF, bclrF, r1, g1_0, g1_1, g1_2, bx, w1, wh]
    refine k53 (hP1.up s (dgT T len (k + 1)) (by decide)) hlen (hTb _ (PFr_a3 (c := 7) q1 s (dgT T len (k + 1)) (by decide))) 0 79 ⟨by omega, by omega⟩ ⟨by decide, by decide⟩ (by omega) ?_ ?_ ?_
    · intro ok2 ok3 G2 hP2
      have ok2 : okd T len (k + 2) 0 7 := ok2
      have ok3 : okd T len (k + 3) 0 9 := by
        have e : (if dgT T len (k + 2) = (0 : Int) / 10 then (0 : Int) % 10 else 0) = 0 := by rw [show (0 : Int) % 10 = 0 from rfl, ite_self]
        have e2 : (if dgT T len (k + 2) = (79 : Int) / 10 then (79 : Int) % 10 else 9) = 9 := by rw [show (79 : Int) % 10 = 9 from rfl, ite_self]
        rw [e, e2] at ok3
        exact ok3
      have r2 := Rf_k (P2_rf (PFr_a3 (c := 7) q1 s (dgT T len (k + 1)) (by decide)).1 hP2.1 hP2.2.1)
      have g2_0 : G2 3 0 = (h : Int) := by rw [hP2.1 3 (by decide)]; rw [qup_c (by decide)]; exact q2
      have g2_1 : G2 3 1 = (s : Int) := by rw [hP2.1 3 (by decide)]; rw [qup_c (by decide)]; exact q3
      have g2_2 : G2 3 2 = (a : Int) := by rw [hP2.1 3 (by decide)]; rw [qup_c (by decide)]; exact q4
      simp only [YK, c50, t50, cl53, tgK, lyK, rkK, wK, rfK, qRes_eq, qNon_eq, qup_ap, vup_ap, vcpy_ap, kc8_0, kc8_1, kc8_2, lc_lt, lc_gt, lc_eq, Option.toList_some, Option.toList_none, List.cons_append, List.nil_append, lay_len, lay_sz, Nat.reduceAdd, Nat.reduceSub, Nat.reduceMul, Int.reduceToNat, Int.reduceLE, Int.reduceLT, Int.reduceEq, Int.reduceAdd, Int.reduceSub, Int.reduceMul, Int.reduceNeg, Nat.reduceLeDiff, Nat.reduceLT, true_and, and_true, false_and, and_false, qcat_0, qcat_1, qcat_3, qcat_9, Nat.reduceEqDiff, if_true, if_false, ite_self, or_true, true_or, or_false, false_or, forall_const, not_true_eq_false, not_false_eq_true, false_implies, implies_true, qtK0, qtK1, qtK2, qtK3, qtK4, List.getD_cons_zero, List.getD_cons_succ, Int.toNat_natCast, ne_eq, qcK, hbF, bsetF, bclrF, r2, g2_0, g2_1, g2_2, bx, w1, wh]
      refine k53 (hP2.up s (dgT T len (k + 2) * 10 + dgT T len (k + 3)) (by decide)) hlen (hTb _ (PFr_a3 (c := 8) (PFr_a3 (c := 7) q1 s (dgT T len (k + 1)) (by decide)) s (dgT T len (k + 2) * 10 + dgT T len (k + 3)) (by decide))) (dgT T len (k + 2) * 10 + dgT T len (k + 3)) 79 ⟨by unfold okd at ok2 ok3; omega, by unfold okd at ok2 ok3; omega⟩ ⟨by decide, by decide⟩ (by omega) ?_ ?_ ?_
      · intro ok4 ok5 G3 hP3
        have e10 : (dgT T len (k + 2) * 10 + dgT T len (k + 3)) / 10 = dgT T len (k + 2) := by unfold okd at ok3; omega
        have e11 : (dgT T len (k + 2) * 10 + dgT T len (k + 3)) % 10 = dgT T len (k + 3) := by unfold okd at ok3; omega
        have ok4 : okd T len (k + 4) (dgT T len (k + 2)) 7 := by rw [e10] at ok4; exact ok4
        have ok5 : okd T len (k + 5) (if dgT T len (k + 4) = dgT T len (k + 2) then dgT T len (k + 3) else 0) 9 := by
          have e2 : (if dgT T len (k + 4) = (79 : Int) / 10 then (79 : Int) % 10 else 9) = 9 := by rw [show (79 : Int) % 10 = 9 from rfl, ite_self]
          rw [e10, e11, e2] at ok5
          exact ok5
        have r3 := Rf_k (P2_rf (PFr_a3 (c := 8) (PFr_a3 (c := 7) q1 s (dgT T len (k + 1)) (by decide)) s (dgT T len (k + 2) * 10 + dgT T len (k + 3)) (by decide)).1 hP3.1 hP3.2.1)
        have g3_0 : G3 3 0 = (h : Int) := by rw [hP3.1 3 (by decide)]; rw [qup_c (by decide), qup_c (by decide)]; exact q2
        have g3_1 : G3 3 1 = (s : Int) := by rw [hP3.1 3 (by decide)]; rw [qup_c (by decide), qup_c (by decide)]; exact q3
        have g3_2 : G3 3 2 = (a : Int) := by rw [hP3.1 3 (by decide)]; rw [qup_c (by decide), qup_c (by decide)]; exact q4
        have hq := hk (.inr (k + 6, h, s + 1, a, qup (qup (qup W 3 s (dgT T len (k + 1))) 4 s (dgT T len (k + 2) * 10 + dgT T len (k + 3))) 5 s (dgT T len (k + 4) * 10 + dgT T len (k + 5)))) _ _ (Or.inr (Or.inl ⟨hTk, hh0, hb, Or.inr (Or.inr (Or.inr (Or.inr (Or.inr (⟨ok1, ok2, ok3, ok4, ok5, rfl⟩)))))⟩)) ⟨((hP3.up s (dgT T len (k + 4) * 10 + dgT T len (k + 5)) (by decide)).up 1 ((s + 1 : Nat) : Int) (by decide) : P2 _ _ len (k + 6) (-9)), PQ_X3 hQ0 hb (dgT T len (k + 1)) (dgT T len (k + 2) * 10 + dgT T len (k + 3)) (dgT T len (k + 4) * 10 + dgT T len (k + 5))⟩
        simp only [YK, c50, t50, tgK, lyK, rkK, wK, rfK, qRes_eq, qNon_eq, qup_ap, vup_ap, vcpy_ap, kc8_0, kc8_1, kc8_2, lc_lt, lc_gt, lc_eq, Option.toList_some, Option.toList_none, List.cons_append, List.nil_append, lay_len, lay_sz, Nat.reduceAdd, Nat.reduceSub, Nat.reduceMul, Int.reduceToNat, Int.reduceLE, Int.reduceLT, Int.reduceEq, Int.reduceAdd, Int.reduceSub, Int.reduceMul, Int.reduceNeg, Nat.reduceLeDiff, Nat.reduceLT, true_and, and_true, false_and, and_false, qcat_0, qcat_1, qcat_3, qcat_9, Nat.reduceEqDiff, if_true, if_false, ite_self, or_true, true_or, or_false, false_or, forall_const, not_true_eq_false, not_false_eq_true, false_implies, implies_true, qtK0, qtK1, qtK2, qtK3, qtK4, List.getD_cons_zero, List.getD_cons_succ, Int.toNat_natCast, ne_eq, qcK, hbF, bsetF, bclrF, r3, g3_0, g3_1, g3_2, bx, w1, wh]
        exact hq
      · intro nok4 G3 u0 hP3
        have e10 : (dgT T len (k + 2) * 10 + dgT T len (k + 3)) / 10 = dgT T len (k + 2) := by unfold okd at ok3; omega
        have e11 : (dgT T len (k + 2) * 10 + dgT T len (k + 3)) % 10 = dgT T len (k + 3) := by unfold okd at ok3; omega
        have nok4 : ¬ okd T len (k + 4) (dgT T len (k + 2)) 7 := by rw [e10] at nok4; exact nok4
        have r3 := Rf_k (P2_rf (PFr_a3 (c := 8) (PFr_a3 (c := 7) q1 s (dgT T len (k + 1)) (by decide)) s (dgT T len (k + 2) * 10 + dgT T len (k + 3)) (by decide)).1 hP3.1 hP3.2.1)
        have g3_0 : G3 3 0 = (h : Int) := by rw [hP3.1 3 (by decide)]; rw [qup_c (by decide), qup_c (by decide)]; exact q2
        have g3_1 : G3 3 1 = (s : Int) := by rw [hP3.1 3 (by decide)]; rw [qup_c (by decide), qup_c (by decide)]; exact q3
        have g3_2 : G3 3 2 = (a : Int) := by rw [hP3.1 3 (by decide)]; rw [qup_c (by decide), qup_c (by decide)]; exact q4
        have hq := hk (.inl ((k + 4 : Nat) : Int)) _ _ (Or.inr (Or.inl ⟨hTk, hh0, hb, Or.inr (Or.inr (Or.inr (Or.inl ⟨ok1, ok2, ok3, nok4, rfl⟩)))⟩)) ⟨PFl.up (c := 3) (hP3.up s (u0) (by decide) : PFl (qup (qup (qup G0 7 s (dgT T len (k + 1))) 8 s (dgT T len (k + 2) * 10 + dgT T len (k + 3))) 9 s (u0)) (qup G3 9 s (u0)) len ((k + 4 : Nat) : Int)) 1 ((s + 1 : Nat) : Int) (by decide), PFr_b3 (PFr_a3 (c := 9) (PFr_a3 (c := 8) (PFr_a3 (c := 7) q1 s (dgT T len (k + 1)) (by decide)) s (dgT T len (k + 2) * 10 + dgT T len (k + 3)) (by decide)) s (u0) (by decide)) _ (by decide)⟩
        simp only [YK, c50, t50, tgK, lyK, rkK, wK, rfK, qRes_eq, qNon_eq, qup_ap, vup_ap, vcpy_ap, kc8_0, kc8_1, kc8_2, lc_lt, lc_gt, lc_eq, Option.toList_some, Option.toList_none, List.cons_append, List.nil_append, lay_len, lay_sz, Nat.reduceAdd, Nat.reduceSub, Nat.reduceMul, Int.reduceToNat, Int.reduceLE, Int.reduceLT, Int.reduceEq, Int.reduceAdd, Int.reduceSub, Int.reduceMul, Int.reduceNeg, Nat.reduceLeDiff, Nat.reduceLT, true_and, and_true, false_and, and_false, qcat_0, qcat_1, qcat_3, qcat_9, Nat.reduceEqDiff, if_true, if_false, ite_self, or_true, true_or, or_false, false_or, forall_const, not_true_eq_false, not_false_eq_true, false_implies, implies_true, qtK0, qtK1, qtK2, qtK3, qtK4, List.getD_cons_zero, List.getD_cons_succ, Int.toNat_natCast, ne_eq, qcK, hbF, bsetF, bclrF, r3, g3_0, g3_1, g3_2, bx, w1, wh]
        exact hq
      · intro ok4 nok5 G3 u0 hP3
        have e10 : (dgT T len (k + 2) * 10 + dgT T len (k + 3)) / 10 = dgT T len (k + 2) := by unfold okd at ok3; omega
        have e11 : (dgT T len (k + 2) * 10 + dgT T len (k + 3)) % 10 = dgT T len (k + 3) := by unfold okd at ok3; omega
        have ok4 : okd T len (k + 4) (dgT T len (k + 2)) 7 := by rw [e10] at ok4; exact ok4
        have nok5 : ¬ okd T len (k + 5) (if dgT T len (k + 4) = dgT T len (k + 2) then dgT T len (k + 3) else 0) 9 := by
          have e2 : (if dgT T len (k + 4) = (79 : Int) / 10 then (79 : Int) % 10 else 9) = 9 := by rw [show (79 : Int) % 10 = 9 from rfl, ite_self]
          rw [e10, e11, e2] at nok5
          exact nok5
        have r3 := Rf_k (P2_rf (PFr_a3 (c := 8) (PFr_a3 (c := 7) q1 s (dgT T len (k + 1)) (by decide)) s (dgT T len (k + 2) * 10 + dgT T len (k + 3)) (by decide)).1 hP3.1 hP3.2.1)
        have g3_0 : G3 3 0 = (h : Int) := by rw [hP3.1 3 (by decide)]; rw [qup_c (by decide), qup_c (by decide)]; exact q2
        have g3_1 : G3 3 1 = (s : Int) := by rw [hP3.1 3 (by decide)]; rw [qup_c (by decide), qup_c (by decide)]; exact q3
        have g3_2 : G3 3 2 = (a : Int) := by rw [hP3.1 3 (by decide)]; rw [qup_c (by decide), qup_c (by decide)]; exact q4
        have hq := hk (.inl ((k + 5 : Nat) : Int)) _ _ (Or.inr (Or.inl ⟨hTk, hh0, hb, Or.inr (Or.inr (Or.inr (Or.inr (Or.inl ⟨ok1, ok2, ok3, ok4, nok5, rfl⟩))))⟩)) ⟨PFl.up (c := 3) (hP3.up s (u0) (by decide) : PFl (qup (qup (qup G0 7 s (dgT T len (k + 1))) 8 s (dgT T len (k + 2) * 10 + dgT T len (k + 3))) 9 s (u0)) (qup G3 9 s (u0)) len ((k + 5 : Nat) : Int)) 1 ((s + 1 : Nat) : Int) (by decide), PFr_b3 (PFr_a3 (c := 9) (PFr_a3 (c := 8) (PFr_a3 (c := 7) q1 s (dgT T len (k + 1)) (by decide)) s (dgT T len (k + 2) * 10 + dgT T len (k + 3)) (by decide)) s (u0) (by decide)) _ (by decide)⟩
        simp only [YK, c50, t50, tgK, lyK, rkK, wK, rfK, qRes_eq, qNon_eq, qup_ap, vup_ap, vcpy_ap, kc8_0, kc8_1, kc8_2, lc_lt, lc_gt, lc_eq, Option.toList_some, Option.toList_none, List.cons_append, List.nil_append, lay_len, lay_sz, Nat.reduceAdd, Nat.reduceSub, Nat.reduceMul, Int.reduceToNat, Int.reduceLE, Int.reduceLT, Int.reduceEq, Int.reduceAdd, Int.reduceSub, Int.reduceMul, Int.reduceNeg, Nat.reduceLeDiff, Nat.reduceLT, true_and, and_true, false_and, and_false, qcat_0, qcat_1, qcat_3, qcat_9, Nat.reduceEqDiff, if_true, if_false, ite_self, or_true, true_or, or_false, false_or, forall_const, not_true_eq_false, not_false_eq_true, false_implies, implies_true, qtK0, qtK1, qtK2, qtK3, qtK4, List.getD_cons_zero, List.getD_cons_succ, Int.toNat_natCast, ne_eq, qcK, hbF, bsetF, bclrF, r3, g3_0, g3_1, g3_2, bx, w1, wh]
        exact hq
    · intro nok2 G2 u0 hP2
      have nok2 : ¬ okd T len (k + 2) 0 7 := nok2
      have r2 := Rf_k (P2_rf (PFr_a3 (c := 7) q1 s (dgT T len (k + 1)) (by decide)).1 hP2.1 hP2.2.1)
      have g2_0 : G2 3 0 = (h : Int) := by rw [hP2.1 3 (by decide)]; rw [qup_c (by decide)]; exact q2
      have g2_1 : G2 3 1 = (s : Int) := by rw [hP2.1 3 (by decide)]; rw [qup_c (by decide)]; exact q3
      have g2_2 : G2 3 2 = (a : Int) := by rw [hP2.1 3 (by decide)]; rw [qup_c (by decide)]; exact q4
      simp only [YK, c50, t50, cl53, tgK, lyK, rkK, wK, rfK, qRes_eq, qNon_eq, qup_ap, vup_ap, vcpy_ap, kc8_0, kc8_1, kc8_2, lc_lt, lc_gt, lc_eq, Option.toList_some, Option.toList_none, List.cons_append, List.nil_append, lay_len, lay_sz, Nat.reduceAdd, Nat.reduceSub, Nat.reduceMul, Int.reduceToNat, Int.reduceLE, Int.reduceLT, Int.reduceEq, Int.reduceAdd, Int.reduceSub, Int.reduceMul, Int.reduceNeg, Nat.reduceLeDiff, Nat.reduceLT, true_and, and_true, false_and, and_false, qcat_0, qcat_1, qcat_3, qcat_9, Nat.reduceEqDiff, if_true, if_false, ite_self, or_true, true_or, or_false, false_or, forall_const, not_true_eq_false, not_false_eq_true, false_implies, implies_true, qtK0, qtK1, qtK2, qtK3, qtK4, List.getD_cons_zero, List.getD_cons_succ, Int.toNat_natCast, ne_eq, qcK, hbF, bsetF, bclrF, r2, g2_0, g2_1, g2_2, bx, w1, wh]
      refine k53f (hP2.up s (u0) (by decide) : PFl (qup (qup G0 7 s (dgT T len (k + 1))) 8 s (u0)) (qup G2 8 s (u0)) len ((k + 2 : Nat) : Int)) (by omega) _ _ ?_
      intro u1
      have hq := hk (.inl ((k + 2 : Nat) : Int)) _ _ (Or.inr (Or.inl ⟨hTk, hh0, hb, Or.inr (Or.inl ⟨ok1, nok2, rfl⟩)⟩)) ⟨PFl.up (c := 3) (PFl.up (c := 9) (hP2.up s (u0) (by decide) : PFl (qup (qup G0 7 s (dgT T len (k + 1))) 8 s (u0)) (qup G2 8 s (u0)) len ((k + 2 : Nat) : Int)) s (u1) (by decide)) 1 ((s + 1 : Nat) : Int) (by decide), PFr_b3 (PFr_a3 (c := 9) (PFr_a3 (c := 8) (PFr_a3 (c := 7) q1 s (dgT T len (k + 1)) (by decide)) s (u0) (by decide)) s (u1) (by decide)) _ (by decide)⟩
      simp only [YK, c50, t50, tgK, lyK, rkK, wK, rfK, qRes_eq, qNon_eq, qup_ap, vup_ap, vcpy_ap, kc8_0, kc8_1, kc8_2, lc_lt, lc_gt, lc_eq, Option.toList_some, Option.toList_none, List.cons_append, List.nil_append, lay_len, lay_sz, Nat.reduceAdd, Nat.reduceSub, Nat.reduceMul, Int.reduceToNat, Int.reduceLE, Int.reduceLT, Int.reduceEq, Int.reduceAdd, Int.reduceSub, Int.reduceMul, Int.reduceNeg, Nat.reduceLeDiff, Nat.reduceLT, true_and, and_true, false_and, and_false, qcat_0, qcat_1, qcat_3, qcat_9, Nat.reduceEqDiff, if_true, if_false, ite_self, or_true, true_or, or_false, false_or, forall_const, not_true_eq_false, not_false_eq_true, false_implies, implies_true, qtK0, qtK1, qtK2, qtK3, qtK4, List.getD_cons_zero, List.getD_cons_succ, Int.toNat_natCast, ne_eq, qcK, hbF, bsetF, bclrF, r2, g2_0, g2_1, g2_2, bx, w1, wh]
      exact hq
    · intro ok2 nok3 G2 u0 hP2
      have ok2 : okd T len (k + 2) 0 7 := ok2
      have nok3 : ¬ okd T len (k + 3) 0 9 := by
        have e : (if dgT T len (k + 2) = (0 : Int) / 10 then (0 : Int) % 10 else 0) = 0 := by rw [show (0 : Int) % 10 = 0 from rfl, ite_self]
        have e2 : (if dgT T len (k + 2) = (79 : Int) / 10 then (79 : Int) % 10 else 9) = 9 := by rw [show (79 : Int) % 10 = 9 from rfl, ite_self]
        rw [e, e2] at nok3
        exact nok3
      have r2 := Rf_k (P2_rf (PFr_a3 (c := 7) q1 s (dgT T len (k + 1)) (by decide)).1 hP2.1 hP2.2.1)
      have g2_0 : G2 3 0 = (h : Int) := by rw [hP2.1 3 (by decide)]; rw [qup_c (by decide)]; exact q2
      have g2_1 : G2 3 1 = (s : Int) := by rw [hP2.1 3 (by decide)]; rw [qup_c (by decide)]; exact q3
      have g2_2 : G2 3 2 = (a : Int) := by rw [hP2.1 3 (by decide)]; rw [qup_c (by decide)]; exact q4
      simp only [YK, c50, t50, cl53, tgK, lyK, rkK, wK, rfK, qRes_eq, qNon_eq, qup_ap, vup_ap, vcpy_ap, kc8_0, kc8_1, kc8_2, lc_lt, lc_gt, lc_eq, Option.toList_some, Option.toList_none, List.cons_append, List.nil_append, lay_len, lay_sz, Nat.reduceAdd, Nat.reduceSub, Nat.reduceMul, Int.reduceToNat, Int.reduceLE, Int.reduceLT, Int.reduceEq, Int.reduceAdd, Int.reduceSub, Int.reduceMul, Int.reduceNeg, Nat.reduceLeDiff, Nat.reduceLT, true_and, and_true, false_and, and_false, qcat_0, qcat_1, qcat_3, qcat_9, Nat.reduceEqDiff, if_true, if_false, ite_self, or_true, true_or, or_false, false_or, forall_const, not_true_eq_false, not_false_eq_true, false_implies, implies_true, qtK0, qtK1, qtK2, qtK3, qtK4, List.getD_cons_zero, List.getD_cons_succ, Int.toNat_natCast, ne_eq, qcK, hbF, bsetF, bclrF, r2, g2_0, g2_1, g2_2, bx, w1, wh]
      refine k53f (hP2.up s (u0) (by decide) : PFl (qup (qup G0 7 s (dgT T len (k + 1))) 8 s (u0)) (qup G2 8 s (u0)) len ((k + 3 : Nat) : Int)) (by omega) _ _ ?_
      intro u2
      have hq := hk (.inl ((k + 3 : Nat) : Int)) _ _ (Or.inr (Or.inl ⟨hTk, hh0, hb, Or.inr (Or.inr (Or.inl ⟨ok1, ok2, nok3, rfl⟩))⟩)) ⟨PFl.up (c := 3) (PFl.up (c := 9) (hP2.up s (u0) (by decide) : PFl (qup (qup G0 7 s (dgT T len (k + 1))) 8 s (u0)) (qup G2 8 s (u0)) len ((k + 3 : Nat) : Int)) s (u2) (by decide)) 1 ((s + 1 : Nat) : Int) (by decide), PFr_b3 (PFr_a3 (c := 9) (PFr_a3 (c := 8) (PFr_a3 (c := 7) q1 s (dgT T len (k + 1)) (by decide)) s (u0) (by decide)) s (u2) (by decide)) _ (by decide)⟩
      simp only [YK, c50, t50, tgK, lyK, rkK, wK, rfK, qRes_eq, qNon_eq, qup_ap, vup_ap, vcpy_ap, kc8_0, kc8_1, kc8_2, lc_lt, lc_gt, lc_eq, Option.toList_some, Option.toList_none, List.cons_append, List.nil_append, lay_len, lay_sz, Nat.reduceAdd, Nat.reduceSub, Nat.reduceMul, Int.reduceToNat, Int.reduceLE, Int.reduceLT, Int.reduceEq, Int.reduceAdd, Int.reduceSub, Int.reduceMul, Int.reduceNeg, Nat.reduceLeDiff, Nat.reduceLT, true_and, and_true, false_and, and_false, qcat_0, qcat_1, qcat_3, qcat_9, Nat.reduceEqDiff, if_true, if_false, ite_self, or_true, true_or, or_false, false_or, forall_const, not_true_eq_false, not_false_eq_true, false_implies, implies_true, qtK0, qtK1, qtK2, qtK3, qtK4, List.getD_cons_zero, List.getD_cons_succ, Int.toNat_natCast, ne_eq, qcK, hbF, bsetF, bclrF, r2, g2_0, g2_1, g2_2, bx, w1, wh]
      exact hq
  · intro nok1 G1 hP1
    have r1 := Rf_k (P2_rf q1.1 hP1.1 hP1.2.1)
    have g1_0 : G1 3 0 = (h : Int) := by rw [hP1.1 3 (by decide)]; exact q2
    have g1_1 : G1 3 1 = (s : Int) := by rw [hP1.1 3 (by decide)]; exact q3
    have g1_2 : G1 3 2 = (a : Int) := by rw [hP1.1 3 (by decide)]; exact q4
    simp only [YK, c50, t50, cl53, tgK, lyK, rkK, wK, rfK, qRes_eq, qNon_eq, qup_ap, vup_ap, vcpy_ap, kc8_0, kc8_1, kc8_2, lc_lt, lc_gt, lc_eq, Option.toList_some, Option.toList_none, List.cons_append, List.nil_append, lay_len, lay_sz, Nat.reduceAdd, Nat.reduceSub, Nat.reduceMul, Int.reduceToNat, Int.reduceLE, Int.reduceLT, Int.reduceEq, Int.reduceAdd, Int.reduceSub, Int.reduceMul, Int.reduceNeg, Nat.reduceLeDiff, Nat.reduceLT, true_and, and_true, false_and, and_false, qcat_0, qcat_1, qcat_3, qcat_9, Nat.reduceEqDiff, if_true, if_false, ite_self, or_true, true_or, or_false, false_or, forall_const, not_true_eq_false, not_false_eq_true, false_implies, implies_true, qtK0, qtK1, qtK2, qtK3, qtK4, List.getD_cons_zero, List.getD_cons_succ, Int.toNat_natCast, ne_eq, qcK, hbF, bsetF, bclrF, r1, g1_0, g1_1, g1_2, bx, w1, wh]
    refine k53f (hP1.up s (0) (by decide) : PFl (qup G0 7 s (0)) (qup G1 7 s (0)) len ((k + 1 : Nat) : Int)) (by omega) _ _ ?_
    intro u3
    simp only [YK, c50, t50, cl53, tgK, lyK, rkK, wK, rfK, qRes_eq, qNon_eq, qup_ap, vup_ap, vcpy_ap, kc8_0, kc8_1, kc8_2, lc_lt, lc_gt, lc_eq, Option.toList_some, Option.toList_none, List.cons_append, List.nil_append, lay_len, lay_sz, Nat.reduceAdd, Nat.reduceSub, Nat.reduceMul, Int.reduceToNat, Int.reduceLE, Int.reduceLT, Int.reduceEq, Int.reduceAdd, Int.reduceSub, Int.reduceMul, Int.reduceNeg, Nat.reduceLeDiff, Nat.reduceLT, true_and, and_true, false_and, and_false, qcat_0, qcat_1, qcat_3, qcat_9, Nat.reduceEqDiff, if_true, if_false, ite_self, or_true, true_or, or_false, false_or, forall_const, not_true_eq_false, not_false_eq_true, false_implies, implies_true, qtK0, qtK1, qtK2, qtK3, qtK4, List.getD_cons_zero, List.getD_cons_succ, Int.toNat_natCast, ne_eq, qcK, hbF, bsetF, bclrF, r1, g1_0, g1_1, g1_2, bx, w1, wh]
    refine k53f (PFl.up (c := 8) (hP1.up s (0) (by decide) : PFl (qup G0 7 s (0)) (qup G1 7 s (0)) len ((k + 1 : Nat) : Int)) s (u3) (by decide)) (by omega) _ _ ?_
    intro u4
    have hq := hk (.inl ((k + 1 : Nat) : Int)) _ _ (Or.inr (Or.inl ⟨hTk, hh0, hb, Or.inl ⟨nok1, rfl⟩⟩)) ⟨PFl.up (c := 3) (PFl.up (c := 9) (PFl.up (c := 8) (hP1.up s (0) (by decide) : PFl (qup G0 7 s (0)) (qup G1 7 s (0)) len ((k + 1 : Nat) : Int)) s (u3) (by decide)) s (u4) (by decide)) 1 ((s + 1 : Nat) : Int) (by decide), PFr_b3 (PFr_a3 (c := 9) (PFr_a3 (c := 8) (PFr_a3 (c := 7) q1 s (0) (by decide)) s (u3) (by decide)) s (u4) (by decide)) _ (by decide)⟩
    simp only [YK, c50, t50, tgK, lyK, rkK, wK, rfK, qRes_eq, qNon_eq, qup_ap, vup_ap, vcpy_ap, kc8_0, kc8_1, kc8_2, lc_lt, lc_gt, lc_eq, Option.toList_some, Option.toList_none, List.cons_append, List.nil_append, lay_len, lay_sz, Nat.reduceAdd, Nat.reduceSub, Nat.reduceMul, Int.reduceToNat, Int.reduceLE, Int.reduceLT, Int.reduceEq, Int.reduceAdd, Int.reduceSub, Int.reduceMul, Int.reduceNeg, Nat.reduceLeDiff, Nat.reduceLT, true_and, and_true, false_and, and_false, qcat_0, qcat_1, qcat_3, qcat_9, Nat.reduceEqDiff, if_true, if_false, ite_self, or_true, true_or, or_false, false_or, forall_const, not_true_eq_false, not_false_eq_true, false_implies, implies_true, qtK0, qtK1, qtK2, qtK3, qtK4, List.getD_cons_zero, List.getD_cons_succ, Int.toNat_natCast, ne_eq, qcK, hbF, bsetF, bclrF, r1, g1_0, g1_1, g1_2, bx, w1, wh]
    exact hq
theorem k51_3 {tb : qTb} {F G0 G : XT} {T : Nat → Int} {len k h s a : Nat} {W : XT} {R : Option qV → qM → Prop} (hlen : len ≤ 120) (hk1 : k ≤ 120) (hT : ∀ j : Nat, j < len → F 1 j = T j ∧ 0 ≤ T j ∧ T j ≤ 255) (hTk : T k = 65) (hb : a < 12) (hP : P2 G0 G len (k + 1) (-9)) (hQ : PQ 3 F G0 h s a W) (hk : ∀ r G0 G, stp T len k h s a W r → post 3 F len r G0 G → R none (LAY, G)) : qW tb 51 (119, 1262) 0 [(3, 2), (3, 3), (9, 0)] [] (LAY, G) R := by
  have hQ0 := hQ
  obtain ⟨q1, ⟨q2, q3, q4⟩, ⟨q5, q6, q7⟩, -⟩ := hQ
  have w1 : w32 ((a : Int) + 1) = ((a + 1 : Nat) : Int) := by rw [w32_id ⟨by omega, by omega⟩]; omega
  have bx : (0 ≤ (a : Int) ∧ (a : Int) < 12) = True := eq_true (by omega)
  have hTb : ∀ G0, PFr 3 F G0 → ∀ j : Nat, j < len → G0 1 j = T j ∧ 0 ≤ T j ∧ T j ≤ 255 := fun G0 h0 j hj => by rw [h0.2 1 (by decide) (by decide)]; exact hT j hj
  have r0 := Rf_k (P2_rf q1.1 hP.1 hP.2.1)
  have g0_0 : G 3 0 = (h : Int) := by rw [hP.1 3 (by decide)]; exact q2
  have g0_1 : G 3 1 = (s : Int) := by rw [hP.1 3 (by decide)]; exact q3
  have g0_2 : G 3 2 = (a : Int) := by rw [hP.1 3 (by decide)]; exact q4
  simp only [YK, c51, t51, cl53, tgK, lyK, rkK, wK, rfK, qRes_eq, qNon_eq, qup_ap, vup_ap, vcpy_ap, kc8_0, kc8_1, kc8_2, lc_lt, lc_gt, lc_eq, Option.toList_some, Option.toList_none, List.cons_append, List.nil_append, lay_len, lay_sz, Nat.reduceAdd, Nat.reduceSub, Nat.reduceMul, Int.reduceToNat, Int.reduceLE, Int.reduceLT, Int.reduceEq, Int.reduceAdd, Int.reduceSub, Int.reduceMul, Int.reduceNeg, Nat.reduceLeDiff, Nat.reduceLT, true_and, and_true, false_and, and_false, qcat_0, qcat_1, qcat_3, qcat_9, Nat.reduceEqDiff, if_true, if_false, ite_self, or_true, true_or, or_false, false_or, forall_const, not_true_eq_false, not_false_eq_true, false_implies, implies_true, qtK0, qtK1, qtK2, qtK3, qtK4, List.getD_cons_zero, List.getD_cons_succ, Int.toNat_natCast, ne_eq, qcK, hbF, bsetF, bclrF, r0, g0_0, g0_1, g0_2, bx, w1]
  refine k53 hP hlen (hTb _ q1) 0 40 ⟨by omega, by omega⟩ ⟨by decide, by decide⟩ (by omega) ?_ ?_ ?_
  · intro ok1 ok2 G1 hP1
    have ok1 : okd T len (k + 1) 0 4 := ok1
    have ok2 : okd T len (k + 2) 0 (if dgT T len (k + 1) = 4 then 0 else 9) := by
      have e : (if dgT T len (k + 1) = (0 : Int) / 10 then (0 : Int) % 10 else 0) = 0 := by rw [show (0 : Int) % 10 = 0 from rfl, ite_self]
      rw [e] at ok2
      exact ok2
    have r1 := Rf_k (P2_rf q1.1 hP1.1 hP1.2.1)
    have g1_0 : G1 3 0 = (h : Int) := by rw [hP1.1 3 (by decide)]; exact q2
    have g1_1 : G1 3 1 = (s : Int) := by rw [hP1.1 3 (by decide)]; exact q3
    have g1_2 : G1 3 2 = (a : Int) := by rw [hP1.1 3 (by decide)]; exact q4
    simp only [YK, c51, t51, cl52, tgK, lyK, rkK, wK, rfK, qRes_eq, qNon_eq, qup_ap, vup_ap, vcpy_ap, kc8_0, kc8_1, kc8_2, lc_lt, lc_gt, lc_eq, Option.toList_some, Option.toList_none, List.cons_append, List.nil_append, lay_len, lay_sz, Nat.reduceAdd, Nat.reduceSub, Nat.reduceMul, Int.reduceToNat, Int.reduceLE, Int.reduceLT, Int.reduceEq, Int.reduceAdd, Int.reduceSub, Int.reduceMul, Int.reduceNeg, Nat.reduceLeDiff, Nat.reduceLT, true_and, and_true, false_and, and_false, qcat_0, qcat_1, qcat_3, qcat_9, Nat.reduceEqDiff, if_true, if_false, ite_self, or_true, true_or, or_false, false_or, forall_const, not_true_eq_false, not_false_eq_true, false_implies, implies_true, qtK0, qtK1, qtK2, qtK3, qtK4, List.getD_cons_zero, List.getD_cons_succ, Int.toNat_natCast, ne_eq, qcK, hbF, bsetF, bclrF, r1, g1_0, g1_1, g1_2, bx, w1]
    refine k52 (hP1.up a (dgT T len (k + 1) * 10 + dgT T len (k + 2)) (by decide)) hlen (hTb _ (PFr_a3 (c := 10) q1 a (dgT T len (k + 1) * 10 + dgT T len (k + 2)) (by decide))) 0 3 (by omega) (by omega) ?_ ?_
    · intro ok3 G2 hP2
      have r2 := Rf_k (P2_rf (PFr_a3 (c := 10) q1 a (dgT T len (k + 1) * 10 + dgT T len (k + 2)) (by decide)).1 hP2.1 hP2.2.1)
      have g2_0 : G2 3 0 = (h : Int) := by rw [hP2.1 3 (by decide)]; rw [qup_c (by decide)]; exact q2
      have g2_1 : G2 3 1 = (s : Int) := by rw [hP2.1 3 (by decide)]; rw [qup_c (by decide)]; exact q3
      have g2_2 : G2 3 2 = (a : Int) := by rw [hP2.1 3 (by decide)]; rw [qup_c (by decide)]; exact q4
      simp only [YK, c51, t51, cl53, tgK, lyK, rkK, wK, rfK, qRes_eq, qNon_eq, qup_ap, vup_ap, vcpy_ap, kc8_0, kc8_1, kc8_2, lc_lt, lc_gt, lc_eq, Option.toList_some, Option.toList_none, List.cons_append, List.nil_append, lay_len, lay_sz, Nat.reduceAdd, Nat.reduceSub, Nat.reduceMul, Int.reduceToNat, Int.reduceLE, Int.reduceLT, Int.reduceEq, Int.reduceAdd, Int.reduceSub, Int.reduceMul, Int.reduceNeg, Nat.reduceLeDiff, Nat.reduceLT, true_and, and_true, false_and, and_false, qcat_0, qcat_1, qcat_3, qcat_9, Nat.reduceEqDiff, if_true, if_false, ite_self, or_true, true_or, or_false, false_or, forall_const, not_true_eq_false, not_false_eq_true, false_implies, implies_true, qtK0, qtK1, qtK2, qtK3, qtK4, List.getD_cons_zero, List.getD_cons_succ, Int.toNat_natCast, ne_eq, qcK, hbF, bsetF, bclrF, r2, g2_0, g2_1, g2_2, bx, w1]
      refine k53 (hP2.up a (dgT T len (k + 3)) (by decide)) hlen (hTb _ (PFr_a3 (c := 11) (PFr_a3 (c := 10) q1 a (dgT T len (k + 1) * 10 + dgT T len (k + 2)) (by decide)) a (dgT T len (k + 3)) (by decide))) 1 30 ⟨by omega, by omega⟩ ⟨by decide, by decide⟩ (by omega) ?_ ?_ ?_
      · intro ok4 ok5 G3 hP3
        have ok4 : okd T len (k + 4) 0 3 := ok4
        have ok5 : okd T len (k + 5) (if dgT T len (k + 4) = 0 then 1 else 0) (if dgT T len (k + 4) = 3 then 0 else 9) := ok5
        have r3 := Rf_k (P2_rf (PFr_a3 (c := 11) (PFr_a3 (c := 10) q1 a (dgT T len (k + 1) * 10 + dgT T len (k + 2)) (by decide)) a (dgT T len (k + 3)) (by decide)).1 hP3.1 hP3.2.1)
        have g3_0 : G3 3 0 = (h : Int) := by rw [hP3.1 3 (by decide)]; rw [qup_c (by decide), qup_c (by decide)]; exact q2
        have g3_1 : G3 3 1 = (s : Int) := by rw [hP3.1 3 (by decide)]; rw [qup_c (by decide), qup_c (by decide)]; exact q3
        have g3_2 : G3 3 2 = (a : Int) := by rw [hP3.1 3 (by decide)]; rw [qup_c (by decide), qup_c (by decide)]; exact q4
        have hq := hk (.inr (k + 6, h, s, a + 1, qup (qup (qup W 6 a (dgT T len (k + 1) * 10 + dgT T len (k + 2))) 7 a (dgT T len (k + 3))) 8 a (dgT T len (k + 4) * 10 + dgT T len (k + 5)))) _ _ (Or.inr (Or.inr (Or.inl ⟨hTk, hb, Or.inr (Or.inr (Or.inr (Or.inr (Or.inr (⟨ok1, ok2, ok3, ok4, ok5, rfl⟩)))))⟩))) ⟨((hP3.up a (dgT T len (k + 4) * 10 + dgT T len (k + 5)) (by decide)).up 2 ((a + 1 : Nat) : Int) (by decide) : P2 _ _ len (k + 6) (-9)), PQ_A3 hQ0 hb (dgT T len (k + 1) * 10 + dgT T len (k + 2)) (dgT T len (k + 3)) (dgT T len (k + 4) * 10 + dgT T len (k + 5))⟩
        simp only [YK, c51, t51, tgK, lyK, rkK, wK, rfK, qRes_eq, qNon_eq, qup_ap, vup_ap, vcpy_ap, kc8_0, kc8_1, kc8_2, lc_lt, lc_gt, lc_eq, Option.toList_some, Option.toList_none, List.cons_append, List.nil_append, lay_len, lay_sz, Nat.reduceAdd, Nat.reduceSub, Nat.reduceMul, Int.reduceToNat, Int.reduceLE, Int.reduceLT, Int.reduceEq, Int.reduceAdd, Int.reduceSub, Int.reduceMul, Int.reduceNeg, Nat.reduceLeDiff, Nat.reduceLT, true_and, and_true, false_and, and_false, qcat_0, qcat_1, qcat_3, qcat_9, Nat.reduceEqDiff, if_true, if_false, ite_self, or_true, true_or, or_false, false_or, forall_const, not_true_eq_false, not_false_eq_true, false_implies, implies_true, qtK0, qtK1, qtK2, qtK3, qtK4, List.getD_cons_zero, List.getD_cons_succ, Int.toNat_natCast, ne_eq, qcK, hbF, bsetF, bclrF, r3, g3_0, g3_1, g3_2, bx, w1]
        exact hq
      · intro nok4 G3 u0 hP3
        have nok4 : ¬ okd T len (k + 4) 0 3 := nok4
        have r3 := Rf_k (P2_rf (PFr_a3 (c := 11) (PFr_a3 (c := 10) q1 a (dgT T len (k + 1) * 10 + dgT T len (k + 2)) (by decide)) a (dgT T len (k + 3)) (by decide)).1 hP3.1 hP3.2.1)
        have g3_0 : G3 3 0 = (h : Int) := by rw [hP3.1 3 (by decide)]; rw [qup_c (by decide), qup_c (by decide)]; exact q2
        have g3_1 : G3 3 1 = (s : Int) := by rw [hP3.1 3 (by decide)]; rw [qup_c (by decide), qup_c (by decide)]; exact q3
        have g3_2 : G3 3 2 = (a : Int) := by rw [hP3.1 3 (by decide)]; rw [qup_c (by decide), qup_c (by decide)]; exact q4
        have hq := hk (.inl ((k + 4 : Nat) : Int)) _ _ (Or.inr (Or.inr (Or.inl ⟨hTk, hb, Or.inr (Or.inr (Or.inr (Or.inl ⟨ok1, ok2, ok3, nok4, rfl⟩)))⟩))) ⟨PFl.up (c := 3) (hP3.up a (u0) (by decide) : PFl (qup (qup (qup G0 10 a (dgT T len (k + 1) * 10 + dgT T len (k + 2))) 11 a (dgT T len (k + 3))) 12 a (u0)) (qup G3 12 a (u0)) len ((k + 4 : Nat) : Int)) 2 ((a + 1 : Nat) : Int) (by decide), PFr_b3 (PFr_a3 (c := 12) (PFr_a3 (c := 11) (PFr_a3 (c := 10) q1 a (dgT T len (k + 1) * 10 + dgT T len (k + 2)) (by decide)) a (dgT T len (k + 3)) (by decide)) a (u0) (by decide)) _ (by decide)⟩
        simp only [YK, c51, t51, tgK, lyK, rkK, wK, rfK, qRes_eq, qNon_eq, qup_ap, vup_ap, vcpy_ap, kc8_0, kc8_1, kc8_2, lc_lt, lc_gt, lc_eq, Option.toList_some, Option.toList_none, List.cons_append, List.nil_append, lay_len, lay_sz, Nat.reduceAdd, Nat.reduceSub, Nat.reduceMul, Int.reduceToNat, Int.reduceLE, Int.reduceLT, Int.reduceEq, Int.reduceAdd, Int.reduceSub, Int.reduceMul, Int.reduceNeg, Nat.reduceLeDiff, Nat.reduceLT, true_and, and_true, false_and, and_false, qcat_0, qcat_1, qcat_3, qcat_9, Nat.reduceEqDiff, if_true, if_false, ite_self, or_true, true_or, or_false, false_or, forall_const, not_true_eq_false, not_false_eq_true, false_implies, implies_true, qtK0, qtK1, qtK2, qtK3, qtK4, List.getD_cons_zero, List.getD_cons_succ, Int.toNat_natCast, ne_eq, qcK, hbF, bsetF, bclrF, r3, g3_0, g3_1, g3_2, bx, w1]
        exact hq
      · intro ok4 nok5 G3 u0 hP3
        have ok4 : okd T len (k + 4) 0 3 := ok4
        have nok5 : ¬ okd T len (k + 5) (if dgT T len (k + 4) = 0 then 1 else 0) (if dgT T len (k + 4) = 3 then 0 else 9) := nok5
        have r3 := Rf_k (P2_rf (PFr_a3 (c := 11) (PFr_a3 (c := 10) q1 a (dgT T len (k + 1) * 10 + dgT T len (k + 2)) (by decide)) a (dgT T len (k + 3)) (by decide)).1 hP3.1 hP3.2.1)
        have g3_0 : G3 3 0 = (h : Int) := by rw [hP3.1 3 (by decide)]; rw [qup_c (by decide), qup_c (by decide)]; exact q2
        have g3_1 : G3 3 1 = (s : Int) := by rw [hP3.1 3 (by decide)]; rw [qup_c (by decide), qup_c (by decide)]; exact q3
        have g3_2 : G3 3 2 = (a : Int) := by rw [hP3.1 3 (by decide)]; rw [qup_c (by decide), qup_c (by decide)]; exact q4
        have hq := hk (.inl ((k + 5 : Nat) : Int)) _ _ (Or.inr (Or.inr (Or.inl ⟨hTk, hb, Or.inr (Or.inr (Or.inr (Or.inr (Or.inl ⟨ok1, ok2, ok3, ok4, nok5, rfl⟩))))⟩))) ⟨PFl.up (c := 3) (hP3.up a (u0) (by decide) : PFl (qup (qup (qup G0 10 a (dgT T len (k + 1) * 10 + dgT T len (k + 2))) 11 a (dgT T len (k + 3))) 12 a (u0)) (qup G3 12 a (u0)) len ((k + 5 : Nat) : Int)) 2 ((a + 1 : Nat) : Int) (by decide), PFr_b3 (PFr_a3 (c := 12) (PFr_a3 (c := 11) (PFr_a3 (c := 10) q1 a (dgT T len (k + 1) * 10 + dgT T len (k + 2)) (by decide)) a (dgT T len (k + 3)) (by decide)) a (u0) (by decide)) _ (by decide)⟩
        simp only [YK, c51, t51, tgK, lyK, rkK, wK, rfK, qRes_eq, qNon_eq, qup_ap, vup_ap, vcpy_ap, kc8_0, kc8_1, kc8_2, lc_lt, lc_gt, lc_eq, Option.toList_some, Option.toList_none, List.cons_append, List.nil_append, lay_len, lay_sz, Nat.reduceAdd, Nat.reduceSub, Nat.reduceMul, Int.reduceToNat, Int.reduceLE, Int.reduceLT, Int.reduceEq, Int.reduceAdd, Int.reduceSub, Int.reduceMul, Int.reduceNeg, Nat.reduceLeDiff, Nat.reduceLT, true_and, and_true, false_and, and_false, qcat_0, qcat_1, qcat_3, qcat_9, Nat.reduceEqDiff, if_true, if_false, ite_self, or_true, true_or, or_false, false_or, forall_const, not_true_eq_false, not_false_eq_true, false_implies, implies_true, qtK0, qtK1, qtK2, qtK3, qtK4, List.getD_cons_zero, List.getD_cons_succ, Int.toNat_natCast, ne_eq, qcK, hbF, bsetF, bclrF, r3, g3_0, g3_1, g3_2, bx, w1]
        exact hq
    · intro nok3 G2 hP2
      have r2 := Rf_k (P2_rf (PFr_a3 (c := 10) q1 a (dgT T len (k + 1) * 10 + dgT T len (k + 2)) (by decide)).1 hP2.1 hP2.2.1)
      have g2_0 : G2 3 0 = (h : Int) := by rw [hP2.1 3 (by decide)]; rw [qup_c (by decide)]; exact q2
      have g2_1 : G2 3 1 = (s : Int) := by rw [hP2.1 3 (by decide)]; rw [qup_c (by decide)]; exact q3
      have g2_2 : G2 3 2 = (a : Int) := by rw [hP2.1 3 (by decide)]; rw [qup_c (by decide)]; exact q4
      simp only [YK, c51, t51, cl53, tgK, lyK, rkK, wK, rfK, qRes_eq, qNon_eq, qup_ap, vup_ap, vcpy_ap, kc8_0, kc8_1, kc8_2, lc_lt, lc_gt, lc_eq, Option.toList_some, Option.toList_none, List.cons_append, List.nil_append, lay_len, lay_sz, Nat.reduceAdd, Nat.reduceSub, Nat.reduceMul, Int.reduceToNat, Int.reduceLE, Int.reduceLT, Int.reduceEq, Int.reduceAdd, Int.reduceSub, Int.reduceMul, Int.reduceNeg, Nat.reduceLeDiff, Nat.reduceLT, true_and, and_true, false_and, and_false, qcat_0, qcat_1, qcat_3, qcat_9, Nat.reduceEqDiff, if_true, if_false, ite_self, or_true, true_or, or_false, false_or, forall_const, not_true_eq_false, not_false_eq_true, false_implies, implies_true, qtK0, qtK1, qtK2, qtK3, qtK4, List.getD_cons_zero, List.getD_cons_succ, Int.toNat_natCast, ne_eq, qcK, hbF, bsetF, bclrF, r2, g2_0, g2_1, g2_2, bx, w1]
      refine k53f (hP2.up a (0) (by decide) : PFl (qup (qup G0 10 a (dgT T len (k + 1) * 10 + dgT T len (k + 2))) 11 a (0)) (qup G2 11 a (0)) len ((k + 3 : Nat) : Int)) (by omega) _ _ ?_
      intro u1
      have hq := hk (.inl ((k + 3 : Nat) : Int)) _ _ (Or.inr (Or.inr (Or.inl ⟨hTk, hb, Or.inr (Or.inr (Or.inl ⟨ok1, ok2, nok3, rfl⟩))⟩))) ⟨PFl.up (c := 3) (PFl.up (c := 12) (hP2.up a (0) (by decide) : PFl (qup (qup G0 10 a (dgT T len (k + 1) * 10 + dgT T len (k + 2))) 11 a (0)) (qup G2 11 a (0)) len ((k + 3 : Nat) : Int)) a (u1) (by decide)) 2 ((a + 1 : Nat) : Int) (by decide), PFr_b3 (PFr_a3 (c := 12) (PFr_a3 (c := 11) (PFr_a3 (c := 10) q1 a (dgT T len (k + 1) * 10 + dgT T len (k + 2)) (by decide)) a (0) (by decide)) a (u1) (by decide)) _ (by decide)⟩
      simp only [YK, c51, t51, tgK, lyK, rkK, wK, rfK, qRes_eq, qNon_eq, qup_ap, vup_ap, vcpy_ap, kc8_0, kc8_1, kc8_2, lc_lt, lc_gt, lc_eq, Option.toList_some, Option.toList_none, List.cons_append, List.nil_append, lay_len, lay_sz, Nat.reduceAdd, Nat.reduceSub, Nat.reduceMul, Int.reduceToNat, Int.reduceLE, Int.reduceLT, Int.reduceEq, Int.reduceAdd, Int.reduceSub, Int.reduceMul, Int.reduceNeg, Nat.reduceLeDiff, Nat.reduceLT, true_and, and_true, false_and, and_false, qcat_0, qcat_1, qcat_3, qcat_9, Nat.reduceEqDiff, if_true, if_false, ite_self, or_true, true_or, or_false, false_or, forall_const, not_true_eq_false, not_false_eq_true, false_implies, implies_true, qtK0, qtK1, qtK2, qtK3, qtK4, List.getD_cons_zero, List.getD_cons_succ, Int.toNat_natCast, ne_eq, qcK, hbF, bsetF, bclrF, r2, g2_0, g2_1, g2_2, bx, w1]
      exact hq
  · intro nok1 G1 u0 hP1
    have nok1 : ¬ okd T len (k + 1) 0 4 := nok1
    have r1 := Rf_k (P2_rf q1.1 hP1.1 hP1.2.1)
    have g1_0 : G1 3 0 = (h : Int) := by rw [hP1.1 3 (by decide)]; exact q2
    have g1_1 : G1 3 1 = (s : Int) := by rw [hP1.1 3 (by decide)]; exact q3
    have g1_2 : G1 3 2 = (a : Int) := by rw [hP1.1 3 (by decide)]; exact q4
    simp only [YK, c51, t51, cl52, tgK, lyK, rkK, wK, rfK, qRes_eq, qNon_eq, qup_ap, vup_ap, vcpy_ap, kc8_0, kc8_1, kc8_2, lc_lt, lc_gt, lc_eq, Option.toList_some, Option.toList_none, List.cons_append, List.nil_append, lay_len, lay_sz, Nat.reduceAdd, Nat.reduceSub, Nat.reduceMul, Int.reduceToNat, Int.reduceLE, Int.reduceLT, Int.reduceEq, Int.reduceAdd, Int.reduceSub, Int.reduceMul, Int.reduceNeg, Nat.reduceLeDiff, Nat.reduceLT, true_and, and_true, false_and, and_false, qcat_0, qcat_1, qcat_3, qcat_9, Nat.reduceEqDiff, if_true, if_false, ite_self, or_true, true_or, or_false, false_or, forall_const, not_true_eq_false, not_false_eq_true, false_implies, implies_true, qtK0, qtK1, qtK2, qtK3, qtK4, List.getD_cons_zero, List.getD_cons_succ, Int.toNat_natCast, ne_eq, qcK, hbF, bsetF, bclrF, r1, g1_0, g1_1, g1_2, bx, w1]
    refine k52f (hP1.up a (u0) (by decide) : PFl (qup G0 10 a (u0)) (qup G1 10 a (u0)) len ((k + 1 : Nat) : Int)) (by omega) _ _ ?_
    simp only [YK, c51, t51, cl53, tgK, lyK, rkK, wK, rfK, qRes_eq, qNon_eq, qup_ap, vup_ap, vcpy_ap, kc8_0, kc8_1, kc8_2, lc_lt, lc_gt, lc_eq, Option.toList_some, Option.toList_none, List.cons_append, List.nil_append, lay_len, lay_sz, Nat.reduceAdd, Nat.reduceSub, Nat.reduceMul, Int.reduceToNat, Int.reduceLE, Int.reduceLT, Int.reduceEq, Int.reduceAdd, Int.reduceSub, Int.reduceMul, Int.reduceNeg, Nat.reduceLeDiff, Nat.reduceLT, true_and, and_true, false_and, and_false, qcat_0, qcat_1, qcat_3, qcat_9, Nat.reduceEqDiff, if_true, if_false, ite_self, or_true, true_or, or_false, false_or, forall_const, not_true_eq_false, not_false_eq_true, false_implies, implies_true, qtK0, qtK1, qtK2, qtK3, qtK4, List.getD_cons_zero, List.getD_cons_succ, Int.toNat_natCast, ne_eq, qcK, hbF, bsetF, bclrF, r1, g1_0, g1_1, g1_2, bx, w1]
    refine k53f (PFl.up (c := 11) (hP1.up a (u0) (by decide) : PFl (qup G0 10 a (u0)) (qup G1 10 a (u0)) len ((k + 1 : Nat) : Int)) a (0) (by decide)) (by omega) _ _ ?_
    intro u2
    have hq := hk (.inl ((k + 1 : Nat) : Int)) _ _ (Or.inr (Or.inr (Or.inl ⟨hTk, hb, Or.inl ⟨nok1, rfl⟩⟩))) ⟨PFl.up (c := 3) (PFl.up (c := 12) (PFl.up (c := 11) (hP1.up a (u0) (by decide) : PFl (qup G0 10 a (u0)) (qup G1 10 a (u0)) len ((k + 1 : Nat) : Int)) a (0) (by decide)) a (u2) (by decide)) 2 ((a + 1 : Nat) : Int) (by decide), PFr_b3 (PFr_a3 (c := 12) (PFr_a3 (c := 11) (PFr_a3 (c := 10) q1 a (u0) (by decide)) a (0) (by decide)) a (u2) (by decide)) _ (by decide)⟩
    simp only [YK, c51, t51, tgK, lyK, rkK, wK, rfK, qRes_eq, qNon_eq, qup_ap, vup_ap, vcpy_ap, kc8_0, kc8_1, kc8_2, lc_lt, lc_gt, lc_eq, Option.toList_some, Option.toList_none, List.cons_append, List.nil_append, lay_len, lay_sz, Nat.reduceAdd, Nat.reduceSub, Nat.reduceMul, Int.reduceToNat, Int.reduceLE, Int.reduceLT, Int.reduceEq, Int.reduceAdd, Int.reduceSub, Int.reduceMul, Int.reduceNeg, Nat.reduceLeDiff, Nat.reduceLT, true_and, and_true, false_and, and_false, qcat_0, qcat_1, qcat_3, qcat_9, Nat.reduceEqDiff, if_true, if_false, ite_self, or_true, true_or, or_false, false_or, forall_const, not_true_eq_false, not_false_eq_true, false_implies, implies_true, qtK0, qtK1, qtK2, qtK3, qtK4, List.getD_cons_zero, List.getD_cons_succ, Int.toNat_natCast, ne_eq, qcK, hbF, bsetF, bclrF, r1, g1_0, g1_1, g1_2, bx, w1]
    exact hq
  · intro ok1 nok2 G1 u0 hP1
    have ok1 : okd T len (k + 1) 0 4 := ok1
    have nok2 : ¬ okd T len (k + 2) 0 (if dgT T len (k + 1) = 4 then 0 else 9) := by
      have e : (if dgT T len (k + 1) = (0 : Int) / 10 then (0 : Int) % 10 else 0) = 0 := by rw [show (0 : Int) % 10 = 0 from rfl, ite_self]
      rw [e] at nok2
      exact nok2
    have r1 := Rf_k (P2_rf q1.1 hP1.1 hP1.2.1)
    have g1_0 : G1 3 0 = (h : Int) := by rw [hP1.1 3 (by decide)]; exact q2
    have g1_1 : G1 3 1 = (s : Int) := by rw [hP1.1 3 (by decide)]; exact q3
    have g1_2 : G1 3 2 = (a : Int) := by rw [hP1.1 3 (by decide)]; exact q4
    simp only [YK, c51, t51, cl52, tgK, lyK, rkK, wK, rfK, qRes_eq, qNon_eq, qup_ap, vup_ap, vcpy_ap, kc8_0, kc8_1, kc8_2, lc_lt, lc_gt, lc_eq, Option.toList_some, Option.toList_none, List.cons_append, List.nil_append, lay_len, lay_sz, Nat.reduceAdd, Nat.reduceSub, Nat.reduceMul, Int.reduceToNat, Int.reduceLE, Int.reduceLT, Int.reduceEq, Int.reduceAdd, Int.reduceSub, Int.reduceMul, Int.reduceNeg, Nat.reduceLeDiff, Nat.reduceLT, true_and, and_true, false_and, and_false, qcat_0, qcat_1, qcat_3, qcat_9, Nat.reduceEqDiff, if_true, if_false, ite_self, or_true, true_or, or_false, false_or, forall_const, not_true_eq_false, not_false_eq_true, false_implies, implies_true, qtK0, qtK1, qtK2, qtK3, qtK4, List.getD_cons_zero, List.getD_cons_succ, Int.toNat_natCast, ne_eq, qcK, hbF, bsetF, bclrF, r1, g1_0, g1_1, g1_2, bx, w1]
    refine k52f (hP1.up a (u0) (by decide) : PFl (qup G0 10 a (u0)) (qup G1 10 a (u0)) len ((k + 2 : Nat) : Int)) (by omega) _ _ ?_
    simp only [YK, c51, t51, cl53, tgK, lyK, rkK, wK, rfK, qRes_eq, qNon_eq, qup_ap, vup_ap, vcpy_ap, kc8_0, kc8_1, kc8_2, lc_lt, lc_gt, lc_eq, Option.toList_some, Option.toList_none, List.cons_append, List.nil_append, lay_len, lay_sz, Nat.reduceAdd, Nat.reduceSub, Nat.reduceMul, Int.reduceToNat, Int.reduceLE, Int.reduceLT, Int.reduceEq, Int.reduceAdd, Int.reduceSub, Int.reduceMul, Int.reduceNeg, Nat.reduceLeDiff, Nat.reduceLT, true_and, and_true, false_and, and_false, qcat_0, qcat_1, qcat_3, qcat_9, Nat.reduceEqDiff, if_true, if_false, ite_self, or_true, true_or, or_false, false_or, forall_const, not_true_eq_false, not_false_eq_true, false_implies, implies_true, qtK0, qtK1, qtK2, qtK3, qtK4, List.getD_cons_zero, List.getD_cons_succ, Int.toNat_natCast, ne_eq, qcK, hbF, bsetF, bclrF, r1, g1_0, g1_1, g1_2, bx, w1]
    refine k53f (PFl.up (c := 11) (hP1.up a (u0) (by decide) : PFl (qup G0 10 a (u0)) (qup G1 10 a (u0)) len ((k + 2 : Nat) : Int)) a (0) (by decide)) (by omega) _ _ ?_
    intro u3
    have hq := hk (.inl ((k + 2 : Nat) : Int)) _ _ (Or.inr (Or.inr (Or.inl ⟨hTk, hb, Or.inr (Or.inl ⟨ok1, nok2, rfl⟩)⟩))) ⟨PFl.up (c := 3) (PFl.up (c := 12) (PFl.up (c := 11) (hP1.up a (u0) (by decide) : PFl (qup G0 10 a (u0)) (qup G1 10 a (u0)) len ((k + 2 : Nat) : Int)) a (0) (by decide)) a (u3) (by decide)) 2 ((a + 1 : Nat) : Int) (by decide), PFr_b3 (PFr_a3 (c := 12) (PFr_a3 (c := 11) (PFr_a3 (c := 10) q1 a (u0) (by decide)) a (0) (by decide)) a (u3) (by decide)) _ (by decide)⟩
    simp only [YK, c51, t51, tgK, lyK, rkK, wK, rfK, qRes_eq, qNon_eq, qup_ap, vup_ap, vcpy_ap, kc8_0, kc8_1, kc8_2, lc_lt, lc_gt, lc_eq, Option.toList_some, Option.toList_none, List.cons_append, List.nil_append, lay_len, lay_sz, Nat.reduceAdd, Nat.reduceSub, Nat.reduceMul, Int.reduceToNat, Int.reduceLE, Int.reduceLT, Int.reduceEq, Int.reduceAdd, Int.reduceSub, Int.reduceMul, Int.reduceNeg, Nat.reduceLeDiff, Nat.reduceLT, true_and, and_true, false_and, and_false, qcat_0, qcat_1, qcat_3, qcat_9, Nat.reduceEqDiff, if_true, if_false, ite_self, or_true, true_or, or_false, false_or, forall_const, not_true_eq_false, not_false_eq_true, false_implies, implies_true, qtK0, qtK1, qtK2, qtK3, qtK4, List.getD_cons_zero, List.getD_cons_succ, Int.toNat_natCast, ne_eq, qcK, hbF, bsetF, bclrF, r1, g1_0, g1_1, g1_2, bx, w1]
    exact hq
theorem k49_13 {tb : qTb} {F G0 G : XT} {T : Nat → Int} {len k h s a : Nat} {W : XT} {R : Option qV → qM → Prop} (hlen : len ≤ 120) (hk1 : k ≤ 120) (hT : ∀ j : Nat, j < len → F 1 j = T j ∧ 0 ≤ T j ∧ T j ≤ 255) (hTk : T k = 72) (hb : h < 4) (hP : P2 G0 G len (k + 1) (-9)) (hQ : PQ 13 F G0 h s a W) (hk : ∀ r G0 G, stp T len k h s a W r → post 13 F len r G0 G → R none (LAY, G)) : qW tb 49 (119, 1262) 0 [(3, 2), (3, 13), (9, 0)] [] (LAY, G) R := by
  have hQ0 := hQ
  obtain ⟨q1, ⟨q2, q3, q4⟩, ⟨q5, q6, q7⟩, -⟩ := hQ
  have w1 : w32 ((h : Int) + 1) = ((h + 1 : Nat) : Int) := by rw [w32_id ⟨by omega, by omega⟩]; omega
  have bx : (0 ≤ (h : Int) ∧ (h : Int) < 4) = True := eq_true (by omega)
  have hTb : ∀ G0, PFr 13 F G0 → ∀ j : Nat, j < len → G0 1 j = T j ∧ 0 ≤ T j ∧ T j ≤ 255 := fun G0 h0 j hj => by rw [h0.2 1 (by decide) (by decide)]; exact hT j hj
  have r0 := Rf_k (P2_rf q1.1 hP.1 hP.2.1)
  have g0_0 : G 13 0 = (h : Int) := by rw [hP.1 13 (by decide)]; exact q2
  have g0_1 : G 13 1 = (s : Int) := by rw [hP.1 13 (by decide)]; exact q3
  have g0_2 : G 13 2 = (a : Int) := by rw [hP.1 13 (by decide)]; exact q4
  simp only [YK, c49, t49, cl52, tgK, lyK, rkK, wK, rfK, qRes_eq, qNon_eq, qup_ap, vup_ap, vcpy_ap, kc8_0, kc8_1, kc8_2, lc_lt, lc_gt, lc_eq, Option.toList_some, Option.toList_none, List.cons_append, List.nil_append, lay_len, lay_sz, Nat.reduceAdd, Nat.reduceSub, Nat.reduceMul, Int.reduceToNat, Int.reduceLE, Int.reduceLT, Int.reduceEq, Int.reduceAdd, Int.reduceSub, Int.reduceMul, Int.reduceNeg, Nat.reduceLeDiff, Nat.reduceLT, true_and, and_true, false_and, and_false, qcat_0, qcat_1, qcat_3, qcat_9, Nat.reduceEqDiff, if_true, if_false, ite_self, or_true, true_or, or_false, false_or, forall_const, not_true_eq_false, not_false_eq_true, false_implies, implies_true, qtK0, qtK1, qtK2, qtK3, qtK4, List.getD_cons_zero, List.getD_cons_succ, Int.toNat_natCast, ne_eq, qcK, hbF, bsetF, bclrF, r0, g0_0, g0_1, g0_2, bx, w1]
  refine k52 hP hlen (hTb _ q1) 1 3 (by omega) (by omega) ?_ ?_
  · intro ok1 G1 hP1
    have r1 := Rf_k (P2_rf q1.1 hP1.1 hP1.2.1)
    have g1_0 : G1 13 0 = (h : Int) := by rw [hP1.1 13 (by decide)]; exact q2
    have g1_1 : G1 13 1 = (s : Int) := by rw [hP1.1 13 (by decide)]; exact q3
    have g1_2 : G1 13 2 = (a : Int) := by rw [hP1.1 13 (by decide)]; exact q4
    simp only [YK, c49, t49, cl52, tgK, lyK, rkK, wK, rfK, qRes_eq, qNon_eq, qup_ap, vup_ap, vcpy_ap, kc8_0, kc8_1, kc8_2, lc_lt, lc_gt, lc_eq, Option.toList_some, Option.toList_none, List.cons_append, List.nil_append, lay_len, lay_sz, Nat.reduceAdd, Nat.reduceSub, Nat.reduceMul, Int.reduceToNat, Int.reduceLE, Int.reduceLT, Int.reduceEq, Int.reduceAdd, Int.reduceSub, Int.reduceMul, Int.reduceNeg, Nat.reduceLeDiff, Nat.reduceLT, true_and, and_true, false_and, and_false, qcat_0, qcat_1, qcat_3, qcat_9, Nat.reduceEqDiff, if_true, if_false, ite_self, or_true, true_or, or_false, false_or, forall_const, not_true_eq_false, not_false_eq_true, false_implies, implies_true, qtK0, qtK1, qtK2, qtK3, qtK4, List.getD_cons_zero, List.getD_cons_succ, Int.toNat_natCast, ne_eq, qcK, hbF, bsetF, bclrF, r1, g1_0, g1_1, g1_2, bx, w1]
    refine k52 (hP1.up h (dgT T len (k + 1)) (by decide)) hlen (hTb _ (PFr_a13 (c := 14) q1 h (dgT T len (k + 1)) (by decide))) 1 9 (by omega) (by omega) ?_ ?_
    · intro ok2 G2 hP2
      have r2 := Rf_k (P2_rf (PFr_a13 (c := 14) q1 h (dgT T len (k + 1)) (by decide)).1 hP2.1 hP2.2.1)
      have g2_0 : G2 13 0 = (h : Int) := by rw [hP2.1 13 (by decide)]; rw [qup_c (by decide)]; exact q2
      have g2_1 : G2 13 1 = (s : Int) := by rw [hP2.1 13 (by decide)]; rw [qup_c (by decide)]; exact q3
      have g2_2 : G2 13 2 = (a : Int) := by rw [hP2.1 13 (by decide)]; rw [qup_c (by decide)]; exact q4
      simp only [YK, c49, t49, cl52, tgK, lyK, rkK, wK, rfK, qRes_eq, qNon_eq, qup_ap, vup_ap, vcpy_ap, kc8_0, kc8_1, kc8_2, lc_lt, lc_gt, lc_eq, Option.toList_some, Option.toList_none, List.cons_append, List.nil_append, lay_len, lay_sz, Nat.reduceAdd, Nat.reduceSub, Nat.reduceMul, Int.reduceToNat, Int.reduceLE, Int.reduceLT, Int.reduceEq, Int.reduceAdd, Int.reduceSub, Int.reduceMul, Int.reduceNeg, Nat.reduceLeDiff, Nat.reduceLT, true_and, and_true, false_and, and_false, qcat_0, qcat_1, qcat_3, qcat_9, Nat.reduceEqDiff, if_true, if_false, ite_self, or_true, true_or, or_false, false_or, forall_const, not_true_eq_false, not_false_eq_true, false_implies, implies_true, qtK0, qtK1, qtK2, qtK3, qtK4, List.getD_cons_zero, List.getD_cons_succ, Int.toNat_natCast, ne_eq, qcK, hbF, bsetF, bclrF, r2, g2_0, g2_1, g2_2, bx, w1]
      refine k52 (hP2.up h (dgT T len (k + 2)) (by decide)) hlen (hTb _ (PFr_a13 (c := 15) (PFr_a13 (c := 14) q1 h (dgT T len (k + 1)) (by decide)) h (dgT T len (k + 2)) (by decide))) 0 5 (by omega) (by omega) ?_ ?_
      · intro ok3 G3 hP3
        have r3 := Rf_k (P2_rf (PFr_a13 (c := 15) (PFr_a13 (c := 14) q1 h (dgT T len (k + 1)) (by decide)) h (dgT T len (k + 2)) (by decide)).1 hP3.1 hP3.2.1)
        have g3_0 : G3 13 0 = (h : Int) := by rw [hP3.1 13 (by decide)]; rw [qup_c (by decide), qup_c (by decide)]; exact q2
        have g3_1 : G3 13 1 = (s : Int) := by rw [hP3.1 13 (by decide)]; rw [qup_c (by decide), qup_c (by decide)]; exact q3
        have g3_2 : G3 13 2 = (a : Int) := by rw [hP3.1 13 (by decide)]; rw [qup_c (by decide), qup_c (by decide)]; exact q4
        have hq := hk (.inr (k + 4, h + 1, s, a, qup (qup (qup W 0 h (dgT T len (k + 1))) 1 h (dgT T len (k + 2))) 2 h (dgT T len (k + 3)))) _ _ (Or.inl ⟨hTk, hb, Or.inr (Or.inr (Or.inr (⟨ok1, ok2, ok3, rfl⟩)))⟩) ⟨((hP3.up h (dgT T len (k + 3)) (by decide)).up 0 ((h + 1 : Nat) : Int) (by decide) : P2 _ _ len (k + 4) (-9)), PQ_H13 hQ0 hb (dgT T len (k + 1)) (dgT T len (k + 2)) (dgT T len (k + 3))⟩
        simp only [YK, c49, t49, tgK, lyK, rkK, wK, rfK, qRes_eq, qNon_eq, qup_ap, vup_ap, vcpy_ap, kc8_0, kc8_1, kc8_2, lc_lt, lc_gt, lc_eq, Option.toList_some, Option.toList_none, List.cons_append, List.nil_append, lay_len, lay_sz, Nat.reduceAdd, Nat.reduceSub, Nat.reduceMul, Int.reduceToNat, Int.reduceLE, Int.reduceLT, Int.reduceEq, Int.reduceAdd, Int.reduceSub, Int.reduceMul, Int.reduceNeg, Nat.reduceLeDiff, Nat.reduceLT, true_and, and_true, false_and, and_false, qcat_0, qcat_1, qcat_3, qcat_9, Nat.reduceEqDiff, if_true, if_false, ite_self, or_true, true_or, or_false, false_or, forall_const, not_true_eq_false, not_false_eq_true, false_implies, implies_true, qtK0, qtK1, qtK2, qtK3, qtK4, List.getD_cons_zero, List.getD_cons_succ, Int.toNat_natCast, ne_eq, qcK, hbF, bsetF, bclrF, r3, g3_0, g3_1, g3_2, bx, w1]
        exact hq
      · intro nok3 G3 hP3
        have r3 := Rf_k (P2_rf (PFr_a13 (c := 15) (PFr_a13 (c := 14) q1 h (dgT T len (k + 1)) (by decide)) h (dgT T len (k + 2)) (by decide)).1 hP3.1 hP3.2.1)
        have g3_0 : G3 13 0 = (h : Int) := by rw [hP3.1 13 (by decide)]; rw [qup_c (by decide), qup_c (by decide)]; exact q2
        have g3_1 : G3 13 1 = (s : Int) := by rw [hP3.1 13 (by decide)]; rw [qup_c (by decide), qup_c (by decide)]; exact q3
        have g3_2 : G3 13 2 = (a : Int) := by rw [hP3.1 13 (by decide)]; rw [qup_c (by decide), qup_c (by decide)]; exact q4
        have hq := hk (.inl ((k + 3 : Nat) : Int)) _ _ (Or.inl ⟨hTk, hb, Or.inr (Or.inr (Or.inl ⟨ok1, ok2, nok3, rfl⟩))⟩) ⟨PFl.up (c := 13) (hP3.up h (0) (by decide) : PFl (qup (qup (qup G0 14 h (dgT T len (k + 1))) 15 h (dgT T len (k + 2))) 16 h (0)) (qup G3 16 h (0)) len ((k + 3 : Nat) : Int)) 0 ((h + 1 : Nat) : Int) (by decide), PFr_b13 (PFr_a13 (c := 16) (PFr_a13 (c := 15) (PFr_a13 (c := 14) q1 h (dgT T len (k + 1)) (by decide)) h (dgT T len (k + 2)) (by decide)) h (0) (by decide)) _ (by decide)⟩
        simp only [YK, c49, t49, tgK, lyK, rkK, wK, rfK, qRes_eq, qNon_eq, qup_ap, vup_ap, vcpy_ap, kc8_0, kc8_1, kc8_2, lc_lt, lc_gt, lc_eq, Option.toList_some, Option.toList_none, List.cons_append, List.nil_append, lay_len, lay_sz, Nat.reduceAdd, Nat.reduceSub, Nat.reduceMul, Int.reduceToNat, Int.reduceLE, Int.reduceLT, Int.reduceEq, Int.reduceAdd, Int.reduceSub, Int.reduceMul, Int.reduceNeg, Nat.reduceLeDiff, Nat.reduceLT, true_and, and_true, false_and, and_false, qcat_0, qcat_1, qcat_3, qcat_9, Nat.reduceEqDiff, if_true, if_false, ite_self, or_true, true_or, or_false, false_or, forall_const, not_true_eq_false, not_false_eq_true, false_implies, implies_true, qtK0, qtK1, qtK2, qtK3, qtK4, List.getD_cons_zero, List.getD_cons_succ, Int.toNat_natCast, ne_eq, qcK, hbF, bsetF, bclrF, r3, g3_0, g3_1, g3_2, bx, w1]
        exact hq
    · intro nok2 G2 hP2
      have r2 := Rf_k (P2_rf (PFr_a13 (c := 14) q1 h (dgT T len (k + 1)) (by decide)).1 hP2.1 hP2.2.1)
      have g2_0 : G2 13 0 = (h : Int) := by rw [hP2.1 13 (by decide)]; rw [qup_c (by decide)]; exact q2
      have g2_1 : G2 13 1 = (s : Int) := by rw [hP2.1 13 (by decide)]; rw [qup_c (by decide)]; exact q3
      have g2_2 : G2 13 2 = (a : Int) := by rw [hP2.1 13 (by decide)]; rw [qup_c (by decide)]; exact q4
      simp only [YK, c49, t49, cl52, tgK, lyK, rkK, wK, rfK, qRes_eq, qNon_eq, qup_ap, vup_ap, vcpy_ap, kc8_0, kc8_1, kc8_2, lc_lt, lc_gt, lc_eq, Option.toList_some, Option.toList_none, List.cons_append, List.nil_append, lay_len, lay_sz, Nat.reduceAdd, Nat.reduceSub, Nat.reduceMul, Int.reduceToNat, Int.reduceLE, Int.reduceLT, Int.reduceEq, Int.reduceAdd, Int.reduceSub, Int.reduceMul, Int.reduceNeg, Nat.reduceLeDiff, Nat.reduceLT, true_and, and_true, false_and, and_false, qcat_0, qcat_1, qcat_3, qcat_9, Nat.reduceEqDiff, if_true, if_false, ite_self, or_true, true_or, or_false, false_or, forall_const, not_true_eq_false, not_false_eq_true, false_implies, implies_true, qtK0, qtK1, qtK2, qtK3, qtK4, List.getD_cons_zero, List.getD_cons_succ, Int.toNat_natCast, ne_eq, qcK, hbF, bsetF, bclrF, r2, g2_0, g2_1, g2_2, bx, w1]
      refine k52f (hP2.up h (1) (by decide) : PFl (qup (qup G0 14 h (dgT T len (k + 1))) 15 h (1)) (qup G2 15 h (1)) len ((k + 2 : Nat) : Int)) (by omega) _ _ ?_
      have hq := hk (.inl ((k + 2 : Nat) : Int)) _ _ (Or.inl ⟨hTk, hb, Or.inr (Or.inl ⟨ok1, nok2, rfl⟩)⟩) ⟨PFl.up (c := 13) (PFl.up (c := 16) (hP2.up h (1) (by decide) : PFl (qup (qup G0 14 h (dgT T len (k + 1))) 15 h (1)) (qup G2 15 h (1)) len ((k + 2 : Nat) : Int)) h (0) (by decide)) 0 ((h + 1 : Nat) : Int) (by decide), PFr_b13 (PFr_a13 (c := 16) (PFr_a13 (c := 15) (PFr_a13 (c := 14) q1 h (dgT T len (k + 1)) (by decide)) h (1) (by decide)) h (0) (by decide)) _ (by decide)⟩
      simp only [YK, c49, t49, tgK, lyK, rkK, wK, rfK, qRes_eq, qNon_eq, qup_ap, vup_ap, vcpy_ap, kc8_0, kc8_1, kc8_2, lc_lt, lc_gt, lc_eq, Option.toList_some, Option.toList_none, List.cons_append, List.nil_append, lay_len, lay_sz, Nat.reduceAdd, Nat.reduceSub, Nat.reduceMul, Int.reduceToNat, Int.reduceLE, Int.reduceLT, Int.reduceEq, Int.reduceAdd, Int.reduceSub, Int.reduceMul, Int.reduceNeg, Nat.reduceLeDiff, Nat.reduceLT, true_and, and_true, false_and, and_false, qcat_0, qcat_1, qcat_3, qcat_9, Nat.reduceEqDiff, if_true, if_false, ite_self, or_true, true_or, or_false, false_or, forall_const, not_true_eq_false, not_false_eq_true, false_implies, implies_true, qtK0, qtK1, qtK2, qtK3, qtK4, List.getD_cons_zero, List.getD_cons_succ, Int.toNat_natCast, ne_eq, qcK, hbF, bsetF, bclrF, r2, g2_0, g2_1, g2_2, bx, w1]
      exact hq
  · intro nok1 G1 hP1
    have r1 := Rf_k (P2_rf q1.1 hP1.1 hP1.2.1)
    have g1_0 : G1 13 0 = (h : Int) := by rw [hP1.1 13 (by decide)]; exact q2
    have g1_1 : G1 13 1 = (s : Int) := by rw [hP1.1 13 (by decide)]; exact q3
    have g1_2 : G1 13 2 = (a : Int) := by rw [hP1.1 13 (by decide)]; exact q4
    simp only [YK, c49, t49, cl52, tgK, lyK, rkK, wK, rfK, qRes_eq, qNon_eq, qup_ap, vup_ap, vcpy_ap, kc8_0, kc8_1, kc8_2, lc_lt, lc_gt, lc_eq, Option.toList_some, Option.toList_none, List.cons_append, List.nil_append, lay_len, lay_sz, Nat.reduceAdd, Nat.reduceSub, Nat.reduceMul, Int.reduceToNat, Int.reduceLE, Int.reduceLT, Int.reduceEq, Int.reduceAdd, Int.reduceSub, Int.reduceMul, Int.reduceNeg, Nat.reduceLeDiff, Nat.reduceLT, true_and, and_true, false_and, and_false, qcat_0, qcat_1, qcat_3, qcat_9, Nat.reduceEqDiff, if_true, if_false, ite_self, or_true, true_or, or_false, false_or, forall_const, not_true_eq_false, not_false_eq_true, false_implies, implies_true, qtK0, qtK1, qtK2, qtK3, qtK4, List.getD_cons_zero, List.getD_cons_succ, Int.toNat_natCast, ne_eq, qcK, hbF, bsetF, bclrF, r1, g1_0, g1_1, g1_2, bx, w1]
    refine k52f (hP1.up h (1) (by decide) : PFl (qup G0 14 h (1)) (qup G1 14 h (1)) len ((k + 1 : Nat) : Int)) (by omega) _ _ ?_
    simp only [YK, c49, t49, cl52, tgK, lyK, rkK, wK, rfK, qRes_eq, qNon_eq, qup_ap, vup_ap, vcpy_ap, kc8_0, kc8_1, kc8_2, lc_lt, lc_gt, lc_eq, Option.toList_some, Option.toList_none, List.cons_append, List.nil_append, lay_len, lay_sz, Nat.reduceAdd, Nat.reduceSub, Nat.reduceMul, Int.reduceToNat, Int.reduceLE, Int.reduceLT, Int.reduceEq, Int.reduceAdd, Int.reduceSub, Int.reduceMul, Int.reduceNeg, Nat.reduceLeDiff, Nat.reduceLT, true_and, and_true, false_and, and_false, qcat_0, qcat_1, qcat_3, qcat_9, Nat.reduceEqDiff, if_true, if_false, ite_self, or_true, true_or, or_false, false_or, forall_const, not_true_eq_false, not_false_eq_true, false_implies, implies_true, qtK0, qtK1, qtK2, qtK3, qtK4, List.getD_cons_zero, List.getD_cons_succ, Int.toNat_natCast, ne_eq, qcK, hbF, bsetF, bclrF, r1, g1_0, g1_1, g1_2, bx, w1]
    refine k52f (PFl.up (c := 15) (hP1.up h (1) (by decide) : PFl (qup G0 14 h (1)) (qup G1 14 h (1)) len ((k + 1 : Nat) : Int)) h (1) (by decide)) (by omega) _ _ ?_
    have hq := hk (.inl ((k + 1 : Nat) : Int)) _ _ (Or.inl ⟨hTk, hb, Or.inl ⟨nok1, rfl⟩⟩) ⟨PFl.up (c := 13) (PFl.up (c := 16) (PFl.up (c := 15) (hP1.up h (1) (by decide) : PFl (qup G0 14 h (1)) (qup G1 14 h (1)) len ((k + 1 : Nat) : Int)) h (1) (by decide)) h (0) (by decide)) 0 ((h + 1 : Nat) : Int) (by decide), PFr_b13 (PFr_a13 (c := 16) (PFr_a13 (c := 15) (PFr_a13 (c := 14) q1 h (1) (by decide)) h (1) (by decide)) h (0) (by decide)) _ (by decide)⟩
    simp only [YK, c49, t49, tgK, lyK, rkK, wK, rfK, qRes_eq, qNon_eq, qup_ap, vup_ap, vcpy_ap, kc8_0, kc8_1, kc8_2, lc_lt, lc_gt, lc_eq, Option.toList_some, Option.toList_none, List.cons_append, List.nil_append, lay_len, lay_sz, Nat.reduceAdd, Nat.reduceSub, Nat.reduceMul, Int.reduceToNat, Int.reduceLE, Int.reduceLT, Int.reduceEq, Int.reduceAdd, Int.reduceSub, Int.reduceMul, Int.reduceNeg, Nat.reduceLeDiff, Nat.reduceLT, true_and, and_true, false_and, and_false, qcat_0, qcat_1, qcat_3, qcat_9, Nat.reduceEqDiff, if_true, if_false, ite_self, or_true, true_or, or_false, false_or, forall_const, not_true_eq_false, not_false_eq_true, false_implies, implies_true, qtK0, qtK1, qtK2, qtK3, qtK4, List.getD_cons_zero, List.getD_cons_succ, Int.toNat_natCast, ne_eq, qcK, hbF, bsetF, bclrF, r1, g1_0, g1_1, g1_2, bx, w1]
    exact hq
theorem k50_13 {tb : qTb} {F G0 G : XT} {T : Nat → Int} {len k h s a : Nat} {W : XT} {R : Option qV → qM → Prop} (hlen : len ≤ 120) (hk1 : k ≤ 120) (hT : ∀ j : Nat, j < len → F 1 j = T j ∧ 0 ≤ T j ∧ T j ≤ 255) (hTk : T k = 88) (hh0 : 0 < h) (hb : s < 4) (hP : P2 G0 G len (k + 1) (-9)) (hQ : PQ 13 F G0 h s a W) (hk : ∀ r G0 G, stp T len k h s a W r → post 13 F len r G0 G → R none (LAY, G)) : qW tb 50 (119, 1262) 0 [(3, 2), (3, 13), (9, 0), (9, 0)] [] (LAY, G) R := by
  have hQ0 := hQ
  obtain ⟨q1, ⟨q2, q3, q4⟩, ⟨q5, q6, q7⟩, -⟩ := hQ
  have w1 : w32 ((s : Int) + 1) = ((s + 1 : Nat) : Int) := by rw [w32_id ⟨by omega, by omega⟩]; omega
  have bx : (0 ≤ (s : Int) ∧ (s : Int) < 4) = True := eq_true (by omega)
  have wh : w32 ((h : Int) - 1) = (h : Int) - 1 := w32_id ⟨by omega, by omega⟩
  have hTb : ∀ G0, PFr 13 F G0 → ∀ j : Nat, j < len → G0 1 j = T j ∧ 0 ≤ T j ∧ T j ≤ 255 := fun G0 h0 j hj => by rw [h0.2 1 (by decide) (by decide)]; exact hT j hj
  have r0 := Rf_k (P2_rf q1.1 hP.1 hP.2.1)
  have g0_0 : G 13 0 = (h : Int) := by rw [hP.1 13 (by decide)]; exact q2
  have g0_1 : G 13 1 = (s : Int) := by rw [hP.1 13 (by decide)]; exact q3
  have g0_2 : G 13 2 = (a : Int) := by rw [hP.1 13 (by decide)]; exact q4
  simp only [YK, c50, t50, cl52, tgK, lyK, rkK, wK, rfK, qRes_eq, qNon_eq, qup_ap, vup_ap, vcpy_ap, kc8_0, kc8_1, kc8_2, lc_lt, lc_gt, lc_eq, Option.toList_some, Option.toList_none, List.cons_append, List.nil_append, lay_len, lay_sz, Nat.reduceAdd, Nat.reduceSub, Nat.reduceMul, Int.reduceToNat, Int.reduceLE, Int.reduceLT, Int.reduceEq, Int.reduceAdd, Int.reduceSub, Int.reduceMul, Int.reduceNeg, Nat.reduceLeDiff, Nat.reduceLT, true_and, and_true, false_and, and_false, qcat_0, qcat_1, qcat_3, qcat_9, Nat.reduceEqDiff, if_true, if_false, ite_self, or_true, true_or, or_false, false_or, forall_const, not_true_eq_false, not_false_eq_true, false_implies, implies_true, qtK0, qtK1, qtK2, qtK3, qtK4, List.getD_cons_zero, List.getD_cons_succ, Int.toNat_natCast, ne_eq, qcK, hbF, bsetF, bclrF, r0, g0_0, g0_1, g0_2, bx, w1, wh]
  refine k52 hP hlen (hTb _ q1) 0 ((h : Int) - 1) (by omega) (by omega) ?_ ?_
  · intro ok1 G1 hP1
    have r1 := Rf_k (P2_rf q1.1 hP1.1 hP1.2.1)
    have g1_0 : G1 13 0 = (h : Int) := by rw [hP1.1 13 (by decide)]; exact q2
    have g1_1 : G1 13 1 = (s : Int) := by rw [hP1.1 13 (by decide)]; exact q3
    have g1_2 : G1 13 2 = (a : Int) := by rw [hP1.1 13 (by decide)]; exact q4
    simp only [YK, c50, t50, cl53, tgK, lyK, rkK, wK, rfK, qRes_eq, qNon_eq, qup_ap, vup_ap, vcpy_ap, kc8_0, kc8_1, kc8_2, lc_lt, lc_gt, lc_eq, Option.toList_some, Option.toList_none, List.cons_append, List.nil_append, lay_len, lay_sz, Nat.reduceAdd, Nat.reduceSub, Nat.reduceMul, Int.reduceToNat, Int.reduceLE, Int.reduceLT, Int.reduceEq, Int.reduceAdd, Int.reduceSub, Int.reduceMul, Int.reduceNeg, Nat.reduceLeDiff, Nat.reduceLT, true_and, and_true, false_and, and_false, qcat_0, qcat_1, qcat_3, qcat_9, Nat.reduceEqDiff, if_true, if_false, ite_self, or_true, true_or, or_false, false_or, forall_const, not_true_eq_false, not_false_eq_true, false_implies, implies_true, qtK0, qtK1, qtK2, qtK3, qtK4, List.getD_cons_zero, List.getD_cons_succ, Int.toNat_natCast, ne_eq, qcK, hbF, bsetF, bclrF, r1, g1_0, g1_1, g1_2, bx, w1, wh]
    refine k53 (hP1.up s (dgT T len (k + 1)) (by decide)) hlen (hTb _ (PFr_a13 (c := 17) q1 s (dgT T len (k + 1)) (by decide))) 0 79 ⟨by omega, by omega⟩ ⟨by decide, by decide⟩ (by omega) ?_ ?_ ?_
    · intro ok2 ok3 G2 hP2
      have ok2 : okd T len (k + 2) 0 7 := ok2
      have ok3 : okd T len (k + 3) 0 9 := by
        have e : (if dgT T len (k + 2) = (0 : Int) / 10 then (0 : Int) % 10 else 0) = 0 := by rw [show (0 : Int) % 10 = 0 from rfl, ite_self]
        have e2 : (if dgT T len (k + 2) = (79 : Int) / 10 then (79 : Int) % 10 else 9) = 9 := by rw [show (79 : Int) % 10 = 9 from rfl, ite_self]
        rw [e, e2] at ok3
        exact ok3
      have r2 := Rf_k (P2_rf (PFr_a13 (c := 17) q1 s (dgT T len (k + 1)) (by decide)).1 hP2.1 hP2.2.1)
      have g2_0 : G2 13 0 = (h : Int) := by rw [hP2.1 13 (by decide)]; rw [qup_c (by decide)]; exact q2
      have g2_1 : G2 13 1 = (s : Int) := by rw [hP2.1 13 (by decide)]; rw [qup_c (by decide)]; exact q3
      have g2_2 : G2 13 2 = (a : Int) := by rw [hP2.1 13 (by decide)]; rw [qup_c (by decide)]; exact q4
      simp only [YK, c50, t50, cl53, tgK, lyK, rkK, wK, rfK, qRes_eq, qNon_eq, qup_ap, vup_ap, vcpy_ap, kc8_0, kc8_1, kc8_2, lc_lt, lc_gt, lc_eq, Option.toList_some, Option.toList_none, List.cons_append, List.nil_append, lay_len, lay_sz, Nat.reduceAdd, Nat.reduceSub, Nat.reduceMul, Int.reduceToNat, Int.reduceLE, Int.reduceLT, Int.reduceEq, Int.reduceAdd, Int.reduceSub, Int.reduceMul, Int.reduceNeg, Nat.reduceLeDiff, Nat.reduceLT, true_and, and_true, false_and, and_false, qcat_0, qcat_1, qcat_3, qcat_9, Nat.reduceEqDiff, if_true, if_false, ite_self, or_true, true_or, or_false, false_or, forall_const, not_true_eq_false, not_false_eq_true, false_implies, implies_true, qtK0, qtK1, qtK2, qtK3, qtK4, List.getD_cons_zero, List.getD_cons_succ, Int.toNat_natCast, ne_eq, qcK, hbF, bsetF, bclrF, r2, g2_0, g2_1, g2_2, bx, w1, wh]
      refine k53 (hP2.up s (dgT T len (k + 2) * 10 + dgT T len (k + 3)) (by decide)) hlen (hTb _ (PFr_a13 (c := 18) (PFr_a13 (c := 17) q1 s (dgT T len (k + 1)) (by decide)) s (dgT T len (k + 2) * 10 + dgT T len (k + 3)) (by decide))) (dgT T len (k + 2) * 10 + dgT T len (k + 3)) 79 ⟨by unfold okd at ok2 ok3; omega, by unfold okd at ok2 ok3; omega⟩ ⟨by decide, by decide⟩ (by omega) ?_ ?_ ?_
      · intro ok4 ok5 G3 hP3
        have e10 : (dgT T len (k + 2) * 10 + dgT T len (k + 3)) / 10 = dgT T len (k + 2) := by unfold okd at ok3; omega
        have e11 : (dgT T len (k + 2) * 10 + dgT T len (k + 3)) % 10 = dgT T len (k + 3) := by unfold okd at ok3; omega
        have ok4 : okd T len (k + 4) (dgT T len (k + 2)) 7 := by rw [e10] at ok4; exact ok4
        have ok5 : okd T len (k + 5) (if dgT T len (k + 4) = dgT T len (k + 2) then dgT T len (k + 3) else 0) 9 := by
          have e2 : (if dgT T len (k + 4) = (79 : Int) / 10 then (79 : Int) % 10 else 9) = 9 := by rw [show (79 : Int) % 10 = 9 from rfl, ite_self]
          rw [e10, e11, e2] at ok5
          exact ok5
        have r3 := Rf_k (P2_rf (PFr_a13 (c := 18) (PFr_a13 (c := 17) q1 s (dgT T len (k + 1)) (by decide)) s (dgT T len (k + 2) * 10 + dgT T len (k + 3)) (by decide)).1 hP3.1 hP3.2.1)
        have g3_0 : G3 13 0 = (h : Int) := by rw [hP3.1 13 (by decide)]; rw [qup_c (by decide), qup_c (by decide)]; exact q2
        have g3_1 : G3 13 1 = (s : Int) := by rw [hP3.1 13 (by decide)]; rw [qup_c (by decide), qup_c (by decide)]; exact q3
        have g3_2 : G3 13 2 = (a : Int) := by rw [hP3.1 13 (by decide)]; rw [qup_c (by decide), qup_c (by decide)]; exact q4
        have hq := hk (.inr (k + 6, h, s + 1, a, qup (qup (qup W 3 s (dgT T len (k + 1))) 4 s (dgT T len (k + 2) * 10 + dgT T len (k + 3))) 5 s (dgT T len (k + 4) * 10 + dgT T len (k + 5)))) _ _ (Or.inr (Or.inl ⟨hTk, hh0, hb, Or.inr (Or.inr (Or.inr (Or.inr (Or.inr (⟨ok1, ok2, ok3, ok4, ok5, rfl⟩)))))⟩)) ⟨((hP3.up s (dgT T len (k + 4) * 10 + dgT T len (k + 5)) (by decide)).up 1 ((s + 1 : Nat) : Int) (by decide) : P2 _ _ len (k + 6) (-9)), PQ_X13 hQ0 hb (dgT T len (k + 1)) (dgT T len (k + 2) * 10 + dgT T len (k + 3)) (dgT T len (k + 4) * 10 + dgT T len (k + 5))⟩
        simp only [YK, c50, t50, tgK, lyK, rkK, wK, rfK, qRes_eq, qNon_eq, qup_ap, vup_ap, vcpy_ap, kc8_0, kc8_1, kc8_2, lc_lt, lc_gt, lc_eq, Option.toList_some, Option.toList_none, List.cons_append, List.nil_append, lay_len, lay_sz, Nat.reduceAdd, Nat.reduceSub, Nat.reduceMul, Int.reduceToNat, Int.reduceLE, Int.reduceLT, Int.reduceEq, Int.reduceAdd, Int.reduceSub, Int.reduceMul, Int.reduceNeg, Nat.reduceLeDiff, Nat.reduceLT, true_and, and_true, false_and, and_false, qcat_0, qcat_1, qcat_3, qcat_9, Nat.reduceEqDiff, if_true, if_false, ite_self, or_true, true_or, or_false, false_or, forall_const, not_true_eq_false, not_false_eq_true, false_implies, implies_true, qtK0, qtK1, qtK2, qtK3, qtK4, List.getD_cons_zero, List.getD_cons_succ, Int.toNat_natCast, ne_eq, qcK, hbF, bsetF, bclrF, r3, g3_0, g3_1, g3_2, bx, w1, wh]
        exact hq
      · intro nok4 G3 u0 hP3
        have e10 : (dgT T len (k + 2) * 10 + dgT T len (k + 3)) / 10 = dgT T len (k + 2) := by unfold okd at ok3; omega
        have e11 : (dgT T len (k + 2) * 10 + dgT T len (k + 3)) % 10 = dgT T len (k + 3) := by unfold okd at ok3; omega
        have nok4 : ¬ okd T len (k + 4) (dgT T len (k + 2)) 7 := by rw [e10] at nok4; exact nok4
        have r3 := Rf_k (P2_rf (PFr_a13 (c := 18) (PFr_a13 (c := 17) q1 s (dgT T len (k + 1)) (by decide)) s (dgT T len (k + 2) * 10 + dgT T len (k + 3)) (by decide)).1 hP3.1 hP3.2.1)
        have g3_0 : G3 13 0 = (h : Int) := by rw [hP3.1 13 (by decide)]; rw [qup_c (by decide), qup_c (by decide)]; exact q2
        have g3_1 : G3 13 1 = (s : Int) := by rw [hP3.1 13 (by decide)]; rw [qup_c (by decide), qup_c (by decide)]; exact q3
        have g3_2 : G3 13 2 = (a : Int) := by rw [hP3.1 13 (by decide)]; rw [qup_c (by decide), qup_c (by decide)]; exact q4
        have hq := hk (.inl ((k + 4 : Nat) : Int)) _ _ (Or.inr (Or.inl ⟨hTk, hh0, hb, Or.inr (Or.inr (Or.inr (Or.inl ⟨ok1, ok2, ok3, nok4, rfl⟩)))⟩)) ⟨PFl.up (c := 13) (hP3.up s (u0) (by decide) : PFl (qup (qup (qup G0 17 s (dgT T len (k + 1))) 18 s (dgT T len (k + 2) * 10 + dgT T len (k + 3))) 19 s (u0)) (qup G3 19 s (u0)) len ((k + 4 : Nat) : Int)) 1 ((s + 1 : Nat) : Int) (by decide), PFr_b13 (PFr_a13 (c := 19) (PFr_a13 (c := 18) (PFr_a13 (c := 17) q1 s (dgT T len (k + 1)) (by decide)) s (dgT T len (k + 2) * 10 + dgT T len (k + 3)) (by decide)) s (u0) (by decide)) _ (by decide)⟩
        simp only [YK, c50, t50, tgK, lyK, rkK, wK, rfK, qRes_eq, qNon_eq, qup_ap, vup_ap, vcpy_ap, kc8_0, kc8_1, kc8_2, lc_lt, lc_gt, lc_eq, Option.toList_some, Option.toList_none, List.cons_append, List.nil_append, lay_len, lay_sz, Nat.reduceAdd, Nat.reduceSub, Nat.reduceMul, Int.reduceToNat, Int.reduceLE, Int.reduceLT, Int.reduceEq, Int.reduceAdd, Int.reduceSub, Int.reduceMul, Int.reduceNeg, Nat.reduceLeDiff, Nat.reduceLT, true_and, and_true, false_and, and_false, qcat_0, qcat_1, qcat_3, qcat_9, Nat.reduceEqDiff, if_true, if_false, ite_self, or_true, true_or, or_false, false_or, forall_const, not_true_eq_false, not_false_eq_true, false_implies, implies_true, qtK0, qtK1, qtK2, qtK3, qtK4, List.getD_cons_zero, List.getD_cons_succ, Int.toNat_natCast, ne_eq, qcK, hbF, bsetF, bclrF, r3, g3_0, g3_1, g3_2, bx, w1, wh]
        exact hq
      · intro ok4 nok5 G3 u0 hP3
        have e10 : (dgT T len (k + 2) * 10 + dgT T len (k + 3)) / 10 = dgT T len (k + 2) := by unfold okd at ok3; omega
        have e11 : (dgT T len (k + 2) * 10 + dgT T len (k + 3)) % 10 = dgT T len (k + 3) := by unfold okd at ok3; omega
        have ok4 : okd T len (k + 4) (dgT T len (k + 2)) 7 := by rw [e10] at ok4; exact ok4
        have nok5 : ¬ okd T len (k + 5) (if dgT T len (k + 4) = dgT T len (k + 2) then dgT T len (k + 3) else 0) 9 := by
          have e2 : (if dgT T len (k + 4) = (79 : Int) / 10 then (79 : Int) % 10 else 9) = 9 := by rw [show (79 : Int) % 10 = 9 from rfl, ite_self]
          rw [e10, e11, e2] at nok5
          exact nok5
        have r3 := Rf_k (P2_rf (PFr_a13 (c := 18) (PFr_a13 (c := 17) q1 s (dgT T len (k + 1)) (by decide)) s (dgT T len (k + 2) * 10 + dgT T len (k + 3)) (by decide)).1 hP3.1 hP3.2.1)
        have g3_0 : G3 13 0 = (h : Int) := by rw [hP3.1 13 (by decide)]; rw [qup_c (by decide), qup_c (by decide)]; exact q2
        have g3_1 : G3 13 1 = (s : Int) := by rw [hP3.1 13 (by decide)]; rw [qup_c (by decide), qup_c (by decide)]; exact q3
        have g3_2 : G3 13 2 = (a : Int) := by rw [hP3.1 13 (by decide)]; rw [qup_c (by decide), qup_c (by decide)]; exact q4
        have hq := hk (.inl ((k + 5 : Nat) : Int)) _ _ (Or.inr (Or.inl ⟨hTk, hh0, hb, Or.inr (Or.inr (Or.inr (Or.inr (Or.inl ⟨ok1, ok2, ok3, ok4, nok5, rfl⟩))))⟩)) ⟨PFl.up (c := 13) (hP3.up s (u0) (by decide) : PFl (qup (qup (qup G0 17 s (dgT T len (k + 1))) 18 s (dgT T len (k + 2) * 10 + dgT T len (k + 3))) 19 s (u0)) (qup G3 19 s (u0)) len ((k + 5 : Nat) : Int)) 1 ((s + 1 : Nat) : Int) (by decide), PFr_b13 (PFr_a13 (c := 19) (PFr_a13 (c := 18) (PFr_a13 (c := 17) q1 s (dgT T len (k + 1)) (by decide)) s (dgT T len (k + 2) * 10 + dgT T len (k + 3)) (by decide)) s (u0) (by decide)) _ (by decide)⟩
        simp only [YK, c50, t50, tgK, lyK, rkK, wK, rfK, qRes_eq, qNon_eq, qup_ap, vup_ap, vcpy_ap, kc8_0, kc8_1, kc8_2, lc_lt, lc_gt, lc_eq, Option.toList_some, Option.toList_none, List.cons_append, List.nil_append, lay_len, lay_sz, Nat.reduceAdd, Nat.reduceSub, Nat.reduceMul, Int.reduceToNat, Int.reduceLE, Int.reduceLT, Int.reduceEq, Int.reduceAdd, Int.reduceSub, Int.reduceMul, Int.reduceNeg, Nat.reduceLeDiff, Nat.reduceLT, true_and, and_true, false_and, and_false, qcat_0, qcat_1, qcat_3, qcat_9, Nat.reduceEqDiff, if_true, if_false, ite_self, or_true, true_or, or_false, false_or, forall_const, not_true_eq_false, not_false_eq_true, false_implies, implies_true, qtK0, qtK1, qtK2, qtK3, qtK4, List.getD_cons_zero, List.getD_cons_succ, Int.toNat_natCast, ne_eq, qcK, hbF, bsetF, bclrF, r3, g3_0, g3_1, g3_2, bx, w1, wh]
        exact hq
    · intro nok2 G2 u0 hP2
      have nok2 : ¬ okd T len (k + 2) 0 7 := nok2
      have r2 := Rf_k (P2_rf (PFr_a13 (c := 17) q1 s (dgT T len (k + 1)) (by decide)).1 hP2.1 hP2.2.1)
      have g2_0 : G2 13 0 = (h : Int) := by rw [hP2.1 13 (by decide)]; rw [qup_c (by decide)]; exact q2
      have g2_1 : G2 13 1 = (s : Int) := by rw [hP2.1 13 (by decide)]; rw [qup_c (by decide)]; exact q3
      have g2_2 : G2 13 2 = (a : Int) := by rw [hP2.1 13 (by decide)]; rw [qup_c (by decide)]; exact q4
      simp only [YK, c50, t50, cl53, tgK, lyK, rkK, wK, rfK, qRes_eq, qNon_eq, qup_ap, vup_ap, vcpy_ap, kc8_0, kc8_1, kc8_2, lc_lt, lc_gt, lc_eq, Option.toList_some, Option.toList_none, List.cons_append, List.nil_append, lay_len, lay_sz, Nat.reduceAdd, Nat.reduceSub, Nat.reduceMul, Int.reduceToNat, Int.reduceLE, Int.reduceLT, Int.reduceEq, Int.reduceAdd, Int.reduceSub, Int.reduceMul, Int.reduceNeg, Nat.reduceLeDiff, Nat.reduceLT, true_and, and_true, false_and, and_false, qcat_0, qcat_1, qcat_3, qcat_9, Nat.reduceEqDiff, if_true, if_false, ite_self, or_true, true_or, or_false, false_or, forall_const, not_true_eq_false, not_false_eq_true, false_implies, implies_true, qtK0, qtK1, qtK2, qtK3, qtK4, List.getD_cons_zero, List.getD_cons_succ, Int.toNat_natCast, ne_eq, qcK, hbF, bsetF, bclrF, r2, g2_0, g2_1, g2_2, bx, w1, wh]
      refine k53f (hP2.up s (u0) (by decide) : PFl (qup (qup G0 17 s (dgT T len (k + 1))) 18 s (u0)) (qup G2 18 s (u0)) len ((k + 2 : Nat) : Int)) (by omega) _ _ ?_
      intro u1
      have hq := hk (.inl ((k + 2 : Nat) : Int)) _ _ (Or.inr (Or.inl ⟨hTk, hh0, hb, Or.inr (Or.inl ⟨ok1, nok2, rfl⟩)⟩)) ⟨PFl.up (c := 13) (PFl.up (c := 19) (hP2.up s (u0) (by decide) : PFl (qup (qup G0 17 s (dgT T len (k + 1))) 18 s (u0)) (qup G2 18 s (u0)) len ((k + 2 : Nat) : Int)) s (u1) (by decide)) 1 ((s + 1 : Nat) : Int) (by decide), PFr_b13 (PFr_a13 (c := 19) (PFr_a13 (c := 18) (PFr_a13 (c := 17) q1 s (dgT T len (k + 1)) (by decide)) s (u0) (by decide)) s (u1) (by decide)) _ (by decide)⟩
      simp only [YK, c50, t50, tgK, lyK, rkK, wK, rfK, qRes_eq, qNon_eq, qup_ap, vup_ap, vcpy_ap, kc8_0, kc8_1, kc8_2, lc_lt, lc_gt, lc_eq, Option.toList_some, Option.toList_none, List.cons_append, List.nil_append, lay_len, lay_sz, Nat.reduceAdd, Nat.reduceSub, Nat.reduceMul, Int.reduceToNat, Int.reduceLE, Int.reduceLT, Int.reduceEq, Int.reduceAdd, Int.reduceSub, Int.reduceMul, Int.reduceNeg, Nat.reduceLeDiff, Nat.reduceLT, true_and, and_true, false_and, and_false, qcat_0, qcat_1, qcat_3, qcat_9, Nat.reduceEqDiff, if_true, if_false, ite_self, or_true, true_or, or_false, false_or, forall_const, not_true_eq_false, not_false_eq_true, false_implies, implies_true, qtK0, qtK1, qtK2, qtK3, qtK4, List.getD_cons_zero, List.getD_cons_succ, Int.toNat_natCast, ne_eq, qcK, hbF, bsetF, bclrF, r2, g2_0, g2_1, g2_2, bx, w1, wh]
      exact hq
    · intro ok2 nok3 G2 u0 hP2
      have ok2 : okd T len (k + 2) 0 7 := ok2
      have nok3 : ¬ okd T len (k + 3) 0 9 := by
        have e : (if dgT T len (k + 2) = (0 : Int) / 10 then (0 : Int) % 10 else 0) = 0 := by rw [show (0 : Int) % 10 = 0 from rfl, ite_self]
        have e2 : (if dgT T len (k + 2) = (79 : Int) / 10 then (79 : Int) % 10 else 9) = 9 := by rw [show (79 : Int) % 10 = 9 from rfl, ite_self]
        rw [e, e2] at nok3
        exact nok3
      have r2 := Rf_k (P2_rf (PFr_a13 (c := 17) q1 s (dgT T len (k + 1)) (by decide)).1 hP2.1 hP2.2.1)
      have g2_0 : G2 13 0 = (h : Int) := by rw [hP2.1 13 (by decide)]; rw [qup_c (by decide)]; exact q2
      have g2_1 : G2 13 1 = (s : Int) := by rw [hP2.1 13 (by decide)]; rw [qup_c (by decide)]; exact q3
      have g2_2 : G2 13 2 = (a : Int) := by rw [hP2.1 13 (by decide)]; rw [qup_c (by decide)]; exact q4
      simp only [YK, c50, t50, cl53, tgK, lyK, rkK, wK, rfK, qRes_eq, qNon_eq, qup_ap, vup_ap, vcpy_ap, kc8_0, kc8_1, kc8_2, lc_lt, lc_gt, lc_eq, Option.toList_some, Option.toList_none, List.cons_append, List.nil_append, lay_len, lay_sz, Nat.reduceAdd, Nat.reduceSub, Nat.reduceMul, Int.reduceToNat, Int.reduceLE, Int.reduceLT, Int.reduceEq, Int.reduceAdd, Int.reduceSub, Int.reduceMul, Int.reduceNeg, Nat.reduceLeDiff, Nat.reduceLT, true_and, and_true, false_and, and_false, qcat_0, qcat_1, qcat_3, qcat_9, Nat.reduceEqDiff, if_true, if_false, ite_self, or_true, true_or, or_false, false_or, forall_const, not_true_eq_false, not_false_eq_true, false_implies, implies_true, qtK0, qtK1, qtK2, qtK3, qtK4, List.getD_cons_zero, List.getD_cons_succ, Int.toNat_natCast, ne_eq, qcK, hbF, bsetF, bclrF, r2, g2_0, g2_1, g2_2, bx, w1, wh]
      refine k53f (hP2.up s (u0) (by decide) : PFl (qup (qup G0 17 s (dgT T len (k + 1))) 18 s (u0)) (qup G2 18 s (u0)) len ((k + 3 : Nat) : Int)) (by omega) _ _ ?_
      intro u2
      have hq := hk (.inl ((k + 3 : Nat) : Int)) _ _ (Or.inr (Or.inl ⟨hTk, hh0, hb, Or.inr (Or.inr (Or.inl ⟨ok1, ok2, nok3, rfl⟩))⟩)) ⟨PFl.up (c := 13) (PFl.up (c := 19) (hP2.up s (u0) (by decide) : PFl (qup (qup G0 17 s (dgT T len (k + 1))) 18 s (u0)) (qup G2 18 s (u0)) len ((k + 3 : Nat) : Int)) s (u2) (by decide)) 1 ((s + 1 : Nat) : Int) (by decide), PFr_b13 (PFr_a13 (c := 19) (PFr_a13 (c := 18) (PFr_a13 (c := 17) q1 s (dgT T len (k + 1)) (by decide)) s (u0) (by decide)) s (u2) (by decide)) _ (by decide)⟩
      simp only [YK, c50, t50, tgK, lyK, rkK, wK, rfK, qRes_eq, qNon_eq, qup_ap, vup_ap, vcpy_ap, kc8_0, kc8_1, kc8_2, lc_lt, lc_gt, lc_eq, Option.toList_some, Option.toList_none, List.cons_append, List.nil_append, lay_len, lay_sz, Nat.reduceAdd, Nat.reduceSub, Nat.reduceMul, Int.reduceToNat, Int.reduceLE, Int.reduceLT, Int.reduceEq, Int.reduceAdd, Int.reduceSub, Int.reduceMul, Int.reduceNeg, Nat.reduceLeDiff, Nat.reduceLT, true_and, and_true, false_and, and_false, qcat_0, qcat_1, qcat_3, qcat_9, Nat.reduceEqDiff, if_true, if_false, ite_self, or_true, true_or, or_false, false_or, forall_const, not_true_eq_false, not_false_eq_true, false_implies, implies_true, qtK0, qtK1, qtK2, qtK3, qtK4, List.getD_cons_zero, List.getD_cons_succ, Int.toNat_natCast, ne_eq, qcK, hbF, bsetF, bclrF, r2, g2_0, g2_1, g2_2, bx, w1, wh]
      exact hq
  · intro nok1 G1 hP1
    have r1 := Rf_k (P2_rf q1.1 hP1.1 hP1.2.1)
    have g1_0 : G1 13 0 = (h : Int) := by rw [hP1.1 13 (by decide)]; exact q2
    have g1_1 : G1 13 1 = (s : Int) := by rw [hP1.1 13 (by decide)]; exact q3
    have g1_2 : G1 13 2 = (a : Int) := by rw [hP1.1 13 (by decide)]; exact q4
    simp only [YK, c50, t50, cl53, tgK, lyK, rkK, wK, rfK, qRes_eq, qNon_eq, qup_ap, vup_ap, vcpy_ap, kc8_0, kc8_1, kc8_2, lc_lt, lc_gt, lc_eq, Option.toList_some, Option.toList_none, List.cons_append, List.nil_append, lay_len, lay_sz, Nat.reduceAdd, Nat.reduceSub, Nat.reduceMul, Int.reduceToNat, Int.reduceLE, Int.reduceLT, Int.reduceEq, Int.reduceAdd, Int.reduceSub, Int.reduceMul, Int.reduceNeg, Nat.reduceLeDiff, Nat.reduceLT, true_and, and_true, false_and, and_false, qcat_0, qcat_1, qcat_3, qcat_9, Nat.reduceEqDiff, if_true, if_false, ite_self, or_true, true_or, or_false, false_or, forall_const, not_true_eq_false, not_false_eq_true, false_implies, implies_true, qtK0, qtK1, qtK2, qtK3, qtK4, List.getD_cons_zero, List.getD_cons_succ, Int.toNat_natCast, ne_eq, qcK, hbF, bsetF, bclrF, r1, g1_0, g1_1, g1_2, bx, w1, wh]
    refine k53f (hP1.up s (0) (by decide) : PFl (qup G0 17 s (0)) (qup G1 17 s (0)) len ((k + 1 : Nat) : Int)) (by omega) _ _ ?_
    intro u3
    simp only [YK, c50, t50, cl53, tgK, lyK, rkK, wK, rfK, qRes_eq, qNon_eq, qup_ap, vup_ap, vcpy_ap, kc8_0, kc8_1, kc8_2, lc_lt, lc_gt, lc_eq, Option.toList_some, Option.toList_none, List.cons_append, List.nil_append, lay_len, lay_sz, Nat.reduceAdd, Nat.reduceSub, Nat.reduceMul, Int.reduceToNat, Int.reduceLE, Int.reduceLT, Int.reduceEq, Int.reduceAdd, Int.reduceSub, Int.reduceMul, Int.reduceNeg, Nat.reduceLeDiff, Nat.reduceLT, true_and, and_true, false_and, and_false, qcat_0, qcat_1, qcat_3, qcat_9, Nat.reduceEqDiff, if_true, if_false, ite_self, or_true, true_or, or_false, false_or, forall_const, not_true_eq_false, not_false_eq_true, false_implies, implies_true, qtK0, qtK1, qtK2, qtK3, qtK4, List.getD_cons_zero, List.getD_cons_succ, Int.toNat_natCast, ne_eq, qcK, hbF, bsetF, bclrF, r1, g1_0, g1_1, g1_2, bx, w1, wh]
    refine k53f (PFl.up (c := 18) (hP1.up s (0) (by decide) : PFl (qup G0 17 s (0)) (qup G1 17 s (0)) len ((k + 1 : Nat) : Int)) s (u3) (by decide)) (by omega) _ _ ?_
    intro u4
    have hq := hk (.inl ((k + 1 : Nat) : Int)) _ _ (Or.inr (Or.inl ⟨hTk, hh0, hb, Or.inl ⟨nok1, rfl⟩⟩)) ⟨PFl.up (c := 13) (PFl.up (c := 19) (PFl.up (c := 18) (hP1.up s (0) (by decide) : PFl (qup G0 17 s (0)) (qup G1 17 s (0)) len ((k + 1 : Nat) : Int)) s (u3) (by decide)) s (u4) (by decide)) 1 ((s + 1 : Nat) : Int) (by decide), PFr_b13 (PFr_a13 (c := 19) (PFr_a13 (c := 18) (PFr_a13 (c := 17) q1 s (0) (by decide)) s (u3) (by decide)) s (u4) (by decide)) _ (by decide)⟩
    simp only [YK, c50, t50, tgK, lyK, rkK, wK, rfK, qRes_eq, qNon_eq, qup_ap, vup_ap, vcpy_ap, kc8_0, kc8_1, kc8_2, lc_lt, lc_gt, lc_eq, Option.toList_some, Option.toList_none, List.cons_append, List.nil_append, lay_len, lay_sz, Nat.reduceAdd, Nat.reduceSub, Nat.reduceMul, Int.reduceToNat, Int.reduceLE, Int.reduceLT, Int.reduceEq, Int.reduceAdd, Int.reduceSub, Int.reduceMul, Int.reduceNeg, Nat.reduceLeDiff, Nat.reduceLT, true_and, and_true, false_and, and_false, qcat_0, qcat_1, qcat_3, qcat_9, Nat.reduceEqDiff, if_true, if_false, ite_self, or_true, true_or, or_false, false_or, forall_const, not_true_eq_false, not_false_eq_true, false_implies, implies_true, qtK0, qtK1, qtK2, qtK3, qtK4, List.getD_cons_zero, List.getD_cons_succ, Int.toNat_natCast, ne_eq, qcK, hbF, bsetF, bclrF, r1, g1_0, g1_1, g1_2, bx, w1, wh]
    exact hq
theorem k51_13 {tb : qTb} {F G0 G : XT} {T : Nat → Int} {len k h s a : Nat} {W : XT} {R : Option qV → qM → Prop} (hlen : len ≤ 120) (hk1 : k ≤ 120) (hT : ∀ j : Nat, j < len → F 1 j = T j ∧ 0 ≤ T j ∧ T j ≤ 255) (hTk : T k = 65) (hb : a < 12) (hP : P2 G0 G len (k + 1) (-9)) (hQ : PQ 13 F G0 h s a W) (hk : ∀ r G0 G, stp T len k h s a W r → post 13 F len r G0 G → R none (LAY, G)) : qW tb 51 (119, 1262) 0 [(3, 2), (3, 13), (9, 0)] [] (LAY, G) R := by
  have hQ0 := hQ
  obtain ⟨q1, ⟨q2, q3, q4⟩, ⟨q5, q6, q7⟩, -⟩ := hQ
  have w1 : w32 ((a : Int) + 1) = ((a + 1 : Nat) : Int) := by rw [w32_id ⟨by omega, by omega⟩]; omega
  have bx : (0 ≤ (a : Int) ∧ (a : Int) < 12) = True := eq_true (by omega)
  have hTb : ∀ G0, PFr 13 F G0 → ∀ j : Nat, j < len → G0 1 j = T j ∧ 0 ≤ T j ∧ T j ≤ 255 := fun G0 h0 j hj => by rw [h0.2 1 (by decide) (by decide)]; exact hT j hj
  have r0 := Rf_k (P2_rf q1.1 hP.1 hP.2.1)
  have g0_0 : G 13 0 = (h : Int) := by rw [hP.1 13 (by decide)]; exact q2
  have g0_1 : G 13 1 = (s : Int) := by rw [hP.1 13 (by decide)]; exact q3
  have g0_2 : G 13 2 = (a : Int) := by rw [hP.1 13 (by decide)]; exact q4
  simp only [YK, c51, t51, cl53, tgK, lyK, rkK, wK, rfK, qRes_eq, qNon_eq, qup_ap, vup_ap, vcpy_ap, kc8_0, kc8_1, kc8_2, lc_lt, lc_gt, lc_eq, Option.toList_some, Option.toList_none, List.cons_append, List.nil_append, lay_len, lay_sz, Nat.reduceAdd, Nat.reduceSub, Nat.reduceMul, Int.reduceToNat, Int.reduceLE, Int.reduceLT, Int.reduceEq, Int.reduceAdd, Int.reduceSub, Int.reduceMul, Int.reduceNeg, Nat.reduceLeDiff, Nat.reduceLT, true_and, and_true, false_and, and_false, qcat_0, qcat_1, qcat_3, qcat_9, Nat.reduceEqDiff, if_true, if_false, ite_self, or_true, true_or, or_false, false_or, forall_const, not_true_eq_false, not_false_eq_true, false_implies, implies_true, qtK0, qtK1, qtK2, qtK3, qtK4, List.getD_cons_zero, List.getD_cons_succ, Int.toNat_natCast, ne_eq, qcK, hbF, bsetF, bclrF, r0, g0_0, g0_1, g0_2, bx, w1]
  refine k53 hP hlen (hTb _ q1) 0 40 ⟨by omega, by omega⟩ ⟨by decide, by decide⟩ (by omega) ?_ ?_ ?_
  · intro ok1 ok2 G1 hP1
    have ok1 : okd T len (k + 1) 0 4 := ok1
    have ok2 : okd T len (k + 2) 0 (if dgT T len (k + 1) = 4 then 0 else 9) := by
      have e : (if dgT T len (k + 1) = (0 : Int) / 10 then (0 : Int) % 10 else 0) = 0 := by rw [show (0 : Int) % 10 = 0 from rfl, ite_self]
      rw [e] at ok2
      exact ok2
    have r1 := Rf_k (P2_rf q1.1 hP1.1 hP1.2.1)
    have g1_0 : G1 13 0 = (h : Int) := by rw [hP1.1 13 (by decide)]; exact q2
    have g1_1 : G1 13 1 = (s : Int) := by rw [hP1.1 13 (by decide)]; exact q3
    have g1_2 : G1 13 2 = (a : Int) := by rw [hP1.1 13 (by decide)]; exact q4
    simp only [YK, c51, t51, cl52, tgK, lyK, rkK, wK, rfK, qRes_eq, qNon_eq, qup_ap, vup_ap, vcpy_ap, kc8_0, kc8_1, kc8_2, lc_lt, lc_gt, lc_eq, Option.toList_some, Option.toList_none, List.cons_append, List.nil_append, lay_len, lay_sz, Nat.reduceAdd, Nat.reduceSub, Nat.reduceMul, Int.reduceToNat, Int.reduceLE, Int.reduceLT, Int.reduceEq, Int.reduceAdd, Int.reduceSub, Int.reduceMul, Int.reduceNeg, Nat.reduceLeDiff, Nat.reduceLT, true_and, and_true, false_and, and_false, qcat_0, qcat_1, qcat_3, qcat_9, Nat.reduceEqDiff, if_true, if_false, ite_self, or_true, true_or, or_false, false_or, forall_const, not_true_eq_false, not_false_eq_true, false_implies, implies_true, qtK0, qtK1, qtK2, qtK3, qtK4, List.getD_cons_zero, List.getD_cons_succ, Int.toNat_natCast, ne_eq, qcK, hbF, bsetF, bclrF, r1, g1_0, g1_1, g1_2, bx, w1]
    refine k52 (hP1.up a (dgT T len (k + 1) * 10 + dgT T len (k + 2)) (by decide)) hlen (hTb _ (PFr_a13 (c := 20) q1 a (dgT T len (k + 1) * 10 + dgT T len (k + 2)) (by decide))) 0 3 (by omega) (by omega) ?_ ?_
    · intro ok3 G2 hP2
      have r2 := Rf_k (P2_rf (PFr_a13 (c := 20) q1 a (dgT T len (k + 1) * 10 + dgT T len (k + 2)) (by decide)).1 hP2.1 hP2.2.1)
      have g2_0 : G2 13 0 = (h : Int) := by rw [hP2.1 13 (by decide)]; rw [qup_c (by decide)]; exact q2
      have g2_1 : G2 13 1 = (s : Int) := by rw [hP2.1 13 (by decide)]; rw [qup_c (by decide)]; exact q3
      have g2_2 : G2 13 2 = (a : Int) := by rw [hP2.1 13 (by decide)]; rw [qup_c (by decide)]; exact q4
      simp only [YK, c51, t51, cl53, tgK, lyK, rkK, wK, rfK, qRes_eq, qNon_eq, qup_ap, vup_ap, vcpy_ap, kc8_0, kc8_1, kc8_2, lc_lt, lc_gt, lc_eq, Option.toList_some, Option.toList_none, List.cons_append, List.nil_append, lay_len, lay_sz, Nat.reduceAdd, Nat.reduceSub, Nat.reduceMul, Int.reduceToNat, Int.reduceLE, Int.reduceLT, Int.reduceEq, Int.reduceAdd, Int.reduceSub, Int.reduceMul, Int.reduceNeg, Nat.reduceLeDiff, Nat.reduceLT, true_and, and_true, false_and, and_false, qcat_0, qcat_1, qcat_3, qcat_9, Nat.reduceEqDiff, if_true, if_false, ite_self, or_true, true_or, or_false, false_or, forall_const, not_true_eq_false, not_false_eq_true, false_implies, implies_true, qtK0, qtK1, qtK2, qtK3, qtK4, List.getD_cons_zero, List.getD_cons_succ, Int.toNat_natCast, ne_eq, qcK, hbF, bsetF, bclrF, r2, g2_0, g2_1, g2_2, bx, w1]
      refine k53 (hP2.up a (dgT T len (k + 3)) (by decide)) hlen (hTb _ (PFr_a13 (c := 21) (PFr_a13 (c := 20) q1 a (dgT T len (k + 1) * 10 + dgT T len (k + 2)) (by decide)) a (dgT T len (k + 3)) (by decide))) 1 30 ⟨by omega, by omega⟩ ⟨by decide, by decide⟩ (by omega) ?_ ?_ ?_
      · intro ok4 ok5 G3 hP3
        have ok4 : okd T len (k + 4) 0 3 := ok4
        have ok5 : okd T len (k + 5) (if dgT T len (k + 4) = 0 then 1 else 0) (if dgT T len (k + 4) = 3 then 0 else 9) := ok5
        have r3 := Rf_k (P2_rf (PFr_a13 (c := 21) (PFr_a13 (c := 20) q1 a (dgT T len (k + 1) * 10 + dgT T len (k + 2)) (by decide)) a (dgT T len (k + 3)) (by decide)).1 hP3.1 hP3.2.1)
        have g3_0 : G3 13 0 = (h : Int) := by rw [hP3.1 13 (by decide)]; rw [qup_c (by decide), qup_c (by decide)]; exact q2
        have g3_1 : G3 13 1 = (s : Int) := by rw [hP3.1 13 (by decide)]; rw [qup_c (by decide), qup_c (by decide)]; exact q3
        have g3_2 : G3 13 2 = (a : Int) := by rw [hP3.1 13 (by decide)]; rw [qup_c (by decide), qup_c (by decide)]; exact q4
        have hq := hk (.inr (k + 6, h, s, a + 1, qup (qup (qup W 6 a (dgT T len (k + 1) * 10 + dgT T len (k + 2))) 7 a (dgT T len (k + 3))) 8 a (dgT T len (k + 4) * 10 + dgT T len (k + 5)))) _ _ (Or.inr (Or.inr (Or.inl ⟨hTk, hb, Or.inr (Or.inr (Or.inr (Or.inr (Or.inr (⟨ok1, ok2, ok3, ok4, ok5, rfl⟩)))))⟩))) ⟨((hP3.up a (dgT T len (k + 4) * 10 + dgT T len (k + 5)) (by decide)).up 2 ((a + 1 : Nat) : Int) (by decide) : P2 _ _ len (k + 6) (-9)), PQ_A13 hQ0 hb (dgT T len (k + 1) * 10 + dgT T len (k + 2)) (dgT T len (k + 3)) (dgT T len (k + 4) * 10 + dgT T len (k + 5))⟩
        simp only [YK, c51, t51, tgK, lyK, rkK, wK, rfK, qRes_eq, qNon_eq, qup_ap, vup_ap, vcpy_ap, kc8_0, kc8_1, kc8_2, lc_lt, lc_gt, lc_eq, Option.toList_some, Option.toList_none, List.cons_append, List.nil_append, lay_len, lay_sz, Nat.reduceAdd, Nat.reduceSub, Nat.reduceMul, Int.reduceToNat, Int.reduceLE, Int.reduceLT, Int.reduceEq, Int.reduceAdd, Int.reduceSub, Int.reduceMul, Int.reduceNeg, Nat.reduceLeDiff, Nat.reduceLT, true_and, and_true, false_and, and_false, qcat_0, qcat_1, qcat_3, qcat_9, Nat.reduceEqDiff, if_true, if_false, ite_self, or_true, true_or, or_false, false_or, forall_const, not_true_eq_false, not_false_eq_true, false_implies, implies_true, qtK0, qtK1, qtK2, qtK3, qtK4, List.getD_cons_zero, List.getD_cons_succ, Int.toNat_natCast, ne_eq, qcK, hbF, bsetF, bclrF, r3, g3_0, g3_1, g3_2, bx, w1]
        exact hq
      · intro nok4 G3 u0 hP3
        have nok4 : ¬ okd T len (k + 4) 0 3 := nok4
        have r3 := Rf_k (P2_rf (PFr_a13 (c := 21) (PFr_a13 (c := 20) q1 a (dgT T len (k + 1) * 10 + dgT T len (k + 2)) (by decide)) a (dgT T len (k + 3)) (by decide)).1 hP3.1 hP3.2.1)
        have g3_0 : G3 13 0 = (h : Int) := by rw [hP3.1 13 (by decide)]; rw [qup_c (by decide), qup_c (by decide)]; exact q2
        have g3_1 : G3 13 1 = (s : Int) := by rw [hP3.1 13 (by decide)]; rw [qup_c (by decide), qup_c (by decide)]; exact q3
        have g3_2 : G3 13 2 = (a : Int) := by rw [hP3.1 13 (by decide)]; rw [qup_c (by decide), qup_c (by decide)]; exact q4
        have hq := hk (.inl ((k + 4 : Nat) : Int)) _ _ (Or.inr (Or.inr (Or.inl ⟨hTk, hb, Or.inr (Or.inr (Or.inr (Or.inl ⟨ok1, ok2, ok3, nok4, rfl⟩)))⟩))) ⟨PFl.up (c := 13) (hP3.up a (u0) (by decide) : PFl (qup (qup (qup G0 20 a (dgT T len (k + 1) * 10 + dgT T len (k + 2))) 21 a (dgT T len (k + 3))) 22 a (u0)) (qup G3 22 a (u0)) len ((k + 4 : Nat) : Int)) 2 ((a + 1 : Nat) : Int) (by decide), PFr_b13 (PFr_a13 (c := 22) (PFr_a13 (c := 21) (PFr_a13 (c := 20) q1 a (dgT T len (k + 1) * 10 + dgT T len (k + 2)) (by decide)) a (dgT T len (k + 3)) (by decide)) a (u0) (by decide)) _ (by decide)⟩
        simp only [YK, c51, t51, tgK, lyK, rkK, wK, rfK, qRes_eq, qNon_eq, qup_ap, vup_ap, vcpy_ap, kc8_0, kc8_1, kc8_2, lc_lt, lc_gt, lc_eq, Option.toList_some, Option.toList_none, List.cons_append, List.nil_append, lay_len, lay_sz, Nat.reduceAdd, Nat.reduceSub, Nat.reduceMul, Int.reduceToNat, Int.reduceLE, Int.reduceLT, Int.reduceEq, Int.reduceAdd, Int.reduceSub, Int.reduceMul, Int.reduceNeg, Nat.reduceLeDiff, Nat.reduceLT, true_and, and_true, false_and, and_false, qcat_0, qcat_1, qcat_3, qcat_9, Nat.reduceEqDiff, if_true, if_false, ite_self, or_true, true_or, or_false, false_or, forall_const, not_true_eq_false, not_false_eq_true, false_implies, implies_true, qtK0, qtK1, qtK2, qtK3, qtK4, List.getD_cons_zero, List.getD_cons_succ, Int.toNat_natCast, ne_eq, qcK, hbF, bsetF, bclrF, r3, g3_0, g3_1, g3_2, bx, w1]
        exact hq
      · intro ok4 nok5 G3 u0 hP3
        have ok4 : okd T len (k + 4) 0 3 := ok4
        have nok5 : ¬ okd T len (k + 5) (if dgT T len (k + 4) = 0 then 1 else 0) (if dgT T len (k + 4) = 3 then 0 else 9) := nok5
        have r3 := Rf_k (P2_rf (PFr_a13 (c := 21) (PFr_a13 (c := 20) q1 a (dgT T len (k + 1) * 10 + dgT T len (k + 2)) (by decide)) a (dgT T len (k + 3)) (by decide)).1 hP3.1 hP3.2.1)
        have g3_0 : G3 13 0 = (h : Int) := by rw [hP3.1 13 (by decide)]; rw [qup_c (by decide), qup_c (by decide)]; exact q2
        have g3_1 : G3 13 1 = (s : Int) := by rw [hP3.1 13 (by decide)]; rw [qup_c (by decide), qup_c (by decide)]; exact q3
        have g3_2 : G3 13 2 = (a : Int) := by rw [hP3.1 13 (by decide)]; rw [qup_c (by decide), qup_c (by decide)]; exact q4
        have hq := hk (.inl ((k + 5 : Nat) : Int)) _ _ (Or.inr (Or.inr (Or.inl ⟨hTk, hb, Or.inr (Or.inr (Or.inr (Or.inr (Or.inl ⟨ok1, ok2, ok3, ok4, nok5, rfl⟩))))⟩))) ⟨PFl.up (c := 13) (hP3.up a (u0) (by decide) : PFl (qup (qup (qup G0 20 a (dgT T len (k + 1) * 10 + dgT T len (k + 2))) 21 a (dgT T len (k + 3))) 22 a (u0)) (qup G3 22 a (u0)) len ((k + 5 : Nat) : Int)) 2 ((a + 1 : Nat) : Int) (by decide), PFr_b13 (PFr_a13 (c := 22) (PFr_a13 (c := 21) (PFr_a13 (c := 20) q1 a (dgT T len (k + 1) * 10 + dgT T len (k + 2)) (by decide)) a (dgT T len (k + 3)) (by decide)) a (u0) (by decide)) _ (by decide)⟩
        simp only [YK, c51, t51, tgK, lyK, rkK, wK, rfK, qRes_eq, qNon_eq, qup_ap, vup_ap, vcpy_ap, kc8_0, kc8_1, kc8_2, lc_lt, lc_gt, lc_eq, Option.toList_some, Option.toList_none, List.cons_append, List.nil_append, lay_len, lay_sz, Nat.reduceAdd, Nat.reduceSub, Nat.reduceMul, Int.reduceToNat, Int.reduceLE, Int.reduceLT, Int.reduceEq, Int.reduceAdd, Int.reduceSub, Int.reduceMul, Int.reduceNeg, Nat.reduceLeDiff, Nat.reduceLT, true_and, and_true, false_and, and_false, qcat_0, qcat_1, qcat_3, qcat_9, Nat.reduceEqDiff, if_true, if_false, ite_self, or_true, true_or, or_false, false_or, forall_const, not_true_eq_false, not_false_eq_true, false_implies, implies_true, qtK0, qtK1, qtK2, qtK3, qtK4, List.getD_cons_zero, List.getD_cons_succ, Int.toNat_natCast, ne_eq, qcK, hbF, bsetF, bclrF, r3, g3_0, g3_1, g3_2, bx, w1]
        exact hq
    · intro nok3 G2 hP2
      have r2 := Rf_k (P2_rf (PFr_a13 (c := 20) q1 a (dgT T len (k + 1) * 10 + dgT T len (k + 2)) (by decide)).1 hP2.1 hP2.2.1)
      have g2_0 : G2 13 0 = (h : Int) := by rw [hP2.1 13 (by decide)]; rw [qup_c (by decide)]; exact q2
      have g2_1 : G2 13 1 = (s : Int) := by rw [hP2.1 13 (by decide)]; rw [qup_c (by decide)]; exact q3
      have g2_2 : G2 13 2 = (a : Int) := by rw [hP2.1 13 (by decide)]; rw [qup_c (by decide)]; exact q4
      simp only [YK, c51, t51, cl53, tgK, lyK, rkK, wK, rfK, qRes_eq, qNon_eq, qup_ap, vup_ap, vcpy_ap, kc8_0, kc8_1, kc8_2, lc_lt, lc_gt, lc_eq, Option.toList_some, Option.toList_none, List.cons_append, List.nil_append, lay_len, lay_sz, Nat.reduceAdd, Nat.reduceSub, Nat.reduceMul, Int.reduceToNat, Int.reduceLE, Int.reduceLT, Int.reduceEq, Int.reduceAdd, Int.reduceSub, Int.reduceMul, Int.reduceNeg, Nat.reduceLeDiff, Nat.reduceLT, true_and, and_true, false_and, and_false, qcat_0, qcat_1, qcat_3, qcat_9, Nat.reduceEqDiff, if_true, if_false, ite_self, or_true, true_or, or_false, false_or, forall_const, not_true_eq_false, not_false_eq_true, false_implies, implies_true, qtK0, qtK1, qtK2, qtK3, qtK4, List.getD_cons_zero, List.getD_cons_succ, Int.toNat_natCast, ne_eq, qcK, hbF, bsetF, bclrF, r2, g2_0, g2_1, g2_2, bx, w1]
      refine k53f (hP2.up a (0) (by decide) : PFl (qup (qup G0 20 a (dgT T len (k + 1) * 10 + dgT T len (k + 2))) 21 a (0)) (qup G2 21 a (0)) len ((k + 3 : Nat) : Int)) (by omega) _ _ ?_
      intro u1
      have hq := hk (.inl ((k + 3 : Nat) : Int)) _ _ (Or.inr (Or.inr (Or.inl ⟨hTk, hb, Or.inr (Or.inr (Or.inl ⟨ok1, ok2, nok3, rfl⟩))⟩))) ⟨PFl.up (c := 13) (PFl.up (c := 22) (hP2.up a (0) (by decide) : PFl (qup (qup G0 20 a (dgT T len (k + 1) * 10 + dgT T len (k + 2))) 21 a (0)) (qup G2 21 a (0)) len ((k + 3 : Nat) : Int)) a (u1) (by decide)) 2 ((a + 1 : Nat) : Int) (by decide), PFr_b13 (PFr_a13 (c := 22) (PFr_a13 (c := 21) (PFr_a13 (c := 20) q1 a (dgT T len (k + 1) * 10 + dgT T len (k + 2)) (by decide)) a (0) (by decide)) a (u1) (by decide)) _ (by decide)⟩
      simp only [YK, c51, t51, tgK, lyK, rkK, wK, rfK, qRes_eq, qNon_eq, qup_ap, vup_ap, vcpy_ap, kc8_0, kc8_1, kc8_2, lc_lt, lc_gt, lc_eq, Option.toList_some, Option.toList_none, List.cons_append, List.nil_append, lay_len, lay_sz, Nat.reduceAdd, Nat.reduceSub, Nat.reduceMul, Int.reduceToNat, Int.reduceLE, Int.reduceLT, Int.reduceEq, Int.reduceAdd, Int.reduceSub, Int.reduceMul, Int.reduceNeg, Nat.reduceLeDiff, Nat.reduceLT, true_and, and_true, false_and, and_false, qcat_0, qcat_1, qcat_3, qcat_9, Nat.reduceEqDiff, if_true, if_false, ite_self, or_true, true_or, or_false, false_or, forall_const, not_true_eq_false, not_false_eq_true, false_implies, implies_true, qtK0, qtK1, qtK2, qtK3, qtK4, List.getD_cons_zero, List.getD_cons_succ, Int.toNat_natCast, ne_eq, qcK, hbF, bsetF, bclrF, r2, g2_0, g2_1, g2_2, bx, w1]
      exact hq
  · intro nok1 G1 u0 hP1
    have nok1 : ¬ okd T len (k + 1) 0 4 := nok1
    have r1 := Rf_k (P2_rf q1.1 hP1.1 hP1.2.1)
    have g1_0 : G1 13 0 = (h : Int) := by rw [hP1.1 13 (by decide)]; exact q2
    have g1_1 : G1 13 1 = (s : Int) := by rw [hP1.1 13 (by decide)]; exact q3
    have g1_2 : G1 13 2 = (a : Int) := by rw [hP1.1 13 (by decide)]; exact q4
    simp only [YK, c51, t51, cl52, tgK, lyK, rkK, wK, rfK, qRes_eq, qNon_eq, qup_ap, vup_ap, vcpy_ap, kc8_0, kc8_1, kc8_2, lc_lt, lc_gt, lc_eq, Option.toList_some, Option.toList_none, List.cons_append, List.nil_append, lay_len, lay_sz, Nat.reduceAdd, Nat.reduceSub, Nat.reduceMul, Int.reduceToNat, Int.reduceLE, Int.reduceLT, Int.reduceEq, Int.reduceAdd, Int.reduceSub, Int.reduceMul, Int.reduceNeg, Nat.reduceLeDiff, Nat.reduceLT, true_and, and_true, false_and, and_false, qcat_0, qcat_1, qcat_3, qcat_9, Nat.reduceEqDiff, if_true, if_false, ite_self, or_true, true_or, or_false, false_or, forall_const, not_true_eq_false, not_false_eq_true, false_implies, implies_true, qtK0, qtK1, qtK2, qtK3, qtK4, List.getD_cons_zero, List.getD_cons_succ, Int.toNat_natCast, ne_eq, qcK, hbF, bsetF, bclrF, r1, g1_0, g1_1, g1_2, bx, w1]
    refine k52f (hP1.up a (u0) (by decide) : PFl (qup G0 20 a (u0)) (qup G1 20 a (u0)) len ((k + 1 : Nat) : Int)) (by omega) _ _ ?_
    simp only [YK, c51, t51, cl53, tgK, lyK, rkK, wK, rfK, qRes_eq, qNon_eq, qup_ap, vup_ap, vcpy_ap, kc8_0, kc8_1, kc8_2, lc_lt, lc_gt, lc_eq, Option.toList_some, Option.toList_none, List.cons_append, List.nil_append, lay_len, lay_sz, Nat.reduceAdd, Nat.reduceSub, Nat.reduceMul, Int.reduceToNat, Int.reduceLE, Int.reduceLT, Int.reduceEq, Int.reduceAdd, Int.reduceSub, Int.reduceMul, Int.reduceNeg, Nat.reduceLeDiff, Nat.reduceLT, true_and, and_true, false_and, and_false, qcat_0, qcat_1, qcat_3, qcat_9, Nat.reduceEqDiff, if_true, if_false, ite_self, or_true, true_or, or_false, false_or, forall_const, not_true_eq_false, not_false_eq_true, false_implies, implies_true, qtK0, qtK1, qtK2, qtK3, qtK4, List.getD_cons_zero, List.getD_cons_succ, Int.toNat_natCast, ne_eq, qcK, hbF, bsetF, bclrF, r1, g1_0, g1_1, g1_2, bx, w1]
    refine k53f (PFl.up (c := 21) (hP1.up a (u0) (by decide) : PFl (qup G0 20 a (u0)) (qup G1 20 a (u0)) len ((k + 1 : Nat) : Int)) a (0) (by decide)) (by omega) _ _ ?_
    intro u2
    have hq := hk (.inl ((k + 1 : Nat) : Int)) _ _ (Or.inr (Or.inr (Or.inl ⟨hTk, hb, Or.inl ⟨nok1, rfl⟩⟩))) ⟨PFl.up (c := 13) (PFl.up (c := 22) (PFl.up (c := 21) (hP1.up a (u0) (by decide) : PFl (qup G0 20 a (u0)) (qup G1 20 a (u0)) len ((k + 1 : Nat) : Int)) a (0) (by decide)) a (u2) (by decide)) 2 ((a + 1 : Nat) : Int) (by decide), PFr_b13 (PFr_a13 (c := 22) (PFr_a13 (c := 21) (PFr_a13 (c := 20) q1 a (u0) (by decide)) a (0) (by decide)) a (u2) (by decide)) _ (by decide)⟩
    simp only [YK, c51, t51, tgK, lyK, rkK, wK, rfK, qRes_eq, qNon_eq, qup_ap, vup_ap, vcpy_ap, kc8_0, kc8_1, kc8_2, lc_lt, lc_gt, lc_eq, Option.toList_some, Option.toList_none, List.cons_append, List.nil_append, lay_len, lay_sz, Nat.reduceAdd, Nat.reduceSub, Nat.reduceMul, Int.reduceToNat, Int.reduceLE, Int.reduceLT, Int.reduceEq, Int.reduceAdd, Int.reduceSub, Int.reduceMul, Int.reduceNeg, Nat.reduceLeDiff, Nat.reduceLT, true_and, and_true, false_and, and_false, qcat_0, qcat_1, qcat_3, qcat_9, Nat.reduceEqDiff, if_true, if_false, ite_self, or_true, true_or, or_false, false_or, forall_const, not_true_eq_false, not_false_eq_true, false_implies, implies_true, qtK0, qtK1, qtK2, qtK3, qtK4, List.getD_cons_zero, List.getD_cons_succ, Int.toNat_natCast, ne_eq, qcK, hbF, bsetF, bclrF, r1, g1_0, g1_1, g1_2, bx, w1]
    exact hq
  · intro ok1 nok2 G1 u0 hP1
    have ok1 : okd T len (k + 1) 0 4 := ok1
    have nok2 : ¬ okd T len (k + 2) 0 (if dgT T len (k + 1) = 4 then 0 else 9) := by
      have e : (if dgT T len (k + 1) = (0 : Int) / 10 then (0 : Int) % 10 else 0) = 0 := by rw [show (0 : Int) % 10 = 0 from rfl, ite_self]
      rw [e] at nok2
      exact nok2
    have r1 := Rf_k (P2_rf q1.1 hP1.1 hP1.2.1)
    have g1_0 : G1 13 0 = (h : Int) := by rw [hP1.1 13 (by decide)]; exact q2
    have g1_1 : G1 13 1 = (s : Int) := by rw [hP1.1 13 (by decide)]; exact q3
    have g1_2 : G1 13 2 = (a : Int) := by rw [hP1.1 13 (by decide)]; exact q4
    simp only [YK, c51, t51, cl52, tgK, lyK, rkK, wK, rfK, qRes_eq, qNon_eq, qup_ap, vup_ap, vcpy_ap, kc8_0, kc8_1, kc8_2, lc_lt, lc_gt, lc_eq, Option.toList_some, Option.toList_none, List.cons_append, List.nil_append, lay_len, lay_sz, Nat.reduceAdd, Nat.reduceSub, Nat.reduceMul, Int.reduceToNat, Int.reduceLE, Int.reduceLT, Int.reduceEq, Int.reduceAdd, Int.reduceSub, Int.reduceMul, Int.reduceNeg, Nat.reduceLeDiff, Nat.reduceLT, true_and, and_true, false_and, and_false, qcat_0, qcat_1, qcat_3, qcat_9, Nat.reduceEqDiff, if_true, if_false, ite_self, or_true, true_or, or_false, false_or, forall_const, not_true_eq_false, not_false_eq_true, false_implies, implies_true, qtK0, qtK1, qtK2, qtK3, qtK4, List.getD_cons_zero, List.getD_cons_succ, Int.toNat_natCast, ne_eq, qcK, hbF, bsetF, bclrF, r1, g1_0, g1_1, g1_2, bx, w1]
    refine k52f (hP1.up a (u0) (by decide) : PFl (qup G0 20 a (u0)) (qup G1 20 a (u0)) len ((k + 2 : Nat) : Int)) (by omega) _ _ ?_
    simp only [YK, c51, t51, cl53, tgK, lyK, rkK, wK, rfK, qRes_eq, qNon_eq, qup_ap, vup_ap, vcpy_ap, kc8_0, kc8_1, kc8_2, lc_lt, lc_gt, lc_eq, Option.toList_some, Option.toList_none, List.cons_append, List.nil_append, lay_len, lay_sz, Nat.reduceAdd, Nat.reduceSub, Nat.reduceMul, Int.reduceToNat, Int.reduceLE, Int.reduceLT, Int.reduceEq, Int.reduceAdd, Int.reduceSub, Int.reduceMul, Int.reduceNeg, Nat.reduceLeDiff, Nat.reduceLT, true_and, and_true, false_and, and_false, qcat_0, qcat_1, qcat_3, qcat_9, Nat.reduceEqDiff, if_true, if_false, ite_self, or_true, true_or, or_false, false_or, forall_const, not_true_eq_false, not_false_eq_true, false_implies, implies_true, qtK0, qtK1, qtK2, qtK3, qtK4, List.getD_cons_zero, List.getD_cons_succ, Int.toNat_natCast, ne_eq, qcK, hbF, bsetF, bclrF, r1, g1_0, g1_1, g1_2, bx, w1]
    refine k53f (PFl.up (c := 21) (hP1.up a (u0) (by decide) : PFl (qup G0 20 a (u0)) (qup G1 20 a (u0)) len ((k + 2 : Nat) : Int)) a (0) (by decide)) (by omega) _ _ ?_
    intro u3
    have hq := hk (.inl ((k + 2 : Nat) : Int)) _ _ (Or.inr (Or.inr (Or.inl ⟨hTk, hb, Or.inr (Or.inl ⟨ok1, nok2, rfl⟩)⟩))) ⟨PFl.up (c := 13) (PFl.up (c := 22) (PFl.up (c := 21) (hP1.up a (u0) (by decide) : PFl (qup G0 20 a (u0)) (qup G1 20 a (u0)) len ((k + 2 : Nat) : Int)) a (0) (by decide)) a (u3) (by decide)) 2 ((a + 1 : Nat) : Int) (by decide), PFr_b13 (PFr_a13 (c := 22) (PFr_a13 (c := 21) (PFr_a13 (c := 20) q1 a (u0) (by decide)) a (0) (by decide)) a (u3) (by decide)) _ (by decide)⟩
    simp only [YK, c51, t51, tgK, lyK, rkK, wK, rfK, qRes_eq, qNon_eq, qup_ap, vup_ap, vcpy_ap, kc8_0, kc8_1, kc8_2, lc_lt, lc_gt, lc_eq, Option.toList_some, Option.toList_none, List.cons_append, List.nil_append, lay_len, lay_sz, Nat.reduceAdd, Nat.reduceSub, Nat.reduceMul, Int.reduceToNat, Int.reduceLE, Int.reduceLT, Int.reduceEq, Int.reduceAdd, Int.reduceSub, Int.reduceMul, Int.reduceNeg, Nat.reduceLeDiff, Nat.reduceLT, true_and, and_true, false_and, and_false, qcat_0, qcat_1, qcat_3, qcat_9, Nat.reduceEqDiff, if_true, if_false, ite_self, or_true, true_or, or_false, false_or, forall_const, not_true_eq_false, not_false_eq_true, false_implies, implies_true, qtK0, qtK1, qtK2, qtK3, qtK4, List.getD_cons_zero, List.getD_cons_succ, Int.toNat_natCast, ne_eq, qcK, hbF, bsetF, bclrF, r1, g1_0, g1_1, g1_2, bx, w1]
    exact hq
