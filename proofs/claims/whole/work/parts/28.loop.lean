/-- a call of the class, then the same of the reference: the same answer, and Rel again -/
def qPair (tb : qTb) (Rel : (Nat → Nat → Int) → Prop) (t A B : Nat) (LA LB : List qV) (F : Nat → Nat → Int) : Prop := qW tb A (119, 1262) 0 LA [] (LAY, F) (fun r M => ∃ (F1 : Nat → Nat → Int) (v : Int), M = (LAY, F1) ∧ r = some (t, v) ∧ qW tb B (119, 1262) 0 LB [] (LAY, F1) (fun r2 M2 => ∃ F2 : Nat → Nat → Int, M2 = (LAY, F2) ∧ r2 = some (t, v) ∧ Rel F2))
theorem kc8_0 : qcats [] ≤ 8 := by decide
theorem kc8_1 (x : Int) : qcats [(0, x)] ≤ 8 := Nat.le_of_ble_eq_true rfl
theorem kc8_2 (x : Int) : qcats [(1, x)] ≤ 8 := Nat.le_of_ble_eq_true rfl
abbrev I32 (x : Int) : Prop := -2147483648 ≤ x ∧ x < 2147483648
abbrev I64 (x : Int) : Prop := -9223372036854775808 ≤ x ∧ x < 9223372036854775808
def lawsw (X : Int) : Nat := if X < 0 then qtgt 32 760 else if 22 < X then qtgt 32 760 else qtgt 32 ((#[108, 131, 144, 157, 170, 193, 226, 249, 262, 295, 328, 351, 394, 417, 480, 513, 526, 539, 588, 637, 691, 714, 737] : Array Int).toList.getD (X - 0).toNat 760)
theorem lawsw_0 : lawsw 0 = 140 := by decide +kernel
theorem lawsw_1 : lawsw 1 = 163 := by decide +kernel
theorem lawsw_2 : lawsw 2 = 176 := by decide +kernel
theorem lawsw_3 : lawsw 3 = 189 := by decide +kernel
theorem lawsw_4 : lawsw 4 = 202 := by decide +kernel
theorem lawsw_5 : lawsw 5 = 225 := by decide +kernel
theorem lawsw_6 : lawsw 6 = 258 := by decide +kernel
theorem lawsw_7 : lawsw 7 = 281 := by decide +kernel
theorem lawsw_8 : lawsw 8 = 294 := by decide +kernel
theorem lawsw_9 : lawsw 9 = 327 := by decide +kernel
theorem lawsw_10 : lawsw 10 = 360 := by decide +kernel
theorem lawsw_11 : lawsw 11 = 383 := by decide +kernel
theorem lawsw_12 : lawsw 12 = 426 := by decide +kernel
theorem lawsw_13 : lawsw 13 = 449 := by decide +kernel
theorem lawsw_14 : lawsw 14 = 512 := by decide +kernel
theorem lawsw_15 : lawsw 15 = 545 := by decide +kernel
theorem lawsw_16 : lawsw 16 = 558 := by decide +kernel
theorem lawsw_17 : lawsw 17 = 571 := by decide +kernel
theorem lawsw_18 : lawsw 18 = 620 := by decide +kernel
theorem lawsw_19 : lawsw 19 = 669 := by decide +kernel
theorem lawsw_20 : lawsw 20 = 723 := by decide +kernel
theorem lawsw_21 : lawsw 21 = 746 := by decide +kernel
theorem lawsw_22 : lawsw 22 = 769 := by decide +kernel
theorem lawsw_d {X : Int} (h : 22 < X) : lawsw X = 792 := by
  unfold lawsw
  rw [if_neg (by omega), if_pos h]
  decide
theorem and31 (x : Int) : 0 ≤ (i1 x &&& i1 31).toInt ∧ (i1 x &&& i1 31).toInt ≤ 31 := by
  obtain ⟨j, hj, e⟩ := pk_andE (i1 x) (m := i1 31) 5 (by decide)
  rw [e, nI_toInt (by omega)]
  omega
theorem qtab5 (L : Nat) (xs : Nat → Int) : qtab L xs 5 = (L, xs) := rfl
def lawR : Option qV → qM → Prop := fun r M => r = some (0, 1) ∧ M.1.length ≤ 600000 ∧ qsz M.1 ≤ 7302250
theorem law_write {L : Nat} {xs : Nat → Int} {Rel : (Nat → Nat → Int) → Prop} {F : Nat → Nat → Int} {i : Int} (hL : L ≤ 2048) (hxs : ∀ j, I32 (xs j)) (hi0 : 0 ≤ i) (hi1 : i + 4 ≤ (L : Int)) (hF : Rel F) (H0 : ∀ F a0, Rel F → I32 a0 → qPair (qtab L xs) Rel 0 70 117 [(3, 0), (0, a0)] [(3, 69), (0, a0)] F)
    (hk : ∀ F2, Rel F2 → qW (qtab L xs) 183 (600000, 7302250) 18 [(3, -7), (3, 0), (3, 69), (0, w32 (i + 4))] [] (LAY, F2) lawR) : qW (qtab L xs) 183 (600000, 7302250) 140 [(3, -7), (3, 0), (3, 69), (0, i)] [] (LAY, F) lawR := by
  have e1 : w32 (i + 1) = i + 1 := w32_id ⟨by omega, by omega⟩
  have e2 : w32 (i + 2) = i + 2 := w32_id ⟨by omega, by omega⟩
  have e3 : w32 (i + 3) = i + 3 := w32_id ⟨by omega, by omega⟩
  have b1 : 0 ≤ i + 1 ∧ i + 1 < (L : Int) := ⟨by omega, by omega⟩
  have b2 : 0 ≤ i + 2 ∧ i + 2 < (L : Int) := ⟨by omega, by omega⟩
  have b3 : 0 ≤ i + 3 ∧ i + 3 < (L : Int) := ⟨by omega, by omega⟩
  simp only [YK, c183, t183, qtab5, Nat.reduceAdd, Int.reduceToNat, Int.reduceLE, Int.reduceLT, Nat.reduceLeDiff, true_and, and_true, qcat_0, qcat_1, qcat_3, qcat_9, cl70, e1, e2, e3, b1, b2, b3, lyK, kc8_0]
  refine qW_mono _ _ _ _ _ _ _ _ _ ?_ (H0 F _ hF (hxs _))
  rintro r M ⟨F1, v, rfl, rfl, h2⟩
  refine ⟨⟨lay_len, lay_sz⟩, ?_⟩
  simp only [YK, c183, t183, qtab5, Nat.reduceAdd, Int.reduceToNat, Int.reduceLE, Int.reduceLT, Nat.reduceLeDiff, true_and, and_true, qcat_0, qcat_1, qcat_3, qcat_9, cl117, e1, e2, e3, b1, b2, b3, lyK, kc8_1, kc8_2, Option.toList_some, List.cons_append, List.nil_append]
  refine qW_mono _ _ _ _ _ _ _ _ _ ?_ h2
  rintro r M ⟨F2, rfl, rfl, hR⟩
  refine ⟨⟨lay_len, lay_sz⟩, ?_⟩
  simp only [YK, c183, t183, qtab5, Nat.reduceAdd, Int.reduceToNat, Int.reduceLE, Int.reduceLT, Nat.reduceLeDiff, true_and, and_true, qcat_0, qcat_1, qcat_3, qcat_9, Option.toList_some, List.cons_append, List.nil_append]
  exact ⟨fun _ => hk F2 hR, fun h => absurd trivial h⟩
theorem law_wipe {L : Nat} {xs : Nat → Int} {Rel : (Nat → Nat → Int) → Prop} {F : Nat → Nat → Int} {i : Int} (hL : L ≤ 2048) (hxs : ∀ j, I32 (xs j)) (hi0 : 0 ≤ i) (hi1 : i + 4 ≤ (L : Int)) (hF : Rel F) (H1 : ∀ F, Rel F → qPair (qtab L xs) Rel 0 71 118 [(3, 0), (9, 0)] [(3, 69), (9, 0)] F)
    (hk : ∀ F2, Rel F2 → qW (qtab L xs) 183 (600000, 7302250) 18 [(3, -7), (3, 0), (3, 69), (0, w32 (i + 4))] [] (LAY, F2) lawR) : qW (qtab L xs) 183 (600000, 7302250) 163 [(3, -7), (3, 0), (3, 69), (0, i)] [] (LAY, F) lawR := by
  have e1 : w32 (i + 1) = i + 1 := w32_id ⟨by omega, by omega⟩
  have e2 : w32 (i + 2) = i + 2 := w32_id ⟨by omega, by omega⟩
  have e3 : w32 (i + 3) = i + 3 := w32_id ⟨by omega, by omega⟩
  have b1 : 0 ≤ i + 1 ∧ i + 1 < (L : Int) := ⟨by omega, by omega⟩
  have b2 : 0 ≤ i + 2 ∧ i + 2 < (L : Int) := ⟨by omega, by omega⟩
  have b3 : 0 ≤ i + 3 ∧ i + 3 < (L : Int) := ⟨by omega, by omega⟩
  simp only [YK, c183, t183, qtab5, Nat.reduceAdd, Int.reduceToNat, Int.reduceLE, Int.reduceLT, Nat.reduceLeDiff, true_and, and_true, qcat_0, qcat_1, qcat_3, qcat_9, cl71, e1, e2, e3, b1, b2, b3, lyK, kc8_0]
  refine qW_mono _ _ _ _ _ _ _ _ _ ?_ (H1 F hF)
  rintro r M ⟨F1, v, rfl, rfl, h2⟩
  refine ⟨⟨lay_len, lay_sz⟩, ?_⟩
  simp only [YK, c183, t183, qtab5, Nat.reduceAdd, Int.reduceToNat, Int.reduceLE, Int.reduceLT, Nat.reduceLeDiff, true_and, and_true, qcat_0, qcat_1, qcat_3, qcat_9, cl118, e1, e2, e3, b1, b2, b3, lyK, kc8_1, kc8_2, Option.toList_some, List.cons_append, List.nil_append]
  refine qW_mono _ _ _ _ _ _ _ _ _ ?_ h2
  rintro r M ⟨F2, rfl, rfl, hR⟩
  refine ⟨⟨lay_len, lay_sz⟩, ?_⟩
  simp only [YK, c183, t183, qtab5, Nat.reduceAdd, Int.reduceToNat, Int.reduceLE, Int.reduceLT, Nat.reduceLeDiff, true_and, and_true, qcat_0, qcat_1, qcat_3, qcat_9, Option.toList_some, List.cons_append, List.nil_append]
  exact ⟨fun _ => hk F2 hR, fun h => absurd trivial h⟩
theorem law_fault {L : Nat} {xs : Nat → Int} {Rel : (Nat → Nat → Int) → Prop} {F : Nat → Nat → Int} {i : Int} (hL : L ≤ 2048) (hxs : ∀ j, I32 (xs j)) (hi0 : 0 ≤ i) (hi1 : i + 4 ≤ (L : Int)) (hF : Rel F) (H2 : ∀ F, Rel F → qPair (qtab L xs) Rel 0 72 124 [(3, 0)] [(3, 69)] F)
    (hk : ∀ F2, Rel F2 → qW (qtab L xs) 183 (600000, 7302250) 18 [(3, -7), (3, 0), (3, 69), (0, w32 (i + 4))] [] (LAY, F2) lawR) : qW (qtab L xs) 183 (600000, 7302250) 176 [(3, -7), (3, 0), (3, 69), (0, i)] [] (LAY, F) lawR := by
  have e1 : w32 (i + 1) = i + 1 := w32_id ⟨by omega, by omega⟩
  have e2 : w32 (i + 2) = i + 2 := w32_id ⟨by omega, by omega⟩
  have e3 : w32 (i + 3) = i + 3 := w32_id ⟨by omega, by omega⟩
  have b1 : 0 ≤ i + 1 ∧ i + 1 < (L : Int) := ⟨by omega, by omega⟩
  have b2 : 0 ≤ i + 2 ∧ i + 2 < (L : Int) := ⟨by omega, by omega⟩
  have b3 : 0 ≤ i + 3 ∧ i + 3 < (L : Int) := ⟨by omega, by omega⟩
  simp only [YK, c183, t183, qtab5, Nat.reduceAdd, Int.reduceToNat, Int.reduceLE, Int.reduceLT, Nat.reduceLeDiff, true_and, and_true, qcat_0, qcat_1, qcat_3, qcat_9, cl72, e1, e2, e3, b1, b2, b3, lyK, kc8_0]
  refine qW_mono _ _ _ _ _ _ _ _ _ ?_ (H2 F hF)
  rintro r M ⟨F1, v, rfl, rfl, h2⟩
  refine ⟨⟨lay_len, lay_sz⟩, ?_⟩
  simp only [YK, c183, t183, qtab5, Nat.reduceAdd, Int.reduceToNat, Int.reduceLE, Int.reduceLT, Nat.reduceLeDiff, true_and, and_true, qcat_0, qcat_1, qcat_3, qcat_9, cl124, e1, e2, e3, b1, b2, b3, lyK, kc8_1, kc8_2, Option.toList_some, List.cons_append, List.nil_append]
  refine qW_mono _ _ _ _ _ _ _ _ _ ?_ h2
  rintro r M ⟨F2, rfl, rfl, hR⟩
  refine ⟨⟨lay_len, lay_sz⟩, ?_⟩
  simp only [YK, c183, t183, qtab5, Nat.reduceAdd, Int.reduceToNat, Int.reduceLE, Int.reduceLT, Nat.reduceLeDiff, true_and, and_true, qcat_0, qcat_1, qcat_3, qcat_9, Option.toList_some, List.cons_append, List.nil_append]
  exact ⟨fun _ => hk F2 hR, fun h => absurd trivial h⟩
theorem law_day {L : Nat} {xs : Nat → Int} {Rel : (Nat → Nat → Int) → Prop} {F : Nat → Nat → Int} {i : Int} (hL : L ≤ 2048) (hxs : ∀ j, I32 (xs j)) (hi0 : 0 ≤ i) (hi1 : i + 4 ≤ (L : Int)) (hF : Rel F) (H3 : ∀ F, Rel F → qPair (qtab L xs) Rel 0 73 125 [(3, 0), (9, 0)] [(3, 69), (9, 0)] F)
    (hk : ∀ F2, Rel F2 → qW (qtab L xs) 183 (600000, 7302250) 18 [(3, -7), (3, 0), (3, 69), (0, w32 (i + 4))] [] (LAY, F2) lawR) : qW (qtab L xs) 183 (600000, 7302250) 189 [(3, -7), (3, 0), (3, 69), (0, i)] [] (LAY, F) lawR := by
  have e1 : w32 (i + 1) = i + 1 := w32_id ⟨by omega, by omega⟩
  have e2 : w32 (i + 2) = i + 2 := w32_id ⟨by omega, by omega⟩
  have e3 : w32 (i + 3) = i + 3 := w32_id ⟨by omega, by omega⟩
  have b1 : 0 ≤ i + 1 ∧ i + 1 < (L : Int) := ⟨by omega, by omega⟩
  have b2 : 0 ≤ i + 2 ∧ i + 2 < (L : Int) := ⟨by omega, by omega⟩
  have b3 : 0 ≤ i + 3 ∧ i + 3 < (L : Int) := ⟨by omega, by omega⟩
  simp only [YK, c183, t183, qtab5, Nat.reduceAdd, Int.reduceToNat, Int.reduceLE, Int.reduceLT, Nat.reduceLeDiff, true_and, and_true, qcat_0, qcat_1, qcat_3, qcat_9, cl73, e1, e2, e3, b1, b2, b3, lyK, kc8_0]
  refine qW_mono _ _ _ _ _ _ _ _ _ ?_ (H3 F hF)
  rintro r M ⟨F1, v, rfl, rfl, h2⟩
  refine ⟨⟨lay_len, lay_sz⟩, ?_⟩
  simp only [YK, c183, t183, qtab5, Nat.reduceAdd, Int.reduceToNat, Int.reduceLE, Int.reduceLT, Nat.reduceLeDiff, true_and, and_true, qcat_0, qcat_1, qcat_3, qcat_9, cl125, e1, e2, e3, b1, b2, b3, lyK, kc8_1, kc8_2, Option.toList_some, List.cons_append, List.nil_append]
  refine qW_mono _ _ _ _ _ _ _ _ _ ?_ h2
  rintro r M ⟨F2, rfl, rfl, hR⟩
  refine ⟨⟨lay_len, lay_sz⟩, ?_⟩
  simp only [YK, c183, t183, qtab5, Nat.reduceAdd, Int.reduceToNat, Int.reduceLE, Int.reduceLT, Nat.reduceLeDiff, true_and, and_true, qcat_0, qcat_1, qcat_3, qcat_9, Option.toList_some, List.cons_append, List.nil_append]
  exact ⟨fun _ => hk F2 hR, fun h => absurd trivial h⟩
theorem law_about {L : Nat} {xs : Nat → Int} {Rel : (Nat → Nat → Int) → Prop} {F : Nat → Nat → Int} {i : Int} (hL : L ≤ 2048) (hxs : ∀ j, I32 (xs j)) (hi0 : 0 ≤ i) (hi1 : i + 4 ≤ (L : Int)) (hF : Rel F) (H4 : ∀ F a0, Rel F → I32 a0 → qPair (qtab L xs) Rel 0 74 153 [(3, 0), (0, a0)] [(3, 69), (0, a0)] F)
    (hk : ∀ F2, Rel F2 → qW (qtab L xs) 183 (600000, 7302250) 18 [(3, -7), (3, 0), (3, 69), (0, w32 (i + 4))] [] (LAY, F2) lawR) : qW (qtab L xs) 183 (600000, 7302250) 202 [(3, -7), (3, 0), (3, 69), (0, i)] [] (LAY, F) lawR := by
  have e1 : w32 (i + 1) = i + 1 := w32_id ⟨by omega, by omega⟩
  have e2 : w32 (i + 2) = i + 2 := w32_id ⟨by omega, by omega⟩
  have e3 : w32 (i + 3) = i + 3 := w32_id ⟨by omega, by omega⟩
  have b1 : 0 ≤ i + 1 ∧ i + 1 < (L : Int) := ⟨by omega, by omega⟩
  have b2 : 0 ≤ i + 2 ∧ i + 2 < (L : Int) := ⟨by omega, by omega⟩
  have b3 : 0 ≤ i + 3 ∧ i + 3 < (L : Int) := ⟨by omega, by omega⟩
  simp only [YK, c183, t183, qtab5, Nat.reduceAdd, Int.reduceToNat, Int.reduceLE, Int.reduceLT, Nat.reduceLeDiff, true_and, and_true, qcat_0, qcat_1, qcat_3, qcat_9, cl74, e1, e2, e3, b1, b2, b3, lyK, kc8_0]
  refine qW_mono _ _ _ _ _ _ _ _ _ ?_ (H4 F _ hF (hxs _))
  rintro r M ⟨F1, v, rfl, rfl, h2⟩
  refine ⟨⟨lay_len, lay_sz⟩, ?_⟩
  simp only [YK, c183, t183, qtab5, Nat.reduceAdd, Int.reduceToNat, Int.reduceLE, Int.reduceLT, Nat.reduceLeDiff, true_and, and_true, qcat_0, qcat_1, qcat_3, qcat_9, cl153, e1, e2, e3, b1, b2, b3, lyK, kc8_1, kc8_2, Option.toList_some, List.cons_append, List.nil_append]
  refine qW_mono _ _ _ _ _ _ _ _ _ ?_ h2
  rintro r M ⟨F2, rfl, rfl, hR⟩
  refine ⟨⟨lay_len, lay_sz⟩, ?_⟩
  simp only [YK, c183, t183, qtab5, Nat.reduceAdd, Int.reduceToNat, Int.reduceLE, Int.reduceLT, Nat.reduceLeDiff, true_and, and_true, qcat_0, qcat_1, qcat_3, qcat_9, Option.toList_some, List.cons_append, List.nil_append]
  exact ⟨fun _ => hk F2 hR, fun h => absurd trivial h⟩
theorem law_set {L : Nat} {xs : Nat → Int} {Rel : (Nat → Nat → Int) → Prop} {F : Nat → Nat → Int} {i : Int} (hL : L ≤ 2048) (hxs : ∀ j, I32 (xs j)) (hi0 : 0 ≤ i) (hi1 : i + 4 ≤ (L : Int)) (hF : Rel F) (H5 : ∀ F a0 a1, Rel F → I32 a0 → I32 a1 → qPair (qtab L xs) Rel 0 75 156 [(3, 0), (0, a0), (0, a1), (9, 0)] [(3, 69), (0, a0), (0, a1), (9, 0)] F)
    (hk : ∀ F2, Rel F2 → qW (qtab L xs) 183 (600000, 7302250) 18 [(3, -7), (3, 0), (3, 69), (0, w32 (i + 4))] [] (LAY, F2) lawR) : qW (qtab L xs) 183 (600000, 7302250) 225 [(3, -7), (3, 0), (3, 69), (0, i)] [] (LAY, F) lawR := by
  have e1 : w32 (i + 1) = i + 1 := w32_id ⟨by omega, by omega⟩
  have e2 : w32 (i + 2) = i + 2 := w32_id ⟨by omega, by omega⟩
  have e3 : w32 (i + 3) = i + 3 := w32_id ⟨by omega, by omega⟩
  have b1 : 0 ≤ i + 1 ∧ i + 1 < (L : Int) := ⟨by omega, by omega⟩
  have b2 : 0 ≤ i + 2 ∧ i + 2 < (L : Int) := ⟨by omega, by omega⟩
  have b3 : 0 ≤ i + 3 ∧ i + 3 < (L : Int) := ⟨by omega, by omega⟩
  simp only [YK, c183, t183, qtab5, Nat.reduceAdd, Int.reduceToNat, Int.reduceLE, Int.reduceLT, Nat.reduceLeDiff, true_and, and_true, qcat_0, qcat_1, qcat_3, qcat_9, cl75, e1, e2, e3, b1, b2, b3, lyK, kc8_0]
  refine qW_mono _ _ _ _ _ _ _ _ _ ?_ (H5 F _ _ hF (hxs _) (hxs _))
  rintro r M ⟨F1, v, rfl, rfl, h2⟩
  refine ⟨⟨lay_len, lay_sz⟩, ?_⟩
  simp only [YK, c183, t183, qtab5, Nat.reduceAdd, Int.reduceToNat, Int.reduceLE, Int.reduceLT, Nat.reduceLeDiff, true_and, and_true, qcat_0, qcat_1, qcat_3, qcat_9, cl156, e1, e2, e3, b1, b2, b3, lyK, kc8_1, kc8_2, Option.toList_some, List.cons_append, List.nil_append]
  refine qW_mono _ _ _ _ _ _ _ _ _ ?_ h2
  rintro r M ⟨F2, rfl, rfl, hR⟩
  refine ⟨⟨lay_len, lay_sz⟩, ?_⟩
  simp only [YK, c183, t183, qtab5, Nat.reduceAdd, Int.reduceToNat, Int.reduceLE, Int.reduceLT, Nat.reduceLeDiff, true_and, and_true, qcat_0, qcat_1, qcat_3, qcat_9, Option.toList_some, List.cons_append, List.nil_append]
  exact ⟨fun _ => hk F2 hR, fun h => absurd trivial h⟩
theorem law_turn {L : Nat} {xs : Nat → Int} {Rel : (Nat → Nat → Int) → Prop} {F : Nat → Nat → Int} {i : Int} (hL : L ≤ 2048) (hxs : ∀ j, I32 (xs j)) (hi0 : 0 ≤ i) (hi1 : i + 4 ≤ (L : Int)) (hF : Rel F) (H6 : ∀ F a0, Rel F → I32 a0 → qPair (qtab L xs) Rel 0 76 159 [(3, 0), (0, a0), (9, 0)] [(3, 69), (0, a0)] F)
    (hk : ∀ F2, Rel F2 → qW (qtab L xs) 183 (600000, 7302250) 18 [(3, -7), (3, 0), (3, 69), (0, w32 (i + 4))] [] (LAY, F2) lawR) : qW (qtab L xs) 183 (600000, 7302250) 258 [(3, -7), (3, 0), (3, 69), (0, i)] [] (LAY, F) lawR := by
  have e1 : w32 (i + 1) = i + 1 := w32_id ⟨by omega, by omega⟩
  have e2 : w32 (i + 2) = i + 2 := w32_id ⟨by omega, by omega⟩
  have e3 : w32 (i + 3) = i + 3 := w32_id ⟨by omega, by omega⟩
  have b1 : 0 ≤ i + 1 ∧ i + 1 < (L : Int) := ⟨by omega, by omega⟩
  have b2 : 0 ≤ i + 2 ∧ i + 2 < (L : Int) := ⟨by omega, by omega⟩
  have b3 : 0 ≤ i + 3 ∧ i + 3 < (L : Int) := ⟨by omega, by omega⟩
  simp only [YK, c183, t183, qtab5, Nat.reduceAdd, Int.reduceToNat, Int.reduceLE, Int.reduceLT, Nat.reduceLeDiff, true_and, and_true, qcat_0, qcat_1, qcat_3, qcat_9, cl76, e1, e2, e3, b1, b2, b3, lyK, kc8_0]
  refine qW_mono _ _ _ _ _ _ _ _ _ ?_ (H6 F _ hF (hxs _))
  rintro r M ⟨F1, v, rfl, rfl, h2⟩
  refine ⟨⟨lay_len, lay_sz⟩, ?_⟩
  simp only [YK, c183, t183, qtab5, Nat.reduceAdd, Int.reduceToNat, Int.reduceLE, Int.reduceLT, Nat.reduceLeDiff, true_and, and_true, qcat_0, qcat_1, qcat_3, qcat_9, cl159, e1, e2, e3, b1, b2, b3, lyK, kc8_1, kc8_2, Option.toList_some, List.cons_append, List.nil_append]
  refine qW_mono _ _ _ _ _ _ _ _ _ ?_ h2
  rintro r M ⟨F2, rfl, rfl, hR⟩
  refine ⟨⟨lay_len, lay_sz⟩, ?_⟩
  simp only [YK, c183, t183, qtab5, Nat.reduceAdd, Int.reduceToNat, Int.reduceLE, Int.reduceLT, Nat.reduceLeDiff, true_and, and_true, qcat_0, qcat_1, qcat_3, qcat_9, Option.toList_some, List.cons_append, List.nil_append]
  exact ⟨fun _ => hk F2 hR, fun h => absurd trivial h⟩
theorem law_undo {L : Nat} {xs : Nat → Int} {Rel : (Nat → Nat → Int) → Prop} {F : Nat → Nat → Int} {i : Int} (hL : L ≤ 2048) (hxs : ∀ j, I32 (xs j)) (hi0 : 0 ≤ i) (hi1 : i + 4 ≤ (L : Int)) (hF : Rel F) (H7 : ∀ F, Rel F → qPair (qtab L xs) Rel 0 77 160 [(3, 0)] [(3, 69), (9, 0)] F)
    (hk : ∀ F2, Rel F2 → qW (qtab L xs) 183 (600000, 7302250) 18 [(3, -7), (3, 0), (3, 69), (0, w32 (i + 4))] [] (LAY, F2) lawR) : qW (qtab L xs) 183 (600000, 7302250) 281 [(3, -7), (3, 0), (3, 69), (0, i)] [] (LAY, F) lawR := by
  have e1 : w32 (i + 1) = i + 1 := w32_id ⟨by omega, by omega⟩
  have e2 : w32 (i + 2) = i + 2 := w32_id ⟨by omega, by omega⟩
  have e3 : w32 (i + 3) = i + 3 := w32_id ⟨by omega, by omega⟩
  have b1 : 0 ≤ i + 1 ∧ i + 1 < (L : Int) := ⟨by omega, by omega⟩
  have b2 : 0 ≤ i + 2 ∧ i + 2 < (L : Int) := ⟨by omega, by omega⟩
  have b3 : 0 ≤ i + 3 ∧ i + 3 < (L : Int) := ⟨by omega, by omega⟩
  simp only [YK, c183, t183, qtab5, Nat.reduceAdd, Int.reduceToNat, Int.reduceLE, Int.reduceLT, Nat.reduceLeDiff, true_and, and_true, qcat_0, qcat_1, qcat_3, qcat_9, cl77, e1, e2, e3, b1, b2, b3, lyK, kc8_0]
  refine qW_mono _ _ _ _ _ _ _ _ _ ?_ (H7 F hF)
  rintro r M ⟨F1, v, rfl, rfl, h2⟩
  refine ⟨⟨lay_len, lay_sz⟩, ?_⟩
  simp only [YK, c183, t183, qtab5, Nat.reduceAdd, Int.reduceToNat, Int.reduceLE, Int.reduceLT, Nat.reduceLeDiff, true_and, and_true, qcat_0, qcat_1, qcat_3, qcat_9, cl160, e1, e2, e3, b1, b2, b3, lyK, kc8_1, kc8_2, Option.toList_some, List.cons_append, List.nil_append]
  refine qW_mono _ _ _ _ _ _ _ _ _ ?_ h2
  rintro r M ⟨F2, rfl, rfl, hR⟩
  refine ⟨⟨lay_len, lay_sz⟩, ?_⟩
  simp only [YK, c183, t183, qtab5, Nat.reduceAdd, Int.reduceToNat, Int.reduceLE, Int.reduceLT, Nat.reduceLeDiff, true_and, and_true, qcat_0, qcat_1, qcat_3, qcat_9, Option.toList_some, List.cons_append, List.nil_append]
  exact ⟨fun _ => hk F2 hR, fun h => absurd trivial h⟩
theorem law_ask {L : Nat} {xs : Nat → Int} {Rel : (Nat → Nat → Int) → Prop} {F : Nat → Nat → Int} {i : Int} (hL : L ≤ 2048) (hxs : ∀ j, I32 (xs j)) (hi0 : 0 ≤ i) (hi1 : i + 4 ≤ (L : Int)) (hF : Rel F) (H8 : ∀ F a0 a1, Rel F → I32 a0 → I32 a1 → qPair (qtab L xs) Rel 0 78 161 [(3, 0), (0, a0), (0, a1)] [(3, 69), (0, a0), (0, a1)] F)
    (hk : ∀ F2, Rel F2 → qW (qtab L xs) 183 (600000, 7302250) 18 [(3, -7), (3, 0), (3, 69), (0, w32 (i + 4))] [] (LAY, F2) lawR) : qW (qtab L xs) 183 (600000, 7302250) 294 [(3, -7), (3, 0), (3, 69), (0, i)] [] (LAY, F) lawR := by
  have e1 : w32 (i + 1) = i + 1 := w32_id ⟨by omega, by omega⟩
  have e2 : w32 (i + 2) = i + 2 := w32_id ⟨by omega, by omega⟩
  have e3 : w32 (i + 3) = i + 3 := w32_id ⟨by omega, by omega⟩
  have b1 : 0 ≤ i + 1 ∧ i + 1 < (L : Int) := ⟨by omega, by omega⟩
  have b2 : 0 ≤ i + 2 ∧ i + 2 < (L : Int) := ⟨by omega, by omega⟩
  have b3 : 0 ≤ i + 3 ∧ i + 3 < (L : Int) := ⟨by omega, by omega⟩
  simp only [YK, c183, t183, qtab5, Nat.reduceAdd, Int.reduceToNat, Int.reduceLE, Int.reduceLT, Nat.reduceLeDiff, true_and, and_true, qcat_0, qcat_1, qcat_3, qcat_9, cl78, e1, e2, e3, b1, b2, b3, lyK, kc8_0]
  refine qW_mono _ _ _ _ _ _ _ _ _ ?_ (H8 F _ _ hF (hxs _) (hxs _))
  rintro r M ⟨F1, v, rfl, rfl, h2⟩
  refine ⟨⟨lay_len, lay_sz⟩, ?_⟩
  simp only [YK, c183, t183, qtab5, Nat.reduceAdd, Int.reduceToNat, Int.reduceLE, Int.reduceLT, Nat.reduceLeDiff, true_and, and_true, qcat_0, qcat_1, qcat_3, qcat_9, cl161, e1, e2, e3, b1, b2, b3, lyK, kc8_1, kc8_2, Option.toList_some, List.cons_append, List.nil_append]
  refine qW_mono _ _ _ _ _ _ _ _ _ ?_ h2
  rintro r M ⟨F2, rfl, rfl, hR⟩
  refine ⟨⟨lay_len, lay_sz⟩, ?_⟩
  simp only [YK, c183, t183, qtab5, Nat.reduceAdd, Int.reduceToNat, Int.reduceLE, Int.reduceLT, Nat.reduceLeDiff, true_and, and_true, qcat_0, qcat_1, qcat_3, qcat_9, Option.toList_some, List.cons_append, List.nil_append]
  exact ⟨fun _ => hk F2 hR, fun h => absurd trivial h⟩
theorem law_host {L : Nat} {xs : Nat → Int} {Rel : (Nat → Nat → Int) → Prop} {F : Nat → Nat → Int} {i : Int} (hL : L ≤ 2048) (hxs : ∀ j, I32 (xs j)) (hi0 : 0 ≤ i) (hi1 : i + 4 ≤ (L : Int)) (hF : Rel F) (H9 : ∀ F a0 a1, Rel F → I32 a0 → I32 a1 → qPair (qtab L xs) Rel 0 79 162 [(3, 0), (0, a0), (0, a1)] [(3, 69), (0, a0), (0, a1)] F)
    (hk : ∀ F2, Rel F2 → qW (qtab L xs) 183 (600000, 7302250) 18 [(3, -7), (3, 0), (3, 69), (0, w32 (i + 4))] [] (LAY, F2) lawR) : qW (qtab L xs) 183 (600000, 7302250) 327 [(3, -7), (3, 0), (3, 69), (0, i)] [] (LAY, F) lawR := by
  have e1 : w32 (i + 1) = i + 1 := w32_id ⟨by omega, by omega⟩
  have e2 : w32 (i + 2) = i + 2 := w32_id ⟨by omega, by omega⟩
  have e3 : w32 (i + 3) = i + 3 := w32_id ⟨by omega, by omega⟩
  have b1 : 0 ≤ i + 1 ∧ i + 1 < (L : Int) := ⟨by omega, by omega⟩
  have b2 : 0 ≤ i + 2 ∧ i + 2 < (L : Int) := ⟨by omega, by omega⟩
  have b3 : 0 ≤ i + 3 ∧ i + 3 < (L : Int) := ⟨by omega, by omega⟩
  simp only [YK, c183, t183, qtab5, Nat.reduceAdd, Int.reduceToNat, Int.reduceLE, Int.reduceLT, Nat.reduceLeDiff, true_and, and_true, qcat_0, qcat_1, qcat_3, qcat_9, cl79, e1, e2, e3, b1, b2, b3, lyK, kc8_0]
  refine qW_mono _ _ _ _ _ _ _ _ _ ?_ (H9 F _ _ hF (hxs _) (hxs _))
  rintro r M ⟨F1, v, rfl, rfl, h2⟩
  refine ⟨⟨lay_len, lay_sz⟩, ?_⟩
  simp only [YK, c183, t183, qtab5, Nat.reduceAdd, Int.reduceToNat, Int.reduceLE, Int.reduceLT, Nat.reduceLeDiff, true_and, and_true, qcat_0, qcat_1, qcat_3, qcat_9, cl162, e1, e2, e3, b1, b2, b3, lyK, kc8_1, kc8_2, Option.toList_some, List.cons_append, List.nil_append]
  refine qW_mono _ _ _ _ _ _ _ _ _ ?_ h2
  rintro r M ⟨F2, rfl, rfl, hR⟩
  refine ⟨⟨lay_len, lay_sz⟩, ?_⟩
  simp only [YK, c183, t183, qtab5, Nat.reduceAdd, Int.reduceToNat, Int.reduceLE, Int.reduceLT, Nat.reduceLeDiff, true_and, and_true, qcat_0, qcat_1, qcat_3, qcat_9, Option.toList_some, List.cons_append, List.nil_append]
  exact ⟨fun _ => hk F2 hR, fun h => absurd trivial h⟩
theorem law_total {L : Nat} {xs : Nat → Int} {Rel : (Nat → Nat → Int) → Prop} {F : Nat → Nat → Int} {i : Int} (hL : L ≤ 2048) (hxs : ∀ j, I32 (xs j)) (hi0 : 0 ≤ i) (hi1 : i + 4 ≤ (L : Int)) (hF : Rel F) (H10 : ∀ F a0, Rel F → I32 a0 → qPair (qtab L xs) Rel 0 80 163 [(3, 0), (0, a0)] [(3, 69), (0, a0)] F)
    (hk : ∀ F2, Rel F2 → qW (qtab L xs) 183 (600000, 7302250) 18 [(3, -7), (3, 0), (3, 69), (0, w32 (i + 4))] [] (LAY, F2) lawR) : qW (qtab L xs) 183 (600000, 7302250) 360 [(3, -7), (3, 0), (3, 69), (0, i)] [] (LAY, F) lawR := by
  have e1 : w32 (i + 1) = i + 1 := w32_id ⟨by omega, by omega⟩
  have e2 : w32 (i + 2) = i + 2 := w32_id ⟨by omega, by omega⟩
  have e3 : w32 (i + 3) = i + 3 := w32_id ⟨by omega, by omega⟩
  have b1 : 0 ≤ i + 1 ∧ i + 1 < (L : Int) := ⟨by omega, by omega⟩
  have b2 : 0 ≤ i + 2 ∧ i + 2 < (L : Int) := ⟨by omega, by omega⟩
  have b3 : 0 ≤ i + 3 ∧ i + 3 < (L : Int) := ⟨by omega, by omega⟩
  simp only [YK, c183, t183, qtab5, Nat.reduceAdd, Int.reduceToNat, Int.reduceLE, Int.reduceLT, Nat.reduceLeDiff, true_and, and_true, qcat_0, qcat_1, qcat_3, qcat_9, cl80, e1, e2, e3, b1, b2, b3, lyK, kc8_0]
  refine qW_mono _ _ _ _ _ _ _ _ _ ?_ (H10 F _ hF (hxs _))
  rintro r M ⟨F1, v, rfl, rfl, h2⟩
  refine ⟨⟨lay_len, lay_sz⟩, ?_⟩
  simp only [YK, c183, t183, qtab5, Nat.reduceAdd, Int.reduceToNat, Int.reduceLE, Int.reduceLT, Nat.reduceLeDiff, true_and, and_true, qcat_0, qcat_1, qcat_3, qcat_9, cl163, e1, e2, e3, b1, b2, b3, lyK, kc8_1, kc8_2, Option.toList_some, List.cons_append, List.nil_append]
  refine qW_mono _ _ _ _ _ _ _ _ _ ?_ h2
  rintro r M ⟨F2, rfl, rfl, hR⟩
  refine ⟨⟨lay_len, lay_sz⟩, ?_⟩
  simp only [YK, c183, t183, qtab5, Nat.reduceAdd, Int.reduceToNat, Int.reduceLE, Int.reduceLT, Nat.reduceLeDiff, true_and, and_true, qcat_0, qcat_1, qcat_3, qcat_9, Option.toList_some, List.cons_append, List.nil_append]
  exact ⟨fun _ => hk F2 hR, fun h => absurd trivial h⟩
theorem law_stand {L : Nat} {xs : Nat → Int} {Rel : (Nat → Nat → Int) → Prop} {F : Nat → Nat → Int} {i : Int} (hL : L ≤ 2048) (hxs : ∀ j, I32 (xs j)) (hi0 : 0 ≤ i) (hi1 : i + 4 ≤ (L : Int)) (hF : Rel F) (H11 : ∀ F a0 a1 a2, Rel F → I32 a0 → I32 a1 → I32 a2 → qPair (qtab L xs) Rel 0 81 164 [(3, 0), (0, a0), (0, a1), (0, a2)] [(3, 69), (0, a0), (0, a1), (0, a2)] F)
    (hk : ∀ F2, Rel F2 → qW (qtab L xs) 183 (600000, 7302250) 18 [(3, -7), (3, 0), (3, 69), (0, w32 (i + 4))] [] (LAY, F2) lawR) : qW (qtab L xs) 183 (600000, 7302250) 383 [(3, -7), (3, 0), (3, 69), (0, i)] [] (LAY, F) lawR := by
  have e1 : w32 (i + 1) = i + 1 := w32_id ⟨by omega, by omega⟩
  have e2 : w32 (i + 2) = i + 2 := w32_id ⟨by omega, by omega⟩
  have e3 : w32 (i + 3) = i + 3 := w32_id ⟨by omega, by omega⟩
  have b1 : 0 ≤ i + 1 ∧ i + 1 < (L : Int) := ⟨by omega, by omega⟩
  have b2 : 0 ≤ i + 2 ∧ i + 2 < (L : Int) := ⟨by omega, by omega⟩
  have b3 : 0 ≤ i + 3 ∧ i + 3 < (L : Int) := ⟨by omega, by omega⟩
  simp only [YK, c183, t183, qtab5, Nat.reduceAdd, Int.reduceToNat, Int.reduceLE, Int.reduceLT, Nat.reduceLeDiff, true_and, and_true, qcat_0, qcat_1, qcat_3, qcat_9, cl81, e1, e2, e3, b1, b2, b3, lyK, kc8_0]
  refine qW_mono _ _ _ _ _ _ _ _ _ ?_ (H11 F _ _ _ hF (hxs _) (hxs _) (hxs _))
  rintro r M ⟨F1, v, rfl, rfl, h2⟩
  refine ⟨⟨lay_len, lay_sz⟩, ?_⟩
  simp only [YK, c183, t183, qtab5, Nat.reduceAdd, Int.reduceToNat, Int.reduceLE, Int.reduceLT, Nat.reduceLeDiff, true_and, and_true, qcat_0, qcat_1, qcat_3, qcat_9, cl164, e1, e2, e3, b1, b2, b3, lyK, kc8_1, kc8_2, Option.toList_some, List.cons_append, List.nil_append]
  refine qW_mono _ _ _ _ _ _ _ _ _ ?_ h2
  rintro r M ⟨F2, rfl, rfl, hR⟩
  refine ⟨⟨lay_len, lay_sz⟩, ?_⟩
  simp only [YK, c183, t183, qtab5, Nat.reduceAdd, Int.reduceToNat, Int.reduceLE, Int.reduceLT, Nat.reduceLeDiff, true_and, and_true, qcat_0, qcat_1, qcat_3, qcat_9, Option.toList_some, List.cons_append, List.nil_append]
  exact ⟨fun _ => hk F2 hR, fun h => absurd trivial h⟩
theorem law_best {L : Nat} {xs : Nat → Int} {Rel : (Nat → Nat → Int) → Prop} {F : Nat → Nat → Int} {i : Int} (hL : L ≤ 2048) (hxs : ∀ j, I32 (xs j)) (hi0 : 0 ≤ i) (hi1 : i + 4 ≤ (L : Int)) (hF : Rel F) (H12 : ∀ F a0, Rel F → I32 a0 → qPair (qtab L xs) Rel 0 82 166 [(3, 0), (0, a0), (9, 0), (9, 0), (9, 0), (9, 0), (9, 0), (9, 0), (9, 0), (9, 0)] [(3, 69), (0, a0), (9, 0), (9, 0), (9, 0), (9, 0), (9, 0), (9, 0)] F)
    (hk : ∀ F2, Rel F2 → qW (qtab L xs) 183 (600000, 7302250) 18 [(3, -7), (3, 0), (3, 69), (0, w32 (i + 4))] [] (LAY, F2) lawR) : qW (qtab L xs) 183 (600000, 7302250) 426 [(3, -7), (3, 0), (3, 69), (0, i)] [] (LAY, F) lawR := by
  have e1 : w32 (i + 1) = i + 1 := w32_id ⟨by omega, by omega⟩
  have e2 : w32 (i + 2) = i + 2 := w32_id ⟨by omega, by omega⟩
  have e3 : w32 (i + 3) = i + 3 := w32_id ⟨by omega, by omega⟩
  have b1 : 0 ≤ i + 1 ∧ i + 1 < (L : Int) := ⟨by omega, by omega⟩
  have b2 : 0 ≤ i + 2 ∧ i + 2 < (L : Int) := ⟨by omega, by omega⟩
  have b3 : 0 ≤ i + 3 ∧ i + 3 < (L : Int) := ⟨by omega, by omega⟩
  simp only [YK, c183, t183, qtab5, Nat.reduceAdd, Int.reduceToNat, Int.reduceLE, Int.reduceLT, Nat.reduceLeDiff, true_and, and_true, qcat_0, qcat_1, qcat_3, qcat_9, cl82, e1, e2, e3, b1, b2, b3, lyK, kc8_0]
  refine qW_mono _ _ _ _ _ _ _ _ _ ?_ (H12 F _ hF (hxs _))
  rintro r M ⟨F1, v, rfl, rfl, h2⟩
  refine ⟨⟨lay_len, lay_sz⟩, ?_⟩
  simp only [YK, c183, t183, qtab5, Nat.reduceAdd, Int.reduceToNat, Int.reduceLE, Int.reduceLT, Nat.reduceLeDiff, true_and, and_true, qcat_0, qcat_1, qcat_3, qcat_9, cl166, e1, e2, e3, b1, b2, b3, lyK, kc8_1, kc8_2, Option.toList_some, List.cons_append, List.nil_append]
  refine qW_mono _ _ _ _ _ _ _ _ _ ?_ h2
  rintro r M ⟨F2, rfl, rfl, hR⟩
  refine ⟨⟨lay_len, lay_sz⟩, ?_⟩
  simp only [YK, c183, t183, qtab5, Nat.reduceAdd, Int.reduceToNat, Int.reduceLE, Int.reduceLT, Nat.reduceLeDiff, true_and, and_true, qcat_0, qcat_1, qcat_3, qcat_9, Option.toList_some, List.cons_append, List.nil_append]
  exact ⟨fun _ => hk F2 hR, fun h => absurd trivial h⟩
theorem law_judge {L : Nat} {xs : Nat → Int} {Rel : (Nat → Nat → Int) → Prop} {F : Nat → Nat → Int} {i : Int} (hL : L ≤ 2048) (hxs : ∀ j, I32 (xs j)) (hi0 : 0 ≤ i) (hi1 : i + 4 ≤ (L : Int)) (hF : Rel F) (H13 : ∀ F a0 a1, Rel F → I32 a0 → I64 a1 → qPair (qtab L xs) Rel 0 83 169 [(3, 0), (0, a0), (1, a1), (9, 0), (9, 0), (9, 0)] [(3, 69), (0, a0), (1, a1), (9, 0), (9, 0), (9, 0)] F)
    (hk : ∀ F2, Rel F2 → qW (qtab L xs) 183 (600000, 7302250) 18 [(3, -7), (3, 0), (3, 69), (0, w32 (i + 4))] [] (LAY, F2) lawR) : qW (qtab L xs) 183 (600000, 7302250) 449 [(3, -7), (3, 0), (3, 69), (0, i)] [] (LAY, F) lawR := by
  have e1 : w32 (i + 1) = i + 1 := w32_id ⟨by omega, by omega⟩
  have e2 : w32 (i + 2) = i + 2 := w32_id ⟨by omega, by omega⟩
  have e3 : w32 (i + 3) = i + 3 := w32_id ⟨by omega, by omega⟩
  have b1 : 0 ≤ i + 1 ∧ i + 1 < (L : Int) := ⟨by omega, by omega⟩
  have b2 : 0 ≤ i + 2 ∧ i + 2 < (L : Int) := ⟨by omega, by omega⟩
  have b3 : 0 ≤ i + 3 ∧ i + 3 < (L : Int) := ⟨by omega, by omega⟩
  simp only [YK, c183, t183, qtab5, Nat.reduceAdd, Int.reduceToNat, Int.reduceLE, Int.reduceLT, Nat.reduceLeDiff, true_and, and_true, qcat_0, qcat_1, qcat_3, qcat_9, cl83, e1, e2, e3, b1, b2, b3, lyK, kc8_0]
  refine qW_mono _ _ _ _ _ _ _ _ _ ?_ (H13 F _ _ hF (hxs _) (rng64 _))
  rintro r M ⟨F1, v, rfl, rfl, h2⟩
  refine ⟨⟨lay_len, lay_sz⟩, ?_⟩
  simp only [YK, c183, t183, qtab5, Nat.reduceAdd, Int.reduceToNat, Int.reduceLE, Int.reduceLT, Nat.reduceLeDiff, true_and, and_true, qcat_0, qcat_1, qcat_3, qcat_9, cl169, e1, e2, e3, b1, b2, b3, lyK, kc8_1, kc8_2, Option.toList_some, List.cons_append, List.nil_append]
  refine qW_mono _ _ _ _ _ _ _ _ _ ?_ h2
  rintro r M ⟨F2, rfl, rfl, hR⟩
  refine ⟨⟨lay_len, lay_sz⟩, ?_⟩
  simp only [YK, c183, t183, qtab5, Nat.reduceAdd, Int.reduceToNat, Int.reduceLE, Int.reduceLT, Nat.reduceLeDiff, true_and, and_true, qcat_0, qcat_1, qcat_3, qcat_9, Option.toList_some, List.cons_append, List.nil_append]
  exact ⟨fun _ => hk F2 hR, fun h => absurd trivial h⟩
theorem law_see {L : Nat} {xs : Nat → Int} {Rel : (Nat → Nat → Int) → Prop} {F : Nat → Nat → Int} {i : Int} (hL : L ≤ 2048) (hxs : ∀ j, I32 (xs j)) (hi0 : 0 ≤ i) (hi1 : i + 4 ≤ (L : Int)) (hF : Rel F) (H14 : ∀ F a0 a1, Rel F → I32 a0 → I32 a1 → qPair (qtab L xs) Rel 0 84 170 [(3, 0), (0, a0), (0, a1)] [(3, 69), (0, a0), (0, a1)] F)
    (hk : ∀ F2, Rel F2 → qW (qtab L xs) 183 (600000, 7302250) 18 [(3, -7), (3, 0), (3, 69), (0, w32 (i + 4))] [] (LAY, F2) lawR) : qW (qtab L xs) 183 (600000, 7302250) 512 [(3, -7), (3, 0), (3, 69), (0, i)] [] (LAY, F) lawR := by
  have e1 : w32 (i + 1) = i + 1 := w32_id ⟨by omega, by omega⟩
  have e2 : w32 (i + 2) = i + 2 := w32_id ⟨by omega, by omega⟩
  have e3 : w32 (i + 3) = i + 3 := w32_id ⟨by omega, by omega⟩
  have b1 : 0 ≤ i + 1 ∧ i + 1 < (L : Int) := ⟨by omega, by omega⟩
  have b2 : 0 ≤ i + 2 ∧ i + 2 < (L : Int) := ⟨by omega, by omega⟩
  have b3 : 0 ≤ i + 3 ∧ i + 3 < (L : Int) := ⟨by omega, by omega⟩
  simp only [YK, c183, t183, qtab5, Nat.reduceAdd, Int.reduceToNat, Int.reduceLE, Int.reduceLT, Nat.reduceLeDiff, true_and, and_true, qcat_0, qcat_1, qcat_3, qcat_9, cl84, e1, e2, e3, b1, b2, b3, lyK, kc8_0]
  refine qW_mono _ _ _ _ _ _ _ _ _ ?_ (H14 F _ _ hF (hxs _) (hxs _))
  rintro r M ⟨F1, v, rfl, rfl, h2⟩
  refine ⟨⟨lay_len, lay_sz⟩, ?_⟩
  simp only [YK, c183, t183, qtab5, Nat.reduceAdd, Int.reduceToNat, Int.reduceLE, Int.reduceLT, Nat.reduceLeDiff, true_and, and_true, qcat_0, qcat_1, qcat_3, qcat_9, cl170, e1, e2, e3, b1, b2, b3, lyK, kc8_1, kc8_2, Option.toList_some, List.cons_append, List.nil_append]
  refine qW_mono _ _ _ _ _ _ _ _ _ ?_ h2
  rintro r M ⟨F2, rfl, rfl, hR⟩
  refine ⟨⟨lay_len, lay_sz⟩, ?_⟩
  simp only [YK, c183, t183, qtab5, Nat.reduceAdd, Int.reduceToNat, Int.reduceLE, Int.reduceLT, Nat.reduceLeDiff, true_and, and_true, qcat_0, qcat_1, qcat_3, qcat_9, Option.toList_some, List.cons_append, List.nil_append]
  exact ⟨fun _ => hk F2 hR, fun h => absurd trivial h⟩
theorem law_unsee {L : Nat} {xs : Nat → Int} {Rel : (Nat → Nat → Int) → Prop} {F : Nat → Nat → Int} {i : Int} (hL : L ≤ 2048) (hxs : ∀ j, I32 (xs j)) (hi0 : 0 ≤ i) (hi1 : i + 4 ≤ (L : Int)) (hF : Rel F) (H15 : ∀ F, Rel F → qPair (qtab L xs) Rel 0 85 171 [(3, 0), (9, 0)] [(3, 69), (9, 0)] F)
    (hk : ∀ F2, Rel F2 → qW (qtab L xs) 183 (600000, 7302250) 18 [(3, -7), (3, 0), (3, 69), (0, w32 (i + 4))] [] (LAY, F2) lawR) : qW (qtab L xs) 183 (600000, 7302250) 545 [(3, -7), (3, 0), (3, 69), (0, i)] [] (LAY, F) lawR := by
  have e1 : w32 (i + 1) = i + 1 := w32_id ⟨by omega, by omega⟩
  have e2 : w32 (i + 2) = i + 2 := w32_id ⟨by omega, by omega⟩
  have e3 : w32 (i + 3) = i + 3 := w32_id ⟨by omega, by omega⟩
  have b1 : 0 ≤ i + 1 ∧ i + 1 < (L : Int) := ⟨by omega, by omega⟩
  have b2 : 0 ≤ i + 2 ∧ i + 2 < (L : Int) := ⟨by omega, by omega⟩
  have b3 : 0 ≤ i + 3 ∧ i + 3 < (L : Int) := ⟨by omega, by omega⟩
  simp only [YK, c183, t183, qtab5, Nat.reduceAdd, Int.reduceToNat, Int.reduceLE, Int.reduceLT, Nat.reduceLeDiff, true_and, and_true, qcat_0, qcat_1, qcat_3, qcat_9, cl85, e1, e2, e3, b1, b2, b3, lyK, kc8_0]
  refine qW_mono _ _ _ _ _ _ _ _ _ ?_ (H15 F hF)
  rintro r M ⟨F1, v, rfl, rfl, h2⟩
  refine ⟨⟨lay_len, lay_sz⟩, ?_⟩
  simp only [YK, c183, t183, qtab5, Nat.reduceAdd, Int.reduceToNat, Int.reduceLE, Int.reduceLT, Nat.reduceLeDiff, true_and, and_true, qcat_0, qcat_1, qcat_3, qcat_9, cl171, e1, e2, e3, b1, b2, b3, lyK, kc8_1, kc8_2, Option.toList_some, List.cons_append, List.nil_append]
  refine qW_mono _ _ _ _ _ _ _ _ _ ?_ h2
  rintro r M ⟨F2, rfl, rfl, hR⟩
  refine ⟨⟨lay_len, lay_sz⟩, ?_⟩
  simp only [YK, c183, t183, qtab5, Nat.reduceAdd, Int.reduceToNat, Int.reduceLE, Int.reduceLT, Nat.reduceLeDiff, true_and, and_true, qcat_0, qcat_1, qcat_3, qcat_9, Option.toList_some, List.cons_append, List.nil_append]
  exact ⟨fun _ => hk F2 hR, fun h => absurd trivial h⟩
theorem law_which {L : Nat} {xs : Nat → Int} {Rel : (Nat → Nat → Int) → Prop} {F : Nat → Nat → Int} {i : Int} (hL : L ≤ 2048) (hxs : ∀ j, I32 (xs j)) (hi0 : 0 ≤ i) (hi1 : i + 4 ≤ (L : Int)) (hF : Rel F) (H16 : ∀ F, Rel F → qPair (qtab L xs) Rel 0 86 172 [(3, 0), (9, 0), (9, 0)] [(3, 69), (9, 0), (9, 0), (9, 0), (9, 0), (9, 0)] F)
    (hk : ∀ F2, Rel F2 → qW (qtab L xs) 183 (600000, 7302250) 18 [(3, -7), (3, 0), (3, 69), (0, w32 (i + 4))] [] (LAY, F2) lawR) : qW (qtab L xs) 183 (600000, 7302250) 558 [(3, -7), (3, 0), (3, 69), (0, i)] [] (LAY, F) lawR := by
  have e1 : w32 (i + 1) = i + 1 := w32_id ⟨by omega, by omega⟩
  have e2 : w32 (i + 2) = i + 2 := w32_id ⟨by omega, by omega⟩
  have e3 : w32 (i + 3) = i + 3 := w32_id ⟨by omega, by omega⟩
  have b1 : 0 ≤ i + 1 ∧ i + 1 < (L : Int) := ⟨by omega, by omega⟩
  have b2 : 0 ≤ i + 2 ∧ i + 2 < (L : Int) := ⟨by omega, by omega⟩
  have b3 : 0 ≤ i + 3 ∧ i + 3 < (L : Int) := ⟨by omega, by omega⟩
  simp only [YK, c183, t183, qtab5, Nat.reduceAdd, Int.reduceToNat, Int.reduceLE, Int.reduceLT, Nat.reduceLeDiff, true_and, and_true, qcat_0, qcat_1, qcat_3, qcat_9, cl86, e1, e2, e3, b1, b2, b3, lyK, kc8_0]
  refine qW_mono _ _ _ _ _ _ _ _ _ ?_ (H16 F hF)
  rintro r M ⟨F1, v, rfl, rfl, h2⟩
  refine ⟨⟨lay_len, lay_sz⟩, ?_⟩
  simp only [YK, c183, t183, qtab5, Nat.reduceAdd, Int.reduceToNat, Int.reduceLE, Int.reduceLT, Nat.reduceLeDiff, true_and, and_true, qcat_0, qcat_1, qcat_3, qcat_9, cl172, e1, e2, e3, b1, b2, b3, lyK, kc8_1, kc8_2, Option.toList_some, List.cons_append, List.nil_append]
  refine qW_mono _ _ _ _ _ _ _ _ _ ?_ h2
  rintro r M ⟨F2, rfl, rfl, hR⟩
  refine ⟨⟨lay_len, lay_sz⟩, ?_⟩
  simp only [YK, c183, t183, qtab5, Nat.reduceAdd, Int.reduceToNat, Int.reduceLE, Int.reduceLT, Nat.reduceLeDiff, true_and, and_true, qcat_0, qcat_1, qcat_3, qcat_9, Option.toList_some, List.cons_append, List.nil_append]
  exact ⟨fun _ => hk F2 hR, fun h => absurd trivial h⟩
theorem law_share {L : Nat} {xs : Nat → Int} {Rel : (Nat → Nat → Int) → Prop} {F : Nat → Nat → Int} {i : Int} (hL : L ≤ 2048) (hxs : ∀ j, I32 (xs j)) (hi0 : 0 ≤ i) (hi1 : i + 4 ≤ (L : Int)) (hF : Rel F) (H17 : ∀ F a0 a1, Rel F → I32 a0 → (a1 = 0 ∨ a1 = 1) → qPair (qtab L xs) Rel 0 87 173 [(3, 0), (0, a0), (0, a1), (9, 0), (9, 0), (9, 0), (9, 0), (9, 0)] [(3, 69), (0, a0), (0, a1), (9, 0), (9, 0), (9, 0), (9, 0), (9, 0)] F)
    (hk : ∀ F2, Rel F2 → qW (qtab L xs) 183 (600000, 7302250) 18 [(3, -7), (3, 0), (3, 69), (0, w32 (i + 4))] [] (LAY, F2) lawR) : qW (qtab L xs) 183 (600000, 7302250) 571 [(3, -7), (3, 0), (3, 69), (0, i)] [] (LAY, F) lawR := by
  have e1 : w32 (i + 1) = i + 1 := w32_id ⟨by omega, by omega⟩
  have e2 : w32 (i + 2) = i + 2 := w32_id ⟨by omega, by omega⟩
  have e3 : w32 (i + 3) = i + 3 := w32_id ⟨by omega, by omega⟩
  have b1 : 0 ≤ i + 1 ∧ i + 1 < (L : Int) := ⟨by omega, by omega⟩
  have b2 : 0 ≤ i + 2 ∧ i + 2 < (L : Int) := ⟨by omega, by omega⟩
  have b3 : 0 ≤ i + 3 ∧ i + 3 < (L : Int) := ⟨by omega, by omega⟩
  simp only [YK, c183, t183, qtab5, Nat.reduceAdd, Int.reduceToNat, Int.reduceLE, Int.reduceLT, Nat.reduceLeDiff, true_and, and_true, qcat_0, qcat_1, qcat_3, qcat_9, cl87, e1, e2, e3, b1, b2, b3, lyK, kc8_0]
  refine ⟨fun q => ?_, fun q => ?_⟩
  · refine qW_mono _ _ _ _ _ _ _ _ _ ?_ (H17 F _ 0 hF (hxs _) (Or.inl rfl))
    rintro r M ⟨F1, v, rfl, rfl, h2⟩
    refine ⟨⟨lay_len, lay_sz⟩, ?_⟩
    simp only [YK, c183, t183, qtab5, Nat.reduceAdd, Int.reduceToNat, Int.reduceLE, Int.reduceLT, Nat.reduceLeDiff, true_and, and_true, qcat_0, qcat_1, qcat_3, qcat_9, cl173, e1, e2, e3, b1, b2, b3, lyK, kc8_1, kc8_2, Option.toList_some, List.cons_append, List.nil_append]
    refine ⟨fun _ => ?_, fun q2 => absurd q q2⟩
    refine qW_mono _ _ _ _ _ _ _ _ _ ?_ h2
    rintro r M ⟨F2, rfl, rfl, hR⟩
    refine ⟨⟨lay_len, lay_sz⟩, ?_⟩
    simp only [YK, c183, t183, qtab5, Nat.reduceAdd, Int.reduceToNat, Int.reduceLE, Int.reduceLT, Nat.reduceLeDiff, true_and, and_true, qcat_0, qcat_1, qcat_3, qcat_9, Option.toList_some, List.cons_append, List.nil_append]
    exact ⟨fun _ => hk F2 hR, fun h => absurd trivial h⟩
  · refine qW_mono _ _ _ _ _ _ _ _ _ ?_ (H17 F _ 1 hF (hxs _) (Or.inr rfl))
    rintro r M ⟨F1, v, rfl, rfl, h2⟩
    refine ⟨⟨lay_len, lay_sz⟩, ?_⟩
    simp only [YK, c183, t183, qtab5, Nat.reduceAdd, Int.reduceToNat, Int.reduceLE, Int.reduceLT, Nat.reduceLeDiff, true_and, and_true, qcat_0, qcat_1, qcat_3, qcat_9, cl173, e1, e2, e3, b1, b2, b3, lyK, kc8_1, kc8_2, Option.toList_some, List.cons_append, List.nil_append]
    refine ⟨fun q2 => absurd q2 q, fun _ => ?_⟩
    refine qW_mono _ _ _ _ _ _ _ _ _ ?_ h2
    rintro r M ⟨F2, rfl, rfl, hR⟩
    refine ⟨⟨lay_len, lay_sz⟩, ?_⟩
    simp only [YK, c183, t183, qtab5, Nat.reduceAdd, Int.reduceToNat, Int.reduceLE, Int.reduceLT, Nat.reduceLeDiff, true_and, and_true, qcat_0, qcat_1, qcat_3, qcat_9, Option.toList_some, List.cons_append, List.nil_append]
    exact ⟨fun _ => hk F2 hR, fun h => absurd trivial h⟩
theorem law_calm {L : Nat} {xs : Nat → Int} {Rel : (Nat → Nat → Int) → Prop} {F : Nat → Nat → Int} {i : Int} (hL : L ≤ 2048) (hxs : ∀ j, I32 (xs j)) (hi0 : 0 ≤ i) (hi1 : i + 4 ≤ (L : Int)) (hF : Rel F) (H18 : ∀ F a0 a1, Rel F → I32 a0 → (a1 = 0 ∨ a1 = 1) → qPair (qtab L xs) Rel 0 88 174 [(3, 0), (0, a0), (0, a1), (9, 0), (9, 0), (9, 0), (9, 0), (9, 0)] [(3, 69), (0, a0), (0, a1), (9, 0), (9, 0)] F)
    (hk : ∀ F2, Rel F2 → qW (qtab L xs) 183 (600000, 7302250) 18 [(3, -7), (3, 0), (3, 69), (0, w32 (i + 4))] [] (LAY, F2) lawR) : qW (qtab L xs) 183 (600000, 7302250) 620 [(3, -7), (3, 0), (3, 69), (0, i)] [] (LAY, F) lawR := by
  have e1 : w32 (i + 1) = i + 1 := w32_id ⟨by omega, by omega⟩
  have e2 : w32 (i + 2) = i + 2 := w32_id ⟨by omega, by omega⟩
  have e3 : w32 (i + 3) = i + 3 := w32_id ⟨by omega, by omega⟩
  have b1 : 0 ≤ i + 1 ∧ i + 1 < (L : Int) := ⟨by omega, by omega⟩
  have b2 : 0 ≤ i + 2 ∧ i + 2 < (L : Int) := ⟨by omega, by omega⟩
  have b3 : 0 ≤ i + 3 ∧ i + 3 < (L : Int) := ⟨by omega, by omega⟩
  simp only [YK, c183, t183, qtab5, Nat.reduceAdd, Int.reduceToNat, Int.reduceLE, Int.reduceLT, Nat.reduceLeDiff, true_and, and_true, qcat_0, qcat_1, qcat_3, qcat_9, cl88, e1, e2, e3, b1, b2, b3, lyK, kc8_0]
  refine ⟨fun q => ?_, fun q => ?_⟩
  · refine qW_mono _ _ _ _ _ _ _ _ _ ?_ (H18 F _ 0 hF (hxs _) (Or.inl rfl))
    rintro r M ⟨F1, v, rfl, rfl, h2⟩
    refine ⟨⟨lay_len, lay_sz⟩, ?_⟩
    simp only [YK, c183, t183, qtab5, Nat.reduceAdd, Int.reduceToNat, Int.reduceLE, Int.reduceLT, Nat.reduceLeDiff, true_and, and_true, qcat_0, qcat_1, qcat_3, qcat_9, cl174, e1, e2, e3, b1, b2, b3, lyK, kc8_1, kc8_2, Option.toList_some, List.cons_append, List.nil_append]
    refine ⟨fun _ => ?_, fun q2 => absurd q q2⟩
    refine qW_mono _ _ _ _ _ _ _ _ _ ?_ h2
    rintro r M ⟨F2, rfl, rfl, hR⟩
    refine ⟨⟨lay_len, lay_sz⟩, ?_⟩
    simp only [YK, c183, t183, qtab5, Nat.reduceAdd, Int.reduceToNat, Int.reduceLE, Int.reduceLT, Nat.reduceLeDiff, true_and, and_true, qcat_0, qcat_1, qcat_3, qcat_9, Option.toList_some, List.cons_append, List.nil_append]
    exact ⟨fun _ => hk F2 hR, fun h => absurd trivial h⟩
  · refine qW_mono _ _ _ _ _ _ _ _ _ ?_ (H18 F _ 1 hF (hxs _) (Or.inr rfl))
    rintro r M ⟨F1, v, rfl, rfl, h2⟩
    refine ⟨⟨lay_len, lay_sz⟩, ?_⟩
    simp only [YK, c183, t183, qtab5, Nat.reduceAdd, Int.reduceToNat, Int.reduceLE, Int.reduceLT, Nat.reduceLeDiff, true_and, and_true, qcat_0, qcat_1, qcat_3, qcat_9, cl174, e1, e2, e3, b1, b2, b3, lyK, kc8_1, kc8_2, Option.toList_some, List.cons_append, List.nil_append]
    refine ⟨fun q2 => absurd q2 q, fun _ => ?_⟩
    refine qW_mono _ _ _ _ _ _ _ _ _ ?_ h2
    rintro r M ⟨F2, rfl, rfl, hR⟩
    refine ⟨⟨lay_len, lay_sz⟩, ?_⟩
    simp only [YK, c183, t183, qtab5, Nat.reduceAdd, Int.reduceToNat, Int.reduceLE, Int.reduceLT, Nat.reduceLeDiff, true_and, and_true, qcat_0, qcat_1, qcat_3, qcat_9, Option.toList_some, List.cons_append, List.nil_append]
    exact ⟨fun _ => hk F2 hR, fun h => absurd trivial h⟩
theorem law_seed {L : Nat} {xs : Nat → Int} {Rel : (Nat → Nat → Int) → Prop} {F : Nat → Nat → Int} {i : Int} (hL : L ≤ 2048) (hxs : ∀ j, I32 (xs j)) (hi0 : 0 ≤ i) (hi1 : i + 4 ≤ (L : Int)) (hF : Rel F) (H19 : ∀ F a0, Rel F → I64 a0 → qPair (qtab L xs) Rel 1 89 175 [(3, 0), (1, a0), (9, 0), (9, 0), (9, 0)] [(3, 69), (1, a0), (9, 0), (9, 0), (9, 0)] F)
    (hk : ∀ F2, Rel F2 → qW (qtab L xs) 183 (600000, 7302250) 18 [(3, -7), (3, 0), (3, 69), (0, w32 (i + 4))] [] (LAY, F2) lawR) : qW (qtab L xs) 183 (600000, 7302250) 669 [(3, -7), (3, 0), (3, 69), (0, i)] [] (LAY, F) lawR := by
  have e1 : w32 (i + 1) = i + 1 := w32_id ⟨by omega, by omega⟩
  have e2 : w32 (i + 2) = i + 2 := w32_id ⟨by omega, by omega⟩
  have e3 : w32 (i + 3) = i + 3 := w32_id ⟨by omega, by omega⟩
  have b1 : 0 ≤ i + 1 ∧ i + 1 < (L : Int) := ⟨by omega, by omega⟩
  have b2 : 0 ≤ i + 2 ∧ i + 2 < (L : Int) := ⟨by omega, by omega⟩
  have b3 : 0 ≤ i + 3 ∧ i + 3 < (L : Int) := ⟨by omega, by omega⟩
  simp only [YK, c183, t183, qtab5, Nat.reduceAdd, Int.reduceToNat, Int.reduceLE, Int.reduceLT, Nat.reduceLeDiff, true_and, and_true, qcat_0, qcat_1, qcat_3, qcat_9, cl89, e1, e2, e3, b1, b2, b3, lyK, kc8_0]
  refine qW_mono _ _ _ _ _ _ _ _ _ ?_ (H19 F _ hF (rng64 _))
  rintro r M ⟨F1, v, rfl, rfl, h2⟩
  refine ⟨⟨lay_len, lay_sz⟩, ?_⟩
  simp only [YK, c183, t183, qtab5, Nat.reduceAdd, Int.reduceToNat, Int.reduceLE, Int.reduceLT, Nat.reduceLeDiff, true_and, and_true, qcat_0, qcat_1, qcat_3, qcat_9, cl175, e1, e2, e3, b1, b2, b3, lyK, kc8_1, kc8_2, Option.toList_some, List.cons_append, List.nil_append]
  refine qW_mono _ _ _ _ _ _ _ _ _ ?_ h2
  rintro r M ⟨F2, rfl, rfl, hR⟩
  refine ⟨⟨lay_len, lay_sz⟩, ?_⟩
  simp only [YK, c183, t183, qtab5, Nat.reduceAdd, Int.reduceToNat, Int.reduceLE, Int.reduceLT, Nat.reduceLeDiff, true_and, and_true, qcat_0, qcat_1, qcat_3, qcat_9, Option.toList_some, List.cons_append, List.nil_append]
  simp only [Int.lt_irrefl, if_false, if_true]
  exact ⟨fun _ => hk F2 hR, fun h => absurd trivial h⟩
theorem law_drawn {L : Nat} {xs : Nat → Int} {Rel : (Nat → Nat → Int) → Prop} {F : Nat → Nat → Int} {i : Int} (hL : L ≤ 2048) (hxs : ∀ j, I32 (xs j)) (hi0 : 0 ≤ i) (hi1 : i + 4 ≤ (L : Int)) (hF : Rel F) (H20 : ∀ F a0, Rel F → I32 a0 → qPair (qtab L xs) Rel 0 90 176 [(3, 0), (0, a0), (9, 0), (9, 0), (9, 0)] [(3, 69), (0, a0), (9, 0), (9, 0), (9, 0)] F)
    (hk : ∀ F2, Rel F2 → qW (qtab L xs) 183 (600000, 7302250) 18 [(3, -7), (3, 0), (3, 69), (0, w32 (i + 4))] [] (LAY, F2) lawR) : qW (qtab L xs) 183 (600000, 7302250) 723 [(3, -7), (3, 0), (3, 69), (0, i)] [] (LAY, F) lawR := by
  have e1 : w32 (i + 1) = i + 1 := w32_id ⟨by omega, by omega⟩
  have e2 : w32 (i + 2) = i + 2 := w32_id ⟨by omega, by omega⟩
  have e3 : w32 (i + 3) = i + 3 := w32_id ⟨by omega, by omega⟩
  have b1 : 0 ≤ i + 1 ∧ i + 1 < (L : Int) := ⟨by omega, by omega⟩
  have b2 : 0 ≤ i + 2 ∧ i + 2 < (L : Int) := ⟨by omega, by omega⟩
  have b3 : 0 ≤ i + 3 ∧ i + 3 < (L : Int) := ⟨by omega, by omega⟩
  simp only [YK, c183, t183, qtab5, Nat.reduceAdd, Int.reduceToNat, Int.reduceLE, Int.reduceLT, Nat.reduceLeDiff, true_and, and_true, qcat_0, qcat_1, qcat_3, qcat_9, cl90, e1, e2, e3, b1, b2, b3, lyK, kc8_0]
  refine qW_mono _ _ _ _ _ _ _ _ _ ?_ (H20 F _ hF (hxs _))
  rintro r M ⟨F1, v, rfl, rfl, h2⟩
  refine ⟨⟨lay_len, lay_sz⟩, ?_⟩
  simp only [YK, c183, t183, qtab5, Nat.reduceAdd, Int.reduceToNat, Int.reduceLE, Int.reduceLT, Nat.reduceLeDiff, true_and, and_true, qcat_0, qcat_1, qcat_3, qcat_9, cl176, e1, e2, e3, b1, b2, b3, lyK, kc8_1, kc8_2, Option.toList_some, List.cons_append, List.nil_append]
  refine qW_mono _ _ _ _ _ _ _ _ _ ?_ h2
  rintro r M ⟨F2, rfl, rfl, hR⟩
  refine ⟨⟨lay_len, lay_sz⟩, ?_⟩
  simp only [YK, c183, t183, qtab5, Nat.reduceAdd, Int.reduceToNat, Int.reduceLE, Int.reduceLT, Nat.reduceLeDiff, true_and, and_true, qcat_0, qcat_1, qcat_3, qcat_9, Option.toList_some, List.cons_append, List.nil_append]
  exact ⟨fun _ => hk F2 hR, fun h => absurd trivial h⟩
theorem law_keep {L : Nat} {xs : Nat → Int} {Rel : (Nat → Nat → Int) → Prop} {F : Nat → Nat → Int} {i : Int} (hL : L ≤ 2048) (hxs : ∀ j, I32 (xs j)) (hi0 : 0 ≤ i) (hi1 : i + 4 ≤ (L : Int)) (hF : Rel F) (H21 : ∀ F a0, Rel F → I32 a0 → qPair (qtab L xs) Rel 0 91 177 [(3, 0), (0, a0)] [(3, 69), (0, a0), (9, 0)] F)
    (hk : ∀ F2, Rel F2 → qW (qtab L xs) 183 (600000, 7302250) 18 [(3, -7), (3, 0), (3, 69), (0, w32 (i + 4))] [] (LAY, F2) lawR) : qW (qtab L xs) 183 (600000, 7302250) 746 [(3, -7), (3, 0), (3, 69), (0, i)] [] (LAY, F) lawR := by
  have e1 : w32 (i + 1) = i + 1 := w32_id ⟨by omega, by omega⟩
  have e2 : w32 (i + 2) = i + 2 := w32_id ⟨by omega, by omega⟩
  have e3 : w32 (i + 3) = i + 3 := w32_id ⟨by omega, by omega⟩
  have b1 : 0 ≤ i + 1 ∧ i + 1 < (L : Int) := ⟨by omega, by omega⟩
  have b2 : 0 ≤ i + 2 ∧ i + 2 < (L : Int) := ⟨by omega, by omega⟩
  have b3 : 0 ≤ i + 3 ∧ i + 3 < (L : Int) := ⟨by omega, by omega⟩
  simp only [YK, c183, t183, qtab5, Nat.reduceAdd, Int.reduceToNat, Int.reduceLE, Int.reduceLT, Nat.reduceLeDiff, true_and, and_true, qcat_0, qcat_1, qcat_3, qcat_9, cl91, e1, e2, e3, b1, b2, b3, lyK, kc8_0]
  refine qW_mono _ _ _ _ _ _ _ _ _ ?_ (H21 F _ hF (hxs _))
  rintro r M ⟨F1, v, rfl, rfl, h2⟩
  refine ⟨⟨lay_len, lay_sz⟩, ?_⟩
  simp only [YK, c183, t183, qtab5, Nat.reduceAdd, Int.reduceToNat, Int.reduceLE, Int.reduceLT, Nat.reduceLeDiff, true_and, and_true, qcat_0, qcat_1, qcat_3, qcat_9, cl177, e1, e2, e3, b1, b2, b3, lyK, kc8_1, kc8_2, Option.toList_some, List.cons_append, List.nil_append]
  refine qW_mono _ _ _ _ _ _ _ _ _ ?_ h2
  rintro r M ⟨F2, rfl, rfl, hR⟩
  refine ⟨⟨lay_len, lay_sz⟩, ?_⟩
  simp only [YK, c183, t183, qtab5, Nat.reduceAdd, Int.reduceToNat, Int.reduceLE, Int.reduceLT, Nat.reduceLeDiff, true_and, and_true, qcat_0, qcat_1, qcat_3, qcat_9, Option.toList_some, List.cons_append, List.nil_append]
  exact ⟨fun _ => hk F2 hR, fun h => absurd trivial h⟩
theorem law_again {L : Nat} {xs : Nat → Int} {Rel : (Nat → Nat → Int) → Prop} {F : Nat → Nat → Int} {i : Int} (hL : L ≤ 2048) (hxs : ∀ j, I32 (xs j)) (hi0 : 0 ≤ i) (hi1 : i + 4 ≤ (L : Int)) (hF : Rel F) (H22 : ∀ F a0, Rel F → I32 a0 → qPair (qtab L xs) Rel 0 92 178 [(3, 0), (0, a0)] [(3, 69), (0, a0), (9, 0)] F)
    (hk : ∀ F2, Rel F2 → qW (qtab L xs) 183 (600000, 7302250) 18 [(3, -7), (3, 0), (3, 69), (0, w32 (i + 4))] [] (LAY, F2) lawR) : qW (qtab L xs) 183 (600000, 7302250) 769 [(3, -7), (3, 0), (3, 69), (0, i)] [] (LAY, F) lawR := by
  have e1 : w32 (i + 1) = i + 1 := w32_id ⟨by omega, by omega⟩
  have e2 : w32 (i + 2) = i + 2 := w32_id ⟨by omega, by omega⟩
  have e3 : w32 (i + 3) = i + 3 := w32_id ⟨by omega, by omega⟩
  have b1 : 0 ≤ i + 1 ∧ i + 1 < (L : Int) := ⟨by omega, by omega⟩
  have b2 : 0 ≤ i + 2 ∧ i + 2 < (L : Int) := ⟨by omega, by omega⟩
  have b3 : 0 ≤ i + 3 ∧ i + 3 < (L : Int) := ⟨by omega, by omega⟩
  simp only [YK, c183, t183, qtab5, Nat.reduceAdd, Int.reduceToNat, Int.reduceLE, Int.reduceLT, Nat.reduceLeDiff, true_and, and_true, qcat_0, qcat_1, qcat_3, qcat_9, cl92, e1, e2, e3, b1, b2, b3, lyK, kc8_0]
  refine qW_mono _ _ _ _ _ _ _ _ _ ?_ (H22 F _ hF (hxs _))
  rintro r M ⟨F1, v, rfl, rfl, h2⟩
  refine ⟨⟨lay_len, lay_sz⟩, ?_⟩
  simp only [YK, c183, t183, qtab5, Nat.reduceAdd, Int.reduceToNat, Int.reduceLE, Int.reduceLT, Nat.reduceLeDiff, true_and, and_true, qcat_0, qcat_1, qcat_3, qcat_9, cl178, e1, e2, e3, b1, b2, b3, lyK, kc8_1, kc8_2, Option.toList_some, List.cons_append, List.nil_append]
  refine qW_mono _ _ _ _ _ _ _ _ _ ?_ h2
  rintro r M ⟨F2, rfl, rfl, hR⟩
  refine ⟨⟨lay_len, lay_sz⟩, ?_⟩
  simp only [YK, c183, t183, qtab5, Nat.reduceAdd, Int.reduceToNat, Int.reduceLE, Int.reduceLT, Nat.reduceLeDiff, true_and, and_true, qcat_0, qcat_1, qcat_3, qcat_9, Option.toList_some, List.cons_append, List.nil_append]
  exact ⟨fun _ => hk F2 hR, fun h => absurd trivial h⟩
set_option maxHeartbeats 4000000 in
theorem law_loop {L : Nat} {xs : Nat → Int} {Rel : (Nat → Nat → Int) → Prop} (hL : L ≤ 2048) (hxs : ∀ j, I32 (xs j))
    (H0 : ∀ F a0, Rel F → I32 a0 → qPair (qtab L xs) Rel 0 70 117 [(3, 0), (0, a0)] [(3, 69), (0, a0)] F) (H1 : ∀ F, Rel F → qPair (qtab L xs) Rel 0 71 118 [(3, 0), (9, 0)] [(3, 69), (9, 0)] F) (H2 : ∀ F, Rel F → qPair (qtab L xs) Rel 0 72 124 [(3, 0)] [(3, 69)] F) (H3 : ∀ F, Rel F → qPair (qtab L xs) Rel 0 73 125 [(3, 0), (9, 0)] [(3, 69), (9, 0)] F) (H4 : ∀ F a0, Rel F → I32 a0 → qPair (qtab L xs) Rel 0 74 153 [(3, 0), (0, a0)] [(3, 69), (0, a0)] F) (H5 : ∀ F a0 a1, Rel F → I32 a0 → I32 a1 → qPair (qtab L xs) Rel 0 75 156 [(3, 0), (0, a0), (0, a1), (9, 0)] [(3, 69), (0, a0), (0, a1), (9, 0)] F) (H6 : ∀ F a0, Rel F → I32 a0 → qPair (qtab L xs) Rel 0 76 159 [(3, 0), (0, a0), (9, 0)] [(3, 69), (0, a0)] F) (H7 : ∀ F, Rel F → qPair (qtab L xs) Rel 0 77 160 [(3, 0)] [(3, 69), (9, 0)] F) (H8 : ∀ F a0 a1, Rel F → I32 a0 → I32 a1 → qPair (qtab L xs) Rel 0 78 161 [(3, 0), (0, a0), (0, a1)] [(3, 69), (0, a0), (0, a1)] F) (H9 : ∀ F a0 a1, Rel F → I32 a0 → I32 a1 → qPair (qtab L xs) Rel 0 79 162 [(3, 0), (0, a0), (0, a1)] [(3, 69), (0, a0), (0, a1)] F) (H10 : ∀ F a0, Rel F → I32 a0 → qPair (qtab L xs) Rel 0 80 163 [(3, 0), (0, a0)] [(3, 69), (0, a0)] F) (H11 : ∀ F a0 a1 a2, Rel F → I32 a0 → I32 a1 → I32 a2 → qPair (qtab L xs) Rel 0 81 164 [(3, 0), (0, a0), (0, a1), (0, a2)] [(3, 69), (0, a0), (0, a1), (0, a2)] F) (H12 : ∀ F a0, Rel F → I32 a0 → qPair (qtab L xs) Rel 0 82 166 [(3, 0), (0, a0), (9, 0), (9, 0), (9, 0), (9, 0), (9, 0), (9, 0), (9, 0), (9, 0)] [(3, 69), (0, a0), (9, 0), (9, 0), (9, 0), (9, 0), (9, 0), (9, 0)] F) (H13 : ∀ F a0 a1, Rel F → I32 a0 → I64 a1 → qPair (qtab L xs) Rel 0 83 169 [(3, 0), (0, a0), (1, a1), (9, 0), (9, 0), (9, 0)] [(3, 69), (0, a0), (1, a1), (9, 0), (9, 0), (9, 0)] F) (H14 : ∀ F a0 a1, Rel F → I32 a0 → I32 a1 → qPair (qtab L xs) Rel 0 84 170 [(3, 0), (0, a0), (0, a1)] [(3, 69), (0, a0), (0, a1)] F) (H15 : ∀ F, Rel F → qPair (qtab L xs) Rel 0 85 171 [(3, 0), (9, 0)] [(3, 69), (9, 0)] F) (H16 : ∀ F, Rel F → qPair (qtab L xs) Rel 0 86 172 [(3, 0), (9, 0), (9, 0)] [(3, 69), (9, 0), (9, 0), (9, 0), (9, 0), (9, 0)] F) (H17 : ∀ F a0 a1, Rel F → I32 a0 → (a1 = 0 ∨ a1 = 1) → qPair (qtab L xs) Rel 0 87 173 [(3, 0), (0, a0), (0, a1), (9, 0), (9, 0), (9, 0), (9, 0), (9, 0)] [(3, 69), (0, a0), (0, a1), (9, 0), (9, 0), (9, 0), (9, 0), (9, 0)] F) (H18 : ∀ F a0 a1, Rel F → I32 a0 → (a1 = 0 ∨ a1 = 1) → qPair (qtab L xs) Rel 0 88 174 [(3, 0), (0, a0), (0, a1), (9, 0), (9, 0), (9, 0), (9, 0), (9, 0)] [(3, 69), (0, a0), (0, a1), (9, 0), (9, 0)] F) (H19 : ∀ F a0, Rel F → I64 a0 → qPair (qtab L xs) Rel 1 89 175 [(3, 0), (1, a0), (9, 0), (9, 0), (9, 0)] [(3, 69), (1, a0), (9, 0), (9, 0), (9, 0)] F) (H20 : ∀ F a0, Rel F → I32 a0 → qPair (qtab L xs) Rel 0 90 176 [(3, 0), (0, a0), (9, 0), (9, 0), (9, 0)] [(3, 69), (0, a0), (9, 0), (9, 0), (9, 0)] F) (H21 : ∀ F a0, Rel F → I32 a0 → qPair (qtab L xs) Rel 0 91 177 [(3, 0), (0, a0)] [(3, 69), (0, a0), (9, 0)] F) (H22 : ∀ F a0, Rel F → I32 a0 → qPair (qtab L xs) Rel 0 92 178 [(3, 0), (0, a0)] [(3, 69), (0, a0), (9, 0)] F) : ∀ (n : Nat) (i : Int) (F : Nat → Nat → Int), 0 ≤ i → i ≤ (L : Int) → (L : Int) - i < (n : Int) → Rel F → qW (qtab L xs) 183 (600000, 7302250) 18 [(3, -7), (3, 0), (3, 69), (0, i)] [] (LAY, F) lawR := by
  intro n
  induction n with
  | zero => intro i F h0 h1 h2 hF; exact absurd h2 (by omega)
  | succ n ih =>
    intro i F hi0 hi1 hn hF
    have e4 : w32 ((L : Int) - 4) = (L : Int) - 4 := w32_id ⟨by omega, by omega⟩
    rw [h183_18]
    simp only [YK, c183, t183, qtab5, Nat.reduceAdd, Int.reduceToNat, Int.reduceLE, Int.reduceLT, Nat.reduceLeDiff, true_and, and_true, qcat_0, qcat_1, qcat_3, qcat_9, lyK, e4]
    refine ⟨fun _ => ?_, fun hc => ?_⟩
    · exact ⟨Or.inr trivial, rfl, by show LAY.length ≤ _; rw [lay_len]; decide, by show qsz LAY ≤ _; rw [lay_sz]; decide⟩
    · have hi4 : i + 4 ≤ (L : Int) := by omega
      have b0 : 0 ≤ i ∧ i < (L : Int) := ⟨hi0, by omega⟩
      have hk : ∀ F2, Rel F2 → qW (qtab L xs) 183 (600000, 7302250) 18 [(3, -7), (3, 0), (3, 69), (0, w32 (i + 4))] [] (LAY, F2) lawR := by
        intro F2 hF2
        have e5 : w32 (i + 4) = i + 4 := w32_id ⟨by omega, by omega⟩
        rw [e5]
        exact ih (i + 4) F2 (by omega) hi4 (by omega) hF2
      refine ⟨b0, ?_⟩
      have h31 := and31 (xs i.toNat)
      generalize (i1 (xs i.toNat) &&& i1 31).toInt = X at h31
      show qW (qtab L xs) 183 (600000, 7302250) (lawsw X) [(3, -7), (3, 0), (3, 69), (0, i)] [] (LAY, F) lawR
      have hX : X = 0 ∨ X = 1 ∨ X = 2 ∨ X = 3 ∨ X = 4 ∨ X = 5 ∨ X = 6 ∨ X = 7 ∨ X = 8 ∨ X = 9 ∨ X = 10 ∨ X = 11 ∨ X = 12 ∨ X = 13 ∨ X = 14 ∨ X = 15 ∨ X = 16 ∨ X = 17 ∨ X = 18 ∨ X = 19 ∨ X = 20 ∨ X = 21 ∨ X = 22 ∨ 22 < X := by omega
      rcases hX with rfl | rfl | rfl | rfl | rfl | rfl | rfl | rfl | rfl | rfl | rfl | rfl | rfl | rfl | rfl | rfl | rfl | rfl | rfl | rfl | rfl | rfl | rfl | hX
      · rw [lawsw_0]; exact law_write hL hxs hi0 hi4 hF H0 hk
      · rw [lawsw_1]; exact law_wipe hL hxs hi0 hi4 hF H1 hk
      · rw [lawsw_2]; exact law_fault hL hxs hi0 hi4 hF H2 hk
      · rw [lawsw_3]; exact law_day hL hxs hi0 hi4 hF H3 hk
      · rw [lawsw_4]; exact law_about hL hxs hi0 hi4 hF H4 hk
      · rw [lawsw_5]; exact law_set hL hxs hi0 hi4 hF H5 hk
      · rw [lawsw_6]; exact law_turn hL hxs hi0 hi4 hF H6 hk
      · rw [lawsw_7]; exact law_undo hL hxs hi0 hi4 hF H7 hk
      · rw [lawsw_8]; exact law_ask hL hxs hi0 hi4 hF H8 hk
      · rw [lawsw_9]; exact law_host hL hxs hi0 hi4 hF H9 hk
      · rw [lawsw_10]; exact law_total hL hxs hi0 hi4 hF H10 hk
      · rw [lawsw_11]; exact law_stand hL hxs hi0 hi4 hF H11 hk
      · rw [lawsw_12]; exact law_best hL hxs hi0 hi4 hF H12 hk
      · rw [lawsw_13]; exact law_judge hL hxs hi0 hi4 hF H13 hk
      · rw [lawsw_14]; exact law_see hL hxs hi0 hi4 hF H14 hk
      · rw [lawsw_15]; exact law_unsee hL hxs hi0 hi4 hF H15 hk
      · rw [lawsw_16]; exact law_which hL hxs hi0 hi4 hF H16 hk
      · rw [lawsw_17]; exact law_share hL hxs hi0 hi4 hF H17 hk
      · rw [lawsw_18]; exact law_calm hL hxs hi0 hi4 hF H18 hk
      · rw [lawsw_19]; exact law_seed hL hxs hi0 hi4 hF H19 hk
      · rw [lawsw_20]; exact law_drawn hL hxs hi0 hi4 hF H20 hk
      · rw [lawsw_21]; exact law_keep hL hxs hi0 hi4 hF H21 hk
      · rw [lawsw_22]; exact law_again hL hxs hi0 hi4 hF H22 hk
      · rw [lawsw_d hX]; simp only [YK, c183, t183, qtab5, Nat.reduceAdd, Int.reduceToNat, Int.reduceLE, Int.reduceLT, Nat.reduceLeDiff, true_and, and_true, qcat_0, qcat_1, qcat_3, qcat_9, lyK]; exact hk F hF
