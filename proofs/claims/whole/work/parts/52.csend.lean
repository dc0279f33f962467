/-! the class: where a copy goes; a copy is sent; an ask ends -/
theorem nodup_len {l : List Int} {N : Nat} (hn : l.Nodup) (hb : ∀ c ∈ l, 0 ≤ c ∧ c < (N : Int)) : l.length ≤ N := by
  have h1 : l ⊆ (List.range N).map (fun k : Nat => (k : Int)) := by
    intro c hc
    have := hb c hc
    exact List.mem_map.mpr ⟨c.toNat, List.mem_range.mpr (by omega), by omega⟩
  have h2 := List.Nodup.length_le_of_subset hn h1
  rw [List.length_map, List.length_range] at h2
  exact h2
theorem HI_of {n na : Nat} {S : XT × LT} (hR : RI n na S) (hna : na ≤ 12) {h : Nat} (hh : h < 4) : HI S.2 h := by
  obtain ⟨q1, q2, q3, q4, q5, -⟩ := hR h hh
  exact ⟨fun c hc => by have := (q1 c hc).1; omega, fun c hc => by have := q2 c hc; omega, q3, q4, q5⟩
theorem app_nodup {l : List Int} {a : Int} (hn : l.Nodup) (ha : a ∉ l) : (l ++ [a]).Nodup := by
  rw [List.nodup_append]
  refine ⟨hn, by simp, ?_⟩
  intro c hc d hd
  rw [List.mem_singleton] at hd
  subst hd
  intro h
  subst h
  exact ha hc
/-- the first host of the fewest copies among hosts lo .. hi - 1 -/
def PK (X : XT) (L : LT) (a t : Int) (lo hi : Nat) (r : Int) : Prop := (r = -9 ∧ ∀ j : Nat, lo ≤ j → j < hi → ¬ pMay X L j a t) ∨ (∃ m : Nat, r = (m : Int) ∧ lo ≤ m ∧ m < hi ∧ pMay X L m a t ∧ (∀ j : Nat, lo ≤ j → j < hi → pMay X L j a t → cps L m ≤ cps L j) ∧ ∀ j : Nat, lo ≤ j → j < m → pMay X L j a t → cps L m < cps L j)
theorem PK_u {X : XT} {L : LT} {a t : Int} {lo hi : Nat} {r r2 : Int} (h1 : PK X L a t lo hi r) (h2 : PK X L a t lo hi r2) : r = r2 := by
  rcases h1 with ⟨a1, a2⟩ | ⟨m, a1, a2, a3, a4, a5, a6⟩
  · rcases h2 with ⟨b1, b2⟩ | ⟨k, b1, b2, b3, b4, b5, b6⟩
    · omega
    · exact absurd b4 (a2 k b2 b3)
  · rcases h2 with ⟨b1, b2⟩ | ⟨k, b1, b2, b3, b4, b5, b6⟩
    · exact absurd a4 (b2 m a2 a3)
    · rcases Nat.lt_trichotomy m k with h | h | h
      · have := b6 m a2 h a4; have := a5 k b2 b3 b4; omega
      · omega
      · have := a6 k b2 h b4; have := b5 m a2 a3 a4; omega
theorem pickD_PK (X : XT) (L : LT) (a t : Int) (n : Nat) : ∀ k : Nat, k ≤ n → PK X L a t (n - k) n (pickD X L a t n k) := by
  intro k
  induction k with
  | zero => intro _; exact Or.inl ⟨rfl, fun j h1 h2 => by omega⟩
  | succ k ih =>
    intro hk
    have hi := ih (by omega)
    have en : n - (k + 1) = n - 1 - k := by omega
    unfold pickD
    rw [en]
    generalize pickD X L a t n k = r at hi
    by_cases c : pMay X L (n - 1 - k) a t ∧ (r = -9 ∨ cps L (n - 1 - k) ≤ cps L r.toNat)
    · rw [if_pos c]
      refine Or.inr ⟨n - 1 - k, rfl, Nat.le_refl _, by omega, c.1, ?_, fun j h1 h2 => by omega⟩
      intro j h1 h2 h3
      by_cases hj : j = n - 1 - k
      · rw [hj]; exact Int.le_refl _
      · rcases hi with ⟨a1, a2⟩ | ⟨m, a1, a2, a3, a4, a5, a6⟩
        · exact absurd h3 (a2 j (by omega) h2)
        · have h4 := a5 j (by omega) h2 h3
          rcases c.2 with h5 | h5
          · omega
          · rw [a1, Int.toNat_natCast] at h5; omega
    · rw [if_neg c]
      rcases hi with ⟨a1, a2⟩ | ⟨m, a1, a2, a3, a4, a5, a6⟩
      · refine Or.inl ⟨a1, ?_⟩
        intro j h1 h2
        by_cases hj : j = n - 1 - k
        · rw [hj]; exact fun hm => c ⟨hm, Or.inl a1⟩
        · exact a2 j (by omega) h2
      · have hc : pMay X L (n - 1 - k) a t → cps L m < cps L (n - 1 - k) := fun hm => by
          by_cases h5 : cps L (n - 1 - k) ≤ cps L m
          · exact absurd ⟨hm, Or.inr (by rw [a1, Int.toNat_natCast]; exact h5)⟩ c
          · omega
        refine Or.inr ⟨m, a1, by omega, a3, a4, ?_, ?_⟩
        · intro j h1 h2 h3
          by_cases hj : j = n - 1 - k
          · rw [hj] at h3 ⊢; have := hc h3; omega
          · exact a5 j (by omega) h2 h3
        · intro j h1 h2 h3
          by_cases hj : j = n - 1 - k
          · rw [hj] at h3 ⊢; exact hc h3
          · exact a6 j (by omega) h2 h3
theorem PK_yes {X : XT} {L : LT} {a t : Int} {h : Nat} {r f : Int} (hP : PK X L a t 0 h r) (hf : r ≠ -9 → f = cps L r.toNat) (hm : pMay X L h a t) (hc : r = -9 ∨ cps L h < f) : PK X L a t 0 (h + 1) (h : Int) := by
  refine Or.inr ⟨h, rfl, by omega, by omega, hm, ?_, ?_⟩
  · intro j h1 h2 h3
    by_cases hj : j = h
    · rw [hj]; exact Int.le_refl _
    · rcases hP with ⟨a1, a2⟩ | ⟨m, a1, a2, a3, a4, a5, a6⟩
      · exact absurd h3 (a2 j h1 (by omega))
      · have := a5 j h1 (by omega) h3
        have := hf (by omega)
        rw [a1, Int.toNat_natCast] at this
        omega
  · intro j h1 h2 h3
    rcases hP with ⟨a1, a2⟩ | ⟨m, a1, a2, a3, a4, a5, a6⟩
    · exact absurd h3 (a2 j h1 (by omega))
    · have := a5 j h1 (by omega) h3
      have := hf (by omega)
      rw [a1, Int.toNat_natCast] at this
      omega
theorem PK_no {X : XT} {L : LT} {a t : Int} {h : Nat} {r f : Int} (hP : PK X L a t 0 h r) (hf : r ≠ -9 → f = cps L r.toNat) (hc : pMay X L h a t → ¬ (r = -9 ∨ cps L h < f)) : PK X L a t 0 (h + 1) r := by
  rcases hP with ⟨a1, a2⟩ | ⟨m, a1, a2, a3, a4, a5, a6⟩
  · refine Or.inl ⟨a1, ?_⟩
    intro j h1 h2
    by_cases hj : j = h
    · rw [hj]; exact fun hm => hc hm (Or.inl a1)
    · exact a2 j h1 (by omega)
  · refine Or.inr ⟨m, a1, a2, by omega, a4, ?_, fun j h1 h2 h3 => a6 j h1 h2 h3⟩
    intro j h1 h2 h3
    by_cases hj : j = h
    · rw [hj] at h3 ⊢
      have := hc h3
      have := hf (by omega)
      rw [a1, Int.toNat_natCast] at this
      omega
    · exact a5 j h1 (by omega) h3
theorem k23 {tb : qTb} {n ns na p s u : Nat} {sp : Int} {C X F : XT} {L : LT} {e b : Int} {R : Option qV → qM → Prop} (hR : CR p u sp C X L e b F) (hST : ST n ns na p s u sp C X) (a : Nat) (ha : a < 12) (t : Int) (ht : 0 ≤ t ∧ t ≤ 80) (hOB : ∀ h : Nat, h < 4 → OB X h) (hk : R (some (0, pickD X L (a : Int) t n n)) (LAY, F)) : qW tb 23 (119, 1262) 0 [(3, 35), (0, (a : Int)), (0, t), (9, 0), (9, 0), (9, 0), (9, 0), (9, 0), (9, 0)] [] (LAY, F) R := by
  have hST0 := hST
  have hr := Rf_k hR.rf
  have hx := hR.k
  unfold CD at hx
  obtain ⟨hPS, ⟨t1, t1b⟩, ⟨t2, t2b⟩, ⟨t3, t3b⟩, t4, t5, t6, ⟨t7, t8, t9⟩, t10⟩ := hST
  have hp0 := psK hPS
  have hps := hR.ps hPS
  have hloop : ∀ (m h : Nat) (r f : Int) (v6 v7 v8 : qV), h + m = n → PK X L (a : Int) t 0 h r → (r ≠ -9 → f = cps L r.toNat) → qW tb 23 (119, 1262) 9 [(3, 35), (0, (a : Int)), (0, t), (0, r), (0, f), (0, (h : Int)), v6, v7, v8] [] (LAY, F) R := by
    intro m
    induction m with
    | zero =>
      intro h r f v6 v7 v8 hm hP hf
      have eh : h = n := by omega
      subst eh
      have b1 : ((h : Int) < (h : Int)) = False := eq_false (by omega)
      have hq := PK_u (pickD_PK X L (a : Int) t h h (Nat.le_refl _)) (by rw [Nat.sub_self]; exact hP)
      rw [hq] at hk
      rw [h23_9]
      simp only [YK, c23, t23, tgK, lyK, rkK, wK, rfK, hr, qRes_eq, qNon_eq, qup_ap, vup_ap, vcpy_ap, kc8_0, kc8_1, kc8_2, lc_lt, lc_gt, lc_eq, Option.toList_some, Option.toList_none, List.cons_append, List.nil_append, lay_len, lay_sz, Nat.reduceAdd, Nat.reduceSub, Nat.reduceMul, Int.reduceToNat, Int.reduceLE, Int.reduceLT, Int.reduceEq, Int.reduceAdd, Int.reduceSub, Int.reduceMul, Int.reduceNeg, Nat.reduceLeDiff, Nat.reduceLT, true_and, and_true, false_and, and_false, qcat_0, qcat_1, qcat_3, qcat_9, Nat.reduceEqDiff, if_true, if_false, ite_self, or_true, true_or, or_false, false_or, forall_const, not_true_eq_false, not_false_eq_true, false_implies, implies_true, qtK0, qtK1, qtK2, qtK3, qtK4, List.getD_cons_zero, List.getD_cons_succ, hx, Int.toNat_natCast, ne_eq, qcK, hbF, bsetF, bclrF, hp0, hps, t1, t2, t3, t7, b1]
      exact hk
    | succ m ih =>
      intro h r f v6 v7 v8 hm hP hf
      have hh : h < 4 := by omega
      have hg := hR.h hh
      have hc0 := hcK0 hh
      have hc1 := hcK1 h
      have hc2 := hcK2 h
      have q := hR.2.2.2.2.2 h hh
      have b1 : ((h : Int) < (n : Int)) = True := eq_true (by omega)
      have b2 : (0 ≤ (h : Int) ∧ (h : Int) < 4) = True := eq_true (by omega)
      have w1 : w32 ((h : Int) + 1) = ((h + 1 : Nat) : Int) := by rw [w32_id ⟨by omega, by omega⟩]; omega
      have hno := fun hc => ih (h + 1) r f (3, ((hO h : Nat) : Int)) (0, cps L h) (0, 0) (by omega) (PK_no hP hf hc) hf
      rw [h23_9]
      simp only [YK, c23, t23, cl37, tgK, lyK, rkK, wK, rfK, hr, qRes_eq, qNon_eq, qup_ap, vup_ap, vcpy_ap, kc8_0, kc8_1, kc8_2, lc_lt, lc_gt, lc_eq, Option.toList_some, Option.toList_none, List.cons_append, List.nil_append, lay_len, lay_sz, Nat.reduceAdd, Nat.reduceSub, Nat.reduceMul, Int.reduceToNat, Int.reduceLE, Int.reduceLT, Int.reduceEq, Int.reduceAdd, Int.reduceSub, Int.reduceMul, Int.reduceNeg, Nat.reduceLeDiff, Nat.reduceLT, true_and, and_true, false_and, and_false, qcat_0, qcat_1, qcat_3, qcat_9, Nat.reduceEqDiff, if_true, if_false, ite_self, or_true, true_or, or_false, false_or, forall_const, not_true_eq_false, not_false_eq_true, false_implies, implies_true, qtK0, qtK1, qtK2, qtK3, qtK4, List.getD_cons_zero, List.getD_cons_succ, hx, Int.toNat_natCast, ne_eq, qcK, hbF, bsetF, bclrF, hp0, hps, t1, t2, t3, t7, hg, hc0, hc1, hc2, b1, b2]
      refine k37 hR h hh ?_
      simp only [YK, c23, t23, cl57, tgK, lyK, rkK, wK, rfK, hr, qRes_eq, qNon_eq, qup_ap, vup_ap, vcpy_ap, kc8_0, kc8_1, kc8_2, lc_lt, lc_gt, lc_eq, Option.toList_some, Option.toList_none, List.cons_append, List.nil_append, lay_len, lay_sz, Nat.reduceAdd, Nat.reduceSub, Nat.reduceMul, Int.reduceToNat, Int.reduceLE, Int.reduceLT, Int.reduceEq, Int.reduceAdd, Int.reduceSub, Int.reduceMul, Int.reduceNeg, Nat.reduceLeDiff, Nat.reduceLT, true_and, and_true, false_and, and_false, qcat_0, qcat_1, qcat_3, qcat_9, Nat.reduceEqDiff, if_true, if_false, ite_self, or_true, true_or, or_false, false_or, forall_const, not_true_eq_false, not_false_eq_true, false_implies, implies_true, qtK0, qtK1, qtK2, qtK3, qtK4, List.getD_cons_zero, List.getD_cons_succ, hx, Int.toNat_natCast, ne_eq, qcK, hbF, bsetF, bclrF, hp0, hps, t1, t2, t3, t7, hg, hc0, hc1, hc2]
      refine k57 hR hST0 h hh ?_
      cases c1 : hasB (X 97 5) (h : Int) with
      | true =>
        have hq := hno (fun hm => by rw [hm.1] at c1; cases c1)
        simp only [YK, c23, t23, cl36, tgK, lyK, rkK, wK, rfK, hr, qRes_eq, qNon_eq, qup_ap, vup_ap, vcpy_ap, kc8_0, kc8_1, kc8_2, lc_lt, lc_gt, lc_eq, Option.toList_some, Option.toList_none, List.cons_append, List.nil_append, lay_len, lay_sz, Nat.reduceAdd, Nat.reduceSub, Nat.reduceMul, Int.reduceToNat, Int.reduceLE, Int.reduceLT, Int.reduceEq, Int.reduceAdd, Int.reduceSub, Int.reduceMul, Int.reduceNeg, Nat.reduceLeDiff, Nat.reduceLT, true_and, and_true, false_and, and_false, qcat_0, qcat_1, qcat_3, qcat_9, Nat.reduceEqDiff, if_true, if_false, ite_self, or_true, true_or, or_false, false_or, forall_const, not_true_eq_false, not_false_eq_true, false_implies, implies_true, qtK0, qtK1, qtK2, qtK3, qtK4, List.getD_cons_zero, List.getD_cons_succ, hx, Int.toNat_natCast, ne_eq, qcK, hbF, bsetF, bclrF, hp0, hps, t1, t2, t3, t7, hg, hc0, hc1, hc2, bi_t, bi_f, w1]
        exact hq
      | false =>
        simp only [YK, c23, t23, cl36, tgK, lyK, rkK, wK, rfK, hr, qRes_eq, qNon_eq, qup_ap, vup_ap, vcpy_ap, kc8_0, kc8_1, kc8_2, lc_lt, lc_gt, lc_eq, Option.toList_some, Option.toList_none, List.cons_append, List.nil_append, lay_len, lay_sz, Nat.reduceAdd, Nat.reduceSub, Nat.reduceMul, Int.reduceToNat, Int.reduceLE, Int.reduceLT, Int.reduceEq, Int.reduceAdd, Int.reduceSub, Int.reduceMul, Int.reduceNeg, Nat.reduceLeDiff, Nat.reduceLT, true_and, and_true, false_and, and_false, qcat_0, qcat_1, qcat_3, qcat_9, Nat.reduceEqDiff, if_true, if_false, ite_self, or_true, true_or, or_false, false_or, forall_const, not_true_eq_false, not_false_eq_true, false_implies, implies_true, qtK0, qtK1, qtK2, qtK3, qtK4, List.getD_cons_zero, List.getD_cons_succ, hx, Int.toNat_natCast, ne_eq, qcK, hbF, bsetF, bclrF, hp0, hps, t1, t2, t3, t7, hg, hc0, hc1, hc2, bi_t, bi_f, w1]
        refine k36 hR h hh a ha ?_
        by_cases c2 : (a : Int) ∈ L 0 h ∨ (a : Int) ∈ L 1 h
        · have hq := hno (fun hm => (c2.elim hm.2.2.1 hm.2.2.2 : False).elim)
          rw [b01_t c2]
          simp only [YK, c23, t23, cl4, tgK, lyK, rkK, wK, rfK, hr, qRes_eq, qNon_eq, qup_ap, vup_ap, vcpy_ap, kc8_0, kc8_1, kc8_2, lc_lt, lc_gt, lc_eq, Option.toList_some, Option.toList_none, List.cons_append, List.nil_append, lay_len, lay_sz, Nat.reduceAdd, Nat.reduceSub, Nat.reduceMul, Int.reduceToNat, Int.reduceLE, Int.reduceLT, Int.reduceEq, Int.reduceAdd, Int.reduceSub, Int.reduceMul, Int.reduceNeg, Nat.reduceLeDiff, Nat.reduceLT, true_and, and_true, false_and, and_false, qcat_0, qcat_1, qcat_3, qcat_9, Nat.reduceEqDiff, if_true, if_false, ite_self, or_true, true_or, or_false, false_or, forall_const, not_true_eq_false, not_false_eq_true, false_implies, implies_true, qtK0, qtK1, qtK2, qtK3, qtK4, List.getD_cons_zero, List.getD_cons_succ, hx, Int.toNat_natCast, ne_eq, qcK, hbF, bsetF, bclrF, hp0, hps, t1, t2, t3, t7, hg, hc0, hc1, hc2, w1]
          exact hq
        · rw [b01_f c2]
          simp only [YK, c23, t23, cl4, tgK, lyK, rkK, wK, rfK, hr, qRes_eq, qNon_eq, qup_ap, vup_ap, vcpy_ap, kc8_0, kc8_1, kc8_2, lc_lt, lc_gt, lc_eq, Option.toList_some, Option.toList_none, List.cons_append, List.nil_append, lay_len, lay_sz, Nat.reduceAdd, Nat.reduceSub, Nat.reduceMul, Int.reduceToNat, Int.reduceLE, Int.reduceLT, Int.reduceEq, Int.reduceAdd, Int.reduceSub, Int.reduceMul, Int.reduceNeg, Nat.reduceLeDiff, Nat.reduceLT, true_and, and_true, false_and, and_false, qcat_0, qcat_1, qcat_3, qcat_9, Nat.reduceEqDiff, if_true, if_false, ite_self, or_true, true_or, or_false, false_or, forall_const, not_true_eq_false, not_false_eq_true, false_implies, implies_true, qtK0, qtK1, qtK2, qtK3, qtK4, List.getD_cons_zero, List.getD_cons_succ, hx, Int.toNat_natCast, ne_eq, qcK, hbF, bsetF, bclrF, hp0, hps, t1, t2, t3, t7, hg, hc0, hc1, hc2, w1]
          refine k4 hR h hh t (cps L h) ht (hOB h hh) ?_
          by_cases c3 : pBrk X h t = 0 ∨ (pBrk X h t = 2 ∧ cps L h = 0)
          · rw [b01_t c3]
            have hmay : pMay X L h (a : Int) t := ⟨c1, c3, fun h => c2 (Or.inl h), fun h => c2 (Or.inr h)⟩
            by_cases c4 : r = -9
            · have hq := ih (h + 1) (h : Int) (cps L h) (3, ((hO h : Nat) : Int)) (0, cps L h) (0, 1) (by omega) (PK_yes hP hf hmay (Or.inl c4)) (fun _ => by rw [Int.toNat_natCast])
              simp only [YK, c23, t23, tgK, lyK, rkK, wK, rfK, hr, qRes_eq, qNon_eq, qup_ap, vup_ap, vcpy_ap, kc8_0, kc8_1, kc8_2, lc_lt, lc_gt, lc_eq, Option.toList_some, Option.toList_none, List.cons_append, List.nil_append, lay_len, lay_sz, Nat.reduceAdd, Nat.reduceSub, Nat.reduceMul, Int.reduceToNat, Int.reduceLE, Int.reduceLT, Int.reduceEq, Int.reduceAdd, Int.reduceSub, Int.reduceMul, Int.reduceNeg, Nat.reduceLeDiff, Nat.reduceLT, true_and, and_true, false_and, and_false, qcat_0, qcat_1, qcat_3, qcat_9, Nat.reduceEqDiff, if_true, if_false, ite_self, or_true, true_or, or_false, false_or, forall_const, not_true_eq_false, not_false_eq_true, false_implies, implies_true, qtK0, qtK1, qtK2, qtK3, qtK4, List.getD_cons_zero, List.getD_cons_succ, hx, Int.toNat_natCast, ne_eq, qcK, hbF, bsetF, bclrF, hp0, hps, t1, t2, t3, t7, hg, hc0, hc1, hc2, w1, c4]
              exact hq
            · by_cases c5 : cps L h < f
              · have hq := ih (h + 1) (h : Int) (cps L h) (3, ((hO h : Nat) : Int)) (0, cps L h) (0, 1) (by omega) (PK_yes hP hf hmay (Or.inr c5)) (fun _ => by rw [Int.toNat_natCast])
                simp only [YK, c23, t23, tgK, lyK, rkK, wK, rfK, hr, qRes_eq, qNon_eq, qup_ap, vup_ap, vcpy_ap, kc8_0, kc8_1, kc8_2, lc_lt, lc_gt, lc_eq, Option.toList_some, Option.toList_none, List.cons_append, List.nil_append, lay_len, lay_sz, Nat.reduceAdd, Nat.reduceSub, Nat.reduceMul, Int.reduceToNat, Int.reduceLE, Int.reduceLT, Int.reduceEq, Int.reduceAdd, Int.reduceSub, Int.reduceMul, Int.reduceNeg, Nat.reduceLeDiff, Nat.reduceLT, true_and, and_true, false_and, and_false, qcat_0, qcat_1, qcat_3, qcat_9, Nat.reduceEqDiff, if_true, if_false, ite_self, or_true, true_or, or_false, false_or, forall_const, not_true_eq_false, not_false_eq_true, false_implies, implies_true, qtK0, qtK1, qtK2, qtK3, qtK4, List.getD_cons_zero, List.getD_cons_succ, hx, Int.toNat_natCast, ne_eq, qcK, hbF, bsetF, bclrF, hp0, hps, t1, t2, t3, t7, hg, hc0, hc1, hc2, w1, c4, c5]
                exact hq
              · have hq := ih (h + 1) r f (3, ((hO h : Nat) : Int)) (0, cps L h) (0, 1) (by omega) (PK_no hP hf (fun _ hc => hc.elim c4 c5)) hf
                simp only [YK, c23, t23, tgK, lyK, rkK, wK, rfK, hr, qRes_eq, qNon_eq, qup_ap, vup_ap, vcpy_ap, kc8_0, kc8_1, kc8_2, lc_lt, lc_gt, lc_eq, Option.toList_some, Option.toList_none, List.cons_append, List.nil_append, lay_len, lay_sz, Nat.reduceAdd, Nat.reduceSub, Nat.reduceMul, Int.reduceToNat, Int.reduceLE, Int.reduceLT, Int.reduceEq, Int.reduceAdd, Int.reduceSub, Int.reduceMul, Int.reduceNeg, Nat.reduceLeDiff, Nat.reduceLT, true_and, and_true, false_and, and_false, qcat_0, qcat_1, qcat_3, qcat_9, Nat.reduceEqDiff, if_true, if_false, ite_self, or_true, true_or, or_false, false_or, forall_const, not_true_eq_false, not_false_eq_true, false_implies, implies_true, qtK0, qtK1, qtK2, qtK3, qtK4, List.getD_cons_zero, List.getD_cons_succ, hx, Int.toNat_natCast, ne_eq, qcK, hbF, bsetF, bclrF, hp0, hps, t1, t2, t3, t7, hg, hc0, hc1, hc2, w1, c4, c5]
                exact hq
          · rw [b01_f c3]
            have hq := hno (fun hm => absurd hm.2.1 c3)
            simp only [YK, c23, t23, tgK, lyK, rkK, wK, rfK, hr, qRes_eq, qNon_eq, qup_ap, vup_ap, vcpy_ap, kc8_0, kc8_1, kc8_2, lc_lt, lc_gt, lc_eq, Option.toList_some, Option.toList_none, List.cons_append, List.nil_append, lay_len, lay_sz, Nat.reduceAdd, Nat.reduceSub, Nat.reduceMul, Int.reduceToNat, Int.reduceLE, Int.reduceLT, Int.reduceEq, Int.reduceAdd, Int.reduceSub, Int.reduceMul, Int.reduceNeg, Nat.reduceLeDiff, Nat.reduceLT, true_and, and_true, false_and, and_false, qcat_0, qcat_1, qcat_3, qcat_9, Nat.reduceEqDiff, if_true, if_false, ite_self, or_true, true_or, or_false, false_or, forall_const, not_true_eq_false, not_false_eq_true, false_implies, implies_true, qtK0, qtK1, qtK2, qtK3, qtK4, List.getD_cons_zero, List.getD_cons_succ, hx, Int.toNat_natCast, ne_eq, qcK, hbF, bsetF, bclrF, hp0, hps, t1, t2, t3, t7, hg, hc0, hc1, hc2, w1]
            exact hq
  simp only [YK, c23, t23, tgK, lyK, rkK, wK, rfK, hr, qRes_eq, qNon_eq, qup_ap, vup_ap, vcpy_ap, kc8_0, kc8_1, kc8_2, lc_lt, lc_gt, lc_eq, Option.toList_some, Option.toList_none, List.cons_append, List.nil_append, lay_len, lay_sz, Nat.reduceAdd, Nat.reduceSub, Nat.reduceMul, Int.reduceToNat, Int.reduceLE, Int.reduceLT, Int.reduceEq, Int.reduceAdd, Int.reduceSub, Int.reduceMul, Int.reduceNeg, Nat.reduceLeDiff, Nat.reduceLT, true_and, and_true, false_and, and_false, qcat_0, qcat_1, qcat_3, qcat_9, Nat.reduceEqDiff, if_true, if_false, ite_self, or_true, true_or, or_false, false_or, forall_const, not_true_eq_false, not_false_eq_true, false_implies, implies_true, qtK0, qtK1, qtK2, qtK3, qtK4, List.getD_cons_zero, List.getD_cons_succ, hx, Int.toNat_natCast, ne_eq, qcK, hbF, bsetF, bclrF, hp0, hps, t1, t2, t3, t7]
  exact hloop n 0 (-9) 0 _ _ _ (by omega) (Or.inl ⟨rfl, fun j h1 h2 => by omega⟩) (fun h => absurd rfl h)
theorem CR.cnt {p u : Nat} {sp : Int} {C X : XT} {L : LT} {e b : Int} {F : XT} (hR : CR p u sp C X L e b F) {h : Nat} (hh : h < 4) (j c : Nat) (hj : (j = 7 ∧ c = 113) ∨ (j = 8 ∧ c = 114) ∨ (j = 9 ∧ c = 115) ∨ (j = 10 ∧ c = 117)) (v : Int) (hv : I32 v) : CR p u sp C (qup X c h v) L e b (qup F (hO h) j v) := by
  refine hR.host hh (fun c c1 _ _ _ _ => qup_c c1) (fun _ _ _ => rfl) (fun c2 g _ _ hg => by rw [qup_ap, if_neg hg, ite_self]) (fun c2 hc => qup_c (by omega)) ?_
  obtain ⟨q1, q2, q3, q4, ⟨r1, r2, r3, r4, r5⟩, q6⟩ := hR.2.2.2.2.2 h hh
  unfold CH CBk
  rw [qup_c (c2 := hW h) (by unfold hW hO; omega), qup_c (c2 := hA h) (by unfold hA hO; omega), qup_c (c2 := hE h) (by unfold hE hO; omega), qup_c (c2 := hB h) (by unfold hB hO; omega), qup_c (c2 := 97) (by omega), qup_c (c2 := 108) (by omega), qup_c (c2 := 109) (by omega), qup_c (c2 := 110) (by omega), qup_c (c2 := 111) (by omega), qup_c (c2 := 112) (by omega), qup_c (c2 := 116) (by omega)]
  have hn : ∀ j2, j2 ≠ j → qup F (hO h) j v (hO h) j2 = F (hO h) j2 := fun j2 h2 => by rw [qup_ap, if_pos rfl, if_neg h2]
  have hs : qup F (hO h) j v (hO h) j = v := by rw [qup_ap, if_pos rfl, if_pos rfl]
  have xs : qup X c h v c h = v := by rw [qup_ap, if_pos rfl, if_pos rfl]
  refine ⟨fun j2 h2 => by rw [hn j2 (by omega)]; exact q1 j2 h2, ?_, ?_, ?_, ?_, q6⟩
  · rw [hn 4 (by omega)]; exact q2
  · rw [hn 5 (by omega)]; exact q3
  · rw [hn 6 (by omega)]; exact q4
  · rcases hj with ⟨rfl, rfl⟩ | ⟨rfl, rfl⟩ | ⟨rfl, rfl⟩ | ⟨rfl, rfl⟩
    · rw [hs, xs, hn 8 (by decide), hn 9 (by decide), hn 10 (by decide), qup_c (by decide), qup_c (by decide), qup_c (by decide)]; exact ⟨rfl, r2, r3, r4, r5⟩
    · rw [hs, xs, hn 7 (by decide), hn 9 (by decide), hn 10 (by decide), qup_c (by decide), qup_c (by decide), qup_c (by decide)]; exact ⟨r1, rfl, r3, r4, hv⟩
    · rw [hs, xs, hn 7 (by decide), hn 8 (by decide), hn 10 (by decide), qup_c (by decide), qup_c (by decide), qup_c (by decide)]; exact ⟨r1, r2, rfl, r4, r5⟩
    · rw [hs, xs, hn 7 (by decide), hn 8 (by decide), hn 9 (by decide), qup_c (by decide), qup_c (by decide), qup_c (by decide)]; exact ⟨r1, r2, r3, rfl, r5⟩
theorem ST_69 {n ns na p s u : Nat} {sp : Int} {C X : XT} (h : ST n ns na p s u sp C X) (j : Nat) (hj : j ≠ 41) (v : Int) : ST n ns na p s u sp C (qup X 69 j v) := by
  refine ST_eq h ?_ (qup_c (by decide)) (qup_c (by decide)) (qup_c (by decide)) (qup_c (by decide)) (qup_c (by decide)) (qup_c (by decide)) (qup_c (by decide)) (qup_c (by decide)) (qup_c (by decide)) (qup_c (by decide))
  rw [qup_ap, if_pos rfl, if_neg (by omega)]
theorem ST_up {n ns na p s u : Nat} {sp : Int} {C X : XT} (h : ST n ns na p s u sp C X) (c j : Nat) (hc : 98 ≤ c) (v : Int) : ST n ns na p s u sp C (qup X c j v) := by
  refine ST_eq h ?_ (qup_c (by omega)) (qup_c (by omega)) (qup_c (by omega)) (qup_c (by omega)) (qup_c (by omega)) (qup_c (by omega)) (qup_c (by omega)) (qup_c (by omega)) (qup_c (by omega)) (qup_c (by omega))
  rw [qup_c (by omega)]
theorem k22 {tb : qTb} {n ns na p s u : Nat} {sp : Int} {C X F : XT} {L : LT} {e b : Int} {R : Option qV → qM → Prop} (hR : CR p u sp C X L e b F) (hST : ST n ns na p s u sp C X) (a : Nat) (ha : a < na) (t : Int) (ht : 0 ≤ t ∧ t ≤ 80) (hOB : ∀ h : Nat, h < 4 → OB X h) (hs4 : 0 ≤ X 97 4 ∧ X 97 4 ≤ 2) (hRI : RI n na (X, L)) (hk : ∀ F2, CR p u sp C (pSend n (X, L) (a : Int) t).1 (pSend n (X, L) (a : Int) t).2 e b F2 → R none (LAY, F2)) : qW tb 22 (119, 1262) 0 [(3, 35), (0, (a : Int)), (0, t), (9, 0), (9, 0)] [] (LAY, F) R := by
  have hST0 := hST
  have hr := Rf_k hR.rf
  have hx := hR.k
  unfold CD at hx
  obtain ⟨hPS, ⟨t1, t1b⟩, ⟨t2, t2b⟩, ⟨t3, t3b⟩, t4, t5, t6, ⟨t7, t8, t9⟩, t10⟩ := hST
  have hp0 := psK hPS
  have hps := hR.ps hPS
  have hR1 := hR.day 12 (by decide) (w32 (X 69 64 + 1))
  have hST1 := ST_69 hST0 64 (by decide) (w32 (X 69 64 + 1))
  have hXX : pickD (qup X 69 64 (w32 (X 69 64 + 1))) L (a : Int) t n n = pickD X L (a : Int) t n n := pickD_X (qup_c (by decide)) (qup_c (by decide)) (qup_c (by decide)) n
  have hOB1 : ∀ h : Nat, h < 4 → OB (qup X 69 64 (w32 (X 69 64 + 1))) h := fun h hh => by
    unfold OB
    rw [qup_c (by decide), qup_c (by decide)]
    exact hOB h hh
  simp only [YK, c22, t22, cl23, tgK, lyK, rkK, wK, rfK, hr, qRes_eq, qNon_eq, qup_ap, vup_ap, vcpy_ap, kc8_0, kc8_1, kc8_2, lc_lt, lc_gt, lc_eq, Option.toList_some, Option.toList_none, List.cons_append, List.nil_append, lay_len, lay_sz, Nat.reduceAdd, Nat.reduceSub, Nat.reduceMul, Int.reduceToNat, Int.reduceLE, Int.reduceLT, Int.reduceEq, Int.reduceAdd, Int.reduceSub, Int.reduceMul, Int.reduceNeg, Nat.reduceLeDiff, Nat.reduceLT, true_and, and_true, false_and, and_false, qcat_0, qcat_1, qcat_3, qcat_9, Nat.reduceEqDiff, if_true, if_false, ite_self, or_true, true_or, or_false, false_or, forall_const, not_true_eq_false, not_false_eq_true, false_implies, implies_true, qtK0, qtK1, qtK2, qtK3, qtK4, List.getD_cons_zero, List.getD_cons_succ, hx, Int.toNat_natCast, ne_eq, qcK, hbF, bsetF, bclrF, hp0, hps, t1, t2, t3, t7]
  refine k23 hR1 hST1 a (by omega) t ht hOB1 ?_
  rw [hXX]
  have hpk := pickD_may X L (a : Int) t n n (Nat.le_refl n)
  unfold pSend at hk
  dsimp only at hk
  generalize hpd : pickD X L (a : Int) t n n = r at hk hpk
  by_cases c1 : r = -9
  · rw [if_pos c1] at hk
    have hq := hk _ (hR1.day 15 (by decide) (w32 (X 69 67 + 1)))
    subst c1
    simp only [YK, c22, t22, tgK, lyK, rkK, wK, rfK, hr, qRes_eq, qNon_eq, qup_ap, vup_ap, vcpy_ap, kc8_0, kc8_1, kc8_2, lc_lt, lc_gt, lc_eq, Option.toList_some, Option.toList_none, List.cons_append, List.nil_append, lay_len, lay_sz, Nat.reduceAdd, Nat.reduceSub, Nat.reduceMul, Int.reduceToNat, Int.reduceLE, Int.reduceLT, Int.reduceEq, Int.reduceAdd, Int.reduceSub, Int.reduceMul, Int.reduceNeg, Nat.reduceLeDiff, Nat.reduceLT, true_and, and_true, false_and, and_false, qcat_0, qcat_1, qcat_3, qcat_9, Nat.reduceEqDiff, if_true, if_false, ite_self, or_true, true_or, or_false, false_or, forall_const, not_true_eq_false, not_false_eq_true, false_implies, implies_true, qtK0, qtK1, qtK2, qtK3, qtK4, List.getD_cons_zero, List.getD_cons_succ, hx, Int.toNat_natCast, ne_eq, qcK, hbF, bsetF, bclrF]
    exact hq
  · rw [if_neg c1] at hk
    obtain ⟨hmay, hr0, hrn⟩ := hpk c1
    obtain ⟨h, rfl⟩ : ∃ h : Nat, r = (h : Int) := ⟨r.toNat, by omega⟩
    rw [Int.toNat_natCast] at hk hmay
    have hh : h < 4 := by omega
    have hI := HI_of hRI t3b hh
    dsimp only at hI
    obtain ⟨i1, i2, i3, i4, i5⟩ := hI
    have hnd := app_nodup i3 hmay.2.2.1
    have hin : ∀ c ∈ L 0 h ++ [(a : Int)], 0 ≤ c ∧ c < (na : Int) := by
      intro c hc
      rcases List.mem_append.mp hc with hc | hc
      · exact ((hRI h hh).1 c hc).1
      · rw [List.mem_singleton] at hc; omega
    have hlen := nodup_len hnd hin
    rw [List.length_append, List.length_singleton] at hlen
    have b1 : (0 ≤ (h : Int) ∧ (h : Int) < 4) = True := eq_true (by omega)
    have c1' : ((h : Int) = -9) = False := eq_false (by omega)
    have hg0 := hR.h hh
    have hc0 := hcK0 hh
    have hc1 := hcK1 h
    have hc2 := hcK2 h
    simp only [YK, c22, t22, cl38, tgK, lyK, rkK, wK, rfK, hr, qRes_eq, qNon_eq, qup_ap, vup_ap, vcpy_ap, kc8_0, kc8_1, kc8_2, lc_lt, lc_gt, lc_eq, Option.toList_some, Option.toList_none, List.cons_append, List.nil_append, lay_len, lay_sz, Nat.reduceAdd, Nat.reduceSub, Nat.reduceMul, Int.reduceToNat, Int.reduceLE, Int.reduceLT, Int.reduceEq, Int.reduceAdd, Int.reduceSub, Int.reduceMul, Int.reduceNeg, Nat.reduceLeDiff, Nat.reduceLT, true_and, and_true, false_and, and_false, qcat_0, qcat_1, qcat_3, qcat_9, Nat.reduceEqDiff, if_true, if_false, ite_self, or_true, true_or, or_false, false_or, forall_const, not_true_eq_false, not_false_eq_true, false_implies, implies_true, qtK0, qtK1, qtK2, qtK3, qtK4, List.getD_cons_zero, List.getD_cons_succ, hx, Int.toNat_natCast, ne_eq, qcK, hbF, bsetF, bclrF, hg0, hc0, hc1, hc2, b1, c1']
    refine k38 hR1 h hh a (by omega) (by omega) ?_
    clear hr hx hps
    intro F2 hR2
    have hr := Rf_k hR2.rf
    have hx := hR2.k
    unfold CD at hx
    have hps := hR2.ps hPS
    have hg := hR2.h hh
    rw [lset_self, lset_ne (Or.inl (by decide)), List.length_append, List.length_singleton] at hg
    obtain ⟨e1, e2, e3⟩ := t4 h (by omega)
    have ew : (((L 0 h).length + 1 : Nat) : Int) = ((L 0 h).length : Int) + 1 := by omega
    by_cases c2 : w32 (w32 (X 73 h + X 71 h) - ((L 1 h).length : Int)) < ((L 0 h).length : Int) + 1
    · rw [if_pos c2] at hk
      unfold pShed at hk
      dsimp only at hk
      have hI2 : HI (lset L 0 h (L 0 h ++ [(a : Int)])) h := by
        unfold HI
        rw [lset_self, lset_ne (Or.inl (by decide))]
        refine ⟨fun c hc => by have := hin c hc; omega, i2, hnd, i4, ?_⟩
        intro c hc
        rcases List.mem_append.mp hc with hc | hc
        · exact i5 c hc
        · rw [List.mem_singleton] at hc; rw [hc]; exact hmay.2.2.2
      have hat := atTo_lt (pWt (qup X 69 64 (w32 (X 69 64 + 1)))) (lset L 0 h (L 0 h ++ [(a : Int)]) 0 h) (lset L 0 h (L 0 h ++ [(a : Int)]) 0 h).length (by rw [lset_self, List.length_append, List.length_singleton]; omega)
      simp only [YK, c22, t22, cl24, tgK, lyK, rkK, wK, rfK, hr, qRes_eq, qNon_eq, qup_ap, vup_ap, vcpy_ap, kc8_0, kc8_1, kc8_2, lc_lt, lc_gt, lc_eq, Option.toList_some, Option.toList_none, List.cons_append, List.nil_append, lay_len, lay_sz, Nat.reduceAdd, Nat.reduceSub, Nat.reduceMul, Int.reduceToNat, Int.reduceLE, Int.reduceLT, Int.reduceEq, Int.reduceAdd, Int.reduceSub, Int.reduceMul, Int.reduceNeg, Nat.reduceLeDiff, Nat.reduceLT, true_and, and_true, false_and, and_false, qcat_0, qcat_1, qcat_3, qcat_9, Nat.reduceEqDiff, if_true, if_false, ite_self, or_true, true_or, or_false, false_or, forall_const, not_true_eq_false, not_false_eq_true, false_implies, implies_true, qtK0, qtK1, qtK2, qtK3, qtK4, List.getD_cons_zero, List.getD_cons_succ, hx, Int.toNat_natCast, ne_eq, qcK, hbF, bsetF, bclrF, hp0, hps, t1, t2, t3, t7, hg, hc0, hc1, hc2, b1, e1, e2, e3, c2, ew]
      refine k24 hR2 hST1 h hh (by rw [qup_c (by decide)]; exact hs4) (by rw [lset_self, List.length_append, List.length_singleton]; omega) (by rw [lset_self]; exact hin) ?_
      simp only [YK, c22, t22, cl39, tgK, lyK, rkK, wK, rfK, qRes_eq, qNon_eq, qup_ap, vup_ap, vcpy_ap, kc8_0, kc8_1, kc8_2, lc_lt, lc_gt, lc_eq, Option.toList_some, Option.toList_none, List.cons_append, List.nil_append, lay_len, lay_sz, Nat.reduceAdd, Nat.reduceSub, Nat.reduceMul, Int.reduceToNat, Int.reduceLE, Int.reduceLT, Int.reduceEq, Int.reduceAdd, Int.reduceSub, Int.reduceMul, Int.reduceNeg, Nat.reduceLeDiff, Nat.reduceLT, true_and, and_true, false_and, and_false, qcat_0, qcat_1, qcat_3, qcat_9, Nat.reduceEqDiff, if_true, if_false, ite_self, or_true, true_or, or_false, false_or, forall_const, not_true_eq_false, not_false_eq_true, false_implies, implies_true, qtK0, qtK1, qtK2, qtK3, qtK4, List.getD_cons_zero, List.getD_cons_succ, Int.toNat_natCast, ne_eq, qcK, hbF, bsetF, bclrF, hc0, hc1]
      refine k39 hR2 h hh _ hat hI2 ?_
      clear hr hx hps hg
      intro F3 hR3
      have hg := hR3.h hh
      have hq := hk _ (hR3.cnt hh 10 117 (by omega) (w32 (qup X 69 64 (w32 (X 69 64 + 1)) 117 h + 1)) (w32_rng _))
      simp only [YK, c22, t22, tgK, lyK, rkK, wK, rfK, qRes_eq, qNon_eq, qup_ap, vup_ap, vcpy_ap, kc8_0, kc8_1, kc8_2, lc_lt, lc_gt, lc_eq, Option.toList_some, Option.toList_none, List.cons_append, List.nil_append, lay_len, lay_sz, Nat.reduceAdd, Nat.reduceSub, Nat.reduceMul, Int.reduceToNat, Int.reduceLE, Int.reduceLT, Int.reduceEq, Int.reduceAdd, Int.reduceSub, Int.reduceMul, Int.reduceNeg, Nat.reduceLeDiff, Nat.reduceLT, true_and, and_true, false_and, and_false, qcat_0, qcat_1, qcat_3, qcat_9, Nat.reduceEqDiff, if_true, if_false, ite_self, or_true, true_or, or_false, false_or, forall_const, not_true_eq_false, not_false_eq_true, false_implies, implies_true, qtK0, qtK1, qtK2, qtK3, qtK4, List.getD_cons_zero, List.getD_cons_succ, Int.toNat_natCast, ne_eq, qcK, hbF, bsetF, bclrF, hg, hc0, hc1, hc2]
      exact hq
    · rw [if_neg c2] at hk
      have hq := hk F2 hR2
      simp only [YK, c22, t22, cl24, tgK, lyK, rkK, wK, rfK, hr, qRes_eq, qNon_eq, qup_ap, vup_ap, vcpy_ap, kc8_0, kc8_1, kc8_2, lc_lt, lc_gt, lc_eq, Option.toList_some, Option.toList_none, List.cons_append, List.nil_append, lay_len, lay_sz, Nat.reduceAdd, Nat.reduceSub, Nat.reduceMul, Int.reduceToNat, Int.reduceLE, Int.reduceLT, Int.reduceEq, Int.reduceAdd, Int.reduceSub, Int.reduceMul, Int.reduceNeg, Nat.reduceLeDiff, Nat.reduceLT, true_and, and_true, false_and, and_false, qcat_0, qcat_1, qcat_3, qcat_9, Nat.reduceEqDiff, if_true, if_false, ite_self, or_true, true_or, or_false, false_or, forall_const, not_true_eq_false, not_false_eq_true, false_implies, implies_true, qtK0, qtK1, qtK2, qtK3, qtK4, List.getD_cons_zero, List.getD_cons_succ, hx, Int.toNat_natCast, ne_eq, qcK, hbF, bsetF, bclrF, hp0, hps, t1, t2, t3, t7, hg, hc0, hc1, hc2, b1, e1, e2, e3, c2, ew]
      exact hq
