/-! the class: a host in a run -/
theorem CH_row {C X : XT} {L : LT} {h : Nat} {F F2 : XT} (hC : CH C X L h F) (l0 : List Int) (hO1 : ∀ j, j ≠ 4 → j ≠ 6 → F2 (hO h) j = F (hO h) j) (h4 : F2 (hO h) 4 = (l0.length : Int)) (f1 : F2 (hB h) = F (hB h)) (f2 : F2 (hA h) = F (hA h)) (f3 : F2 (hE h) = F (hE h)) (hw : rw0 (F2 (hW h)) l0) (hl : l0.length ≤ 12) (hd : held (F2 (hO h) 6) l0 (L 1 h)) : CH C X (lset L 0 h l0) h F2 := by
  obtain ⟨q1, -, q3, -, q5, q6⟩ := hC
  unfold CH
  rw [lset_self, lset_ne (Or.inl (by decide)), lset_ne (Or.inl (by decide)), f1, f2, f3, hO1 5 (by decide) (by decide), hO1 7 (by decide) (by decide), hO1 8 (by decide) (by decide), hO1 9 (by decide) (by decide), hO1 10 (by decide) (by decide)]
  refine ⟨fun j hj => ?_, ⟨h4, hw, hl⟩, q3, hd, q5, q6⟩
  rw [hO1 j (by omega) (by omega)]; exact q1 j hj
theorem CH_wrk {C X : XT} {L : LT} {h : Nat} {F F2 : XT} (hC : CH C X L h F) (l1 l2 : List Int) (hO1 : ∀ j, j ≠ 5 → j ≠ 6 → F2 (hO h) j = F (hO h) j) (h5 : F2 (hO h) 5 = (l1.length : Int)) (f1 : F2 (hB h) = F (hB h)) (f2 : F2 (hW h) = F (hW h)) (hw : rw0 (F2 (hA h)) l1) (he : rw0 (F2 (hE h)) l2) (hl : l1.length ≤ 3) (hl2 : l2.length = l1.length) (hd : held (F2 (hO h) 6) (L 0 h) l1) : CH C X (lset (lset L 1 h l1) 2 h l2) h F2 := by
  obtain ⟨q1, q2, -, -, q5, q6⟩ := hC
  unfold CH
  rw [lset_self, lset_ne (L := lset L 1 h l1) (i2 := 0) (Or.inl (by decide)), lset_ne (L := lset L 1 h l1) (i2 := 1) (Or.inl (by decide)), lset_self, lset_ne (Or.inl (by decide)), f1, f2, hO1 4 (by decide) (by decide), hO1 7 (by decide) (by decide), hO1 8 (by decide) (by decide), hO1 9 (by decide) (by decide), hO1 10 (by decide) (by decide)]
  refine ⟨fun j hj => ?_, q2, ⟨h5, hw, he, hl, hl2⟩, hd, q5, q6⟩
  rw [hO1 j (by omega) (by omega)]; exact q1 j hj
/-- what rows of a host must be like -/
def HI (L : LT) (h : Nat) : Prop := (∀ a ∈ L 0 h, 0 ≤ a ∧ a < 12) ∧ (∀ a ∈ L 1 h, 0 ≤ a ∧ a < 12) ∧ (L 0 h).Nodup ∧ (L 1 h).Nodup ∧ ∀ a ∈ L 0 h, a ∉ L 1 h
theorem mem_er {l : List Int} (hn : l.Nodup) {k : Nat} (hk : k < l.length) (a : Int) : a ∈ l.eraseIdx k ↔ a ∈ l ∧ a ≠ l.getD k 0 := by
  have e : l.eraseIdx k = l.erase (l.getD k 0) := by
    rw [getD_at hk]
    exact (List.erase_eq_eraseIdx_of_idxOf (List.Nodup.idxOf_getElem hn k hk)).symm
  rw [e, List.Nodup.mem_erase_iff hn]
  exact And.comm
theorem held_app {m : Int} {l0 l1 : List Int} (hd : held m l0 l1) (a : Nat) (ha : a < 12) : held (bset m (a : Int)) (l0 ++ [(a : Int)]) l1 := by
  intro c hc
  rw [hbit_set m a c (by omega) (by omega)]
  by_cases h : c = a
  · rw [if_pos h, b01_t]
    subst h
    exact Or.inl (List.mem_append_right _ (List.mem_singleton.mpr rfl))
  · rw [if_neg h, hd c hc]
    apply b01_eq
    rw [List.mem_append, List.mem_singleton]
    constructor
    · rintro (h1 | h1)
      · exact Or.inl (Or.inl h1)
      · exact Or.inr h1
    · rintro ((h1 | h1) | h1)
      · exact Or.inl h1
      · omega
      · exact Or.inr h1
theorem held_app1 {m : Int} {l0 l1 : List Int} (hd : held m l0 l1) (a : Nat) (ha : a < 12) : held (bset m (a : Int)) l0 (l1 ++ [(a : Int)]) := by
  intro c hc
  rw [hbit_set m a c (by omega) (by omega)]
  by_cases h : c = a
  · rw [if_pos h, b01_t]
    subst h
    exact Or.inr (List.mem_append_right _ (List.mem_singleton.mpr rfl))
  · rw [if_neg h, hd c hc]
    apply b01_eq
    rw [List.mem_append, List.mem_singleton]
    constructor
    · rintro (h1 | h1)
      · exact Or.inl h1
      · exact Or.inr (Or.inl h1)
    · rintro (h1 | h1 | h1)
      · exact Or.inl h1
      · exact Or.inr h1
      · omega
theorem held_er {m : Int} {l0 l1 : List Int} (hd : held m l0 l1) (hn : l0.Nodup) (hx : ∀ a ∈ l0, a ∉ l1) {k : Nat} (hk : k < l0.length) (a : Nat) (ha : a < 12) (e : l0.getD k 0 = (a : Int)) : held (bclr m (a : Int)) (l0.eraseIdx k) l1 := by
  intro c hc
  rw [hbit_clr m a c (by omega) (by omega)]
  have hm : (a : Int) ∈ l0 := e ▸ getD_mem hk
  by_cases h : c = a
  · rw [if_pos h, b01_f]
    subst h
    rw [mem_er hn hk]
    rintro (⟨-, h1⟩ | h1)
    · exact h1 e.symm
    · exact hx _ hm h1
  · rw [if_neg h, hd c hc]
    apply b01_eq
    rw [mem_er hn hk, e]
    have : (c : Int) ≠ (a : Int) := by omega
    constructor
    · rintro (h1 | h1)
      · exact Or.inl ⟨h1, this⟩
      · exact Or.inr h1
    · rintro (h1 | h1)
      · exact Or.inl h1.1
      · exact Or.inr h1
theorem held_er1 {m : Int} {l0 l1 : List Int} (hd : held m l0 l1) (hn : l1.Nodup) (hx : ∀ a ∈ l0, a ∉ l1) {k : Nat} (hk : k < l1.length) (a : Nat) (ha : a < 12) (e : l1.getD k 0 = (a : Int)) : held (bclr m (a : Int)) l0 (l1.eraseIdx k) := by
  intro c hc
  rw [hbit_clr m a c (by omega) (by omega)]
  have hm : (a : Int) ∈ l1 := e ▸ getD_mem hk
  by_cases h : c = a
  · rw [if_pos h, b01_f]
    subst h
    rw [mem_er hn hk]
    rintro (h1 | ⟨-, h1⟩)
    · exact hx _ h1 hm
    · exact h1 e.symm
  · rw [if_neg h, hd c hc]
    apply b01_eq
    rw [mem_er hn hk, e]
    have : (c : Int) ≠ (a : Int) := by omega
    constructor
    · rintro (h1 | h1)
      · exact Or.inl h1
      · exact Or.inr ⟨h1, this⟩
    · rintro (h1 | h1)
      · exact Or.inl h1
      · exact Or.inr h1.1
theorem k37 {tb : qTb} {p u : Nat} {sp : Int} {C X F : XT} {L : LT} {e b : Int} {R : Option qV → qM → Prop} (hR : CR p u sp C X L e b F) (h : Nat) (hh : h < 4) (hk : R (some (0, cps L h)) (LAY, F)) : qW tb 37 (119, 1262) 0 [(3, ((hO h : Nat) : Int))] [] (LAY, F) R := by
  have hr := Rf_k hR.rf
  have hx := hR.k
  unfold CD at hx
  have hg := hR.h hh
  have hc0 := hcK0 hh
  have hc1 := hcK1 h
  have hc2 := hcK2 h
  have q := hR.2.2.2.2.2 h hh
  have hl := q.2.1.2.2
  have hl2 := q.2.2.1.2.2.2.1
  have w : w32 (((L 0 h).length : Int) + ((L 1 h).length : Int)) = cps L h := by unfold cps; exact w32_id ⟨by omega, by omega⟩
  simp only [YK, c37, t37, tgK, lyK, rkK, wK, rfK, hr, qRes_eq, qNon_eq, qup_ap, vup_ap, vcpy_ap, kc8_0, kc8_1, kc8_2, lc_lt, lc_gt, lc_eq, Option.toList_some, Option.toList_none, List.cons_append, List.nil_append, lay_len, lay_sz, Nat.reduceAdd, Nat.reduceSub, Nat.reduceMul, Int.reduceToNat, Int.reduceLE, Int.reduceLT, Int.reduceEq, Int.reduceAdd, Int.reduceSub, Int.reduceMul, Int.reduceNeg, Nat.reduceLeDiff, Nat.reduceLT, true_and, and_true, false_and, and_false, qcat_0, qcat_1, qcat_3, qcat_9, Nat.reduceEqDiff, if_true, if_false, ite_self, or_true, true_or, or_false, false_or, forall_const, not_true_eq_false, not_false_eq_true, false_implies, implies_true, qtK0, qtK1, qtK2, qtK3, qtK4, List.getD_cons_zero, List.getD_cons_succ, hx, Int.toNat_natCast, ne_eq, qcK, hbF, bsetF, bclrF, hg, hc0, hc1, hc2, w]
  exact hk
theorem k36 {tb : qTb} {p u : Nat} {sp : Int} {C X F : XT} {L : LT} {e b : Int} {R : Option qV → qM → Prop} (hR : CR p u sp C X L e b F) (h : Nat) (hh : h < 4) (a : Nat) (ha : a < 12) (hk : R (some (0, b01 ((a : Int) ∈ L 0 h ∨ (a : Int) ∈ L 1 h))) (LAY, F)) : qW tb 36 (119, 1262) 0 [(3, ((hO h : Nat) : Int)), (0, (a : Int))] [] (LAY, F) R := by
  have hr := Rf_k hR.rf
  have hx := hR.k
  unfold CD at hx
  have hg := hR.h hh
  have hc0 := hcK0 hh
  have hc1 := hcK1 h
  have hc2 := hcK2 h
  have q := hR.2.2.2.2.2 h hh
  have hb := q.2.2.2.1 a ha
  by_cases c : (a : Int) ∈ L 0 h ∨ (a : Int) ∈ L 1 h
  · rw [b01_t c] at hb hk
    simp only [YK, c36, t36, tgK, lyK, rkK, wK, rfK, hr, qRes_eq, qNon_eq, qup_ap, vup_ap, vcpy_ap, kc8_0, kc8_1, kc8_2, lc_lt, lc_gt, lc_eq, Option.toList_some, Option.toList_none, List.cons_append, List.nil_append, lay_len, lay_sz, Nat.reduceAdd, Nat.reduceSub, Nat.reduceMul, Int.reduceToNat, Int.reduceLE, Int.reduceLT, Int.reduceEq, Int.reduceAdd, Int.reduceSub, Int.reduceMul, Int.reduceNeg, Nat.reduceLeDiff, Nat.reduceLT, true_and, and_true, false_and, and_false, qcat_0, qcat_1, qcat_3, qcat_9, Nat.reduceEqDiff, if_true, if_false, ite_self, or_true, true_or, or_false, false_or, forall_const, not_true_eq_false, not_false_eq_true, false_implies, implies_true, qtK0, qtK1, qtK2, qtK3, qtK4, List.getD_cons_zero, List.getD_cons_succ, hx, Int.toNat_natCast, ne_eq, qcK, hbF, bsetF, bclrF, hg, hc0, hc1, hc2, hb]
    exact hk
  · rw [b01_f c] at hb hk
    simp only [YK, c36, t36, tgK, lyK, rkK, wK, rfK, hr, qRes_eq, qNon_eq, qup_ap, vup_ap, vcpy_ap, kc8_0, kc8_1, kc8_2, lc_lt, lc_gt, lc_eq, Option.toList_some, Option.toList_none, List.cons_append, List.nil_append, lay_len, lay_sz, Nat.reduceAdd, Nat.reduceSub, Nat.reduceMul, Int.reduceToNat, Int.reduceLE, Int.reduceLT, Int.reduceEq, Int.reduceAdd, Int.reduceSub, Int.reduceMul, Int.reduceNeg, Nat.reduceLeDiff, Nat.reduceLT, true_and, and_true, false_and, and_false, qcat_0, qcat_1, qcat_3, qcat_9, Nat.reduceEqDiff, if_true, if_false, ite_self, or_true, true_or, or_false, false_or, forall_const, not_true_eq_false, not_false_eq_true, false_implies, implies_true, qtK0, qtK1, qtK2, qtK3, qtK4, List.getD_cons_zero, List.getD_cons_succ, hx, Int.toNat_natCast, ne_eq, qcK, hbF, bsetF, bclrF, hg, hc0, hc1, hc2, hb]
    exact hk
theorem k42 {tb : qTb} {p u : Nat} {sp : Int} {C X F : XT} {L : LT} {e b : Int} {R : Option qV → qM → Prop} (hR : CR p u sp C X L e b F) (h : Nat) (hh : h < 4) (t : Int) (hk : R (some (0, bi (endsB L h t))) (LAY, F)) : qW tb 42 (119, 1262) 0 [(3, ((hO h : Nat) : Int)), (0, t)] [] (LAY, F) R := by
  have hr := Rf_k hR.rf
  have hx := hR.k
  unfold CD at hx
  have hg := hR.h hh
  have hc0 := hcK0 hh
  have hc1 := hcK1 h
  have hc2 := hcK2 h
  have q := hR.2.2.2.2.2 h hh
  have hl := q.2.2.1.2.2.2
  by_cases c : 0 < (L 2 h).length
  · have b1 : (0 < ((L 1 h).length : Int)) = True := eq_true (by omega)
    have e1 := q.2.2.1.2.2.1 0 (by omega)
    by_cases c2 : (L 2 h).getD 0 0 = t
    · have : endsB L h t = true := by unfold endsB; rw [decide_eq_true c, decide_eq_true c2]; rfl
      rw [this, bi_t] at hk
      simp only [YK, c42, t42, tgK, lyK, rkK, wK, rfK, hr, qRes_eq, qNon_eq, qup_ap, vup_ap, vcpy_ap, kc8_0, kc8_1, kc8_2, lc_lt, lc_gt, lc_eq, Option.toList_some, Option.toList_none, List.cons_append, List.nil_append, lay_len, lay_sz, Nat.reduceAdd, Nat.reduceSub, Nat.reduceMul, Int.reduceToNat, Int.reduceLE, Int.reduceLT, Int.reduceEq, Int.reduceAdd, Int.reduceSub, Int.reduceMul, Int.reduceNeg, Nat.reduceLeDiff, Nat.reduceLT, true_and, and_true, false_and, and_false, qcat_0, qcat_1, qcat_3, qcat_9, Nat.reduceEqDiff, if_true, if_false, ite_self, or_true, true_or, or_false, false_or, forall_const, not_true_eq_false, not_false_eq_true, false_implies, implies_true, qtK0, qtK1, qtK2, qtK3, qtK4, List.getD_cons_zero, List.getD_cons_succ, hx, Int.toNat_natCast, ne_eq, qcK, hbF, bsetF, bclrF, hg, hc0, hc1, hc2, b1, e1, c2]
      exact hk
    · have : endsB L h t = false := by unfold endsB; rw [decide_eq_false c2, Bool.and_false]
      rw [this, bi_f] at hk
      simp only [YK, c42, t42, tgK, lyK, rkK, wK, rfK, hr, qRes_eq, qNon_eq, qup_ap, vup_ap, vcpy_ap, kc8_0, kc8_1, kc8_2, lc_lt, lc_gt, lc_eq, Option.toList_some, Option.toList_none, List.cons_append, List.nil_append, lay_len, lay_sz, Nat.reduceAdd, Nat.reduceSub, Nat.reduceMul, Int.reduceToNat, Int.reduceLE, Int.reduceLT, Int.reduceEq, Int.reduceAdd, Int.reduceSub, Int.reduceMul, Int.reduceNeg, Nat.reduceLeDiff, Nat.reduceLT, true_and, and_true, false_and, and_false, qcat_0, qcat_1, qcat_3, qcat_9, Nat.reduceEqDiff, if_true, if_false, ite_self, or_true, true_or, or_false, false_or, forall_const, not_true_eq_false, not_false_eq_true, false_implies, implies_true, qtK0, qtK1, qtK2, qtK3, qtK4, List.getD_cons_zero, List.getD_cons_succ, hx, Int.toNat_natCast, ne_eq, qcK, hbF, bsetF, bclrF, hg, hc0, hc1, hc2, b1, e1, c2]
      exact hk
  · have b1 : (0 < ((L 1 h).length : Int)) = False := eq_false (by omega)
    have : endsB L h t = false := by unfold endsB; rw [decide_eq_false c, Bool.false_and]
    rw [this, bi_f] at hk
    simp only [YK, c42, t42, tgK, lyK, rkK, wK, rfK, hr, qRes_eq, qNon_eq, qup_ap, vup_ap, vcpy_ap, kc8_0, kc8_1, kc8_2, lc_lt, lc_gt, lc_eq, Option.toList_some, Option.toList_none, List.cons_append, List.nil_append, lay_len, lay_sz, Nat.reduceAdd, Nat.reduceSub, Nat.reduceMul, Int.reduceToNat, Int.reduceLE, Int.reduceLT, Int.reduceEq, Int.reduceAdd, Int.reduceSub, Int.reduceMul, Int.reduceNeg, Nat.reduceLeDiff, Nat.reduceLT, true_and, and_true, false_and, and_false, qcat_0, qcat_1, qcat_3, qcat_9, Nat.reduceEqDiff, if_true, if_false, ite_self, or_true, true_or, or_false, false_or, forall_const, not_true_eq_false, not_false_eq_true, false_implies, implies_true, qtK0, qtK1, qtK2, qtK3, qtK4, List.getD_cons_zero, List.getD_cons_succ, hx, Int.toNat_natCast, ne_eq, qcK, hbF, bsetF, bclrF, hg, hc0, hc1, hc2, b1]
    exact hk
theorem k40 {tb : qTb} {p u : Nat} {sp : Int} {C X F : XT} {L : LT} {e b : Int} {R : Option qV → qM → Prop} (hR : CR p u sp C X L e b F) (h : Nat) (hh : h < 4) (a : Int) (hk : ∀ v : Int, ((v = -9 ∧ a ∉ L 0 h) ∨ ∃ k : Nat, k < (L 0 h).length ∧ v = (k : Int) ∧ (L 0 h).getD k 0 = a) → R (some (0, v)) (LAY, F)) : qW tb 40 (119, 1262) 0 [(3, ((hO h : Nat) : Int)), (0, a), (9, 0)] [] (LAY, F) R := by
  have hr := Rf_k hR.rf
  have hx := hR.k
  unfold CD at hx
  have hg := hR.h hh
  have hc0 := hcK0 hh
  have hc1 := hcK1 h
  have hc2 := hcK2 h
  have q := hR.2.2.2.2.2 h hh
  have hl := q.2.1.2.2
  have hloop : ∀ (n k : Nat), k + n = (L 0 h).length → (∀ j : Nat, j < k → ¬ (L 0 h).getD j 0 = a) → qW tb 40 (119, 1262) 2 [(3, ((hO h : Nat) : Int)), (0, a), (0, (k : Int))] [] (LAY, F) R := by
    intro n
    induction n with
    | zero =>
      intro k hkn hj
      have b2 : ((k : Int) < ((L 0 h).length : Int)) = False := eq_false (by omega)
      have hq := hk (-9) (Or.inl ⟨rfl, fun hm => by
        obtain ⟨j, hj1, hj2⟩ := List.mem_iff_getElem.mp hm
        exact hj j (by omega) (by rw [getD_at hj1]; exact hj2)⟩)
      rw [h40_2]
      simp only [YK, c40, t40, tgK, lyK, rkK, wK, rfK, hr, qRes_eq, qNon_eq, qup_ap, vup_ap, vcpy_ap, kc8_0, kc8_1, kc8_2, lc_lt, lc_gt, lc_eq, Option.toList_some, Option.toList_none, List.cons_append, List.nil_append, lay_len, lay_sz, Nat.reduceAdd, Nat.reduceSub, Nat.reduceMul, Int.reduceToNat, Int.reduceLE, Int.reduceLT, Int.reduceEq, Int.reduceAdd, Int.reduceSub, Int.reduceMul, Int.reduceNeg, Nat.reduceLeDiff, Nat.reduceLT, true_and, and_true, false_and, and_false, qcat_0, qcat_1, qcat_3, qcat_9, Nat.reduceEqDiff, if_true, if_false, ite_self, or_true, true_or, or_false, false_or, forall_const, not_true_eq_false, not_false_eq_true, false_implies, implies_true, qtK0, qtK1, qtK2, qtK3, qtK4, List.getD_cons_zero, List.getD_cons_succ, hx, Int.toNat_natCast, ne_eq, qcK, hbF, bsetF, bclrF, hg, hc0, hc1, hc2, b2]
      exact hq
    | succ n ih =>
      intro k hkn hj
      have b2 : ((k : Int) < ((L 0 h).length : Int)) = True := eq_true (by omega)
      have b3 : (0 ≤ (k : Int) ∧ (k : Int) < 12) = True := eq_true (by omega)
      have e3 : F (hW h) k = (L 0 h).getD k 0 := q.2.1.2.1 k (by omega)
      have w3 : w32 ((k : Int) + 1) = ((k + 1 : Nat) : Int) := by rw [w32_id ⟨by omega, by omega⟩]; omega
      by_cases c : (L 0 h).getD k 0 = a
      · have hq := hk (k : Int) (Or.inr ⟨k, by omega, rfl, c⟩)
        rw [h40_2]
        simp only [YK, c40, t40, tgK, lyK, rkK, wK, rfK, hr, qRes_eq, qNon_eq, qup_ap, vup_ap, vcpy_ap, kc8_0, kc8_1, kc8_2, lc_lt, lc_gt, lc_eq, Option.toList_some, Option.toList_none, List.cons_append, List.nil_append, lay_len, lay_sz, Nat.reduceAdd, Nat.reduceSub, Nat.reduceMul, Int.reduceToNat, Int.reduceLE, Int.reduceLT, Int.reduceEq, Int.reduceAdd, Int.reduceSub, Int.reduceMul, Int.reduceNeg, Nat.reduceLeDiff, Nat.reduceLT, true_and, and_true, false_and, and_false, qcat_0, qcat_1, qcat_3, qcat_9, Nat.reduceEqDiff, if_true, if_false, ite_self, or_true, true_or, or_false, false_or, forall_const, not_true_eq_false, not_false_eq_true, false_implies, implies_true, qtK0, qtK1, qtK2, qtK3, qtK4, List.getD_cons_zero, List.getD_cons_succ, hx, Int.toNat_natCast, ne_eq, qcK, hbF, bsetF, bclrF, hg, hc0, hc1, hc2, b2, b3, e3, w3, c]
        exact hq
      · have hi := ih (k + 1) (by omega) (fun j hj2 => by
          by_cases hjk : j = k
          · subst hjk; exact c
          · exact hj j (by omega))
        rw [h40_2]
        simp only [YK, c40, t40, tgK, lyK, rkK, wK, rfK, hr, qRes_eq, qNon_eq, qup_ap, vup_ap, vcpy_ap, kc8_0, kc8_1, kc8_2, lc_lt, lc_gt, lc_eq, Option.toList_some, Option.toList_none, List.cons_append, List.nil_append, lay_len, lay_sz, Nat.reduceAdd, Nat.reduceSub, Nat.reduceMul, Int.reduceToNat, Int.reduceLE, Int.reduceLT, Int.reduceEq, Int.reduceAdd, Int.reduceSub, Int.reduceMul, Int.reduceNeg, Nat.reduceLeDiff, Nat.reduceLT, true_and, and_true, false_and, and_false, qcat_0, qcat_1, qcat_3, qcat_9, Nat.reduceEqDiff, if_true, if_false, ite_self, or_true, true_or, or_false, false_or, forall_const, not_true_eq_false, not_false_eq_true, false_implies, implies_true, qtK0, qtK1, qtK2, qtK3, qtK4, List.getD_cons_zero, List.getD_cons_succ, hx, Int.toNat_natCast, ne_eq, qcK, hbF, bsetF, bclrF, hg, hc0, hc1, hc2, b2, b3, e3, w3, c]
        exact hi
  simp only [YK, c40, t40, tgK, lyK, rkK, wK, rfK, hr, qRes_eq, qNon_eq, qup_ap, vup_ap, vcpy_ap, kc8_0, kc8_1, kc8_2, lc_lt, lc_gt, lc_eq, Option.toList_some, Option.toList_none, List.cons_append, List.nil_append, lay_len, lay_sz, Nat.reduceAdd, Nat.reduceSub, Nat.reduceMul, Int.reduceToNat, Int.reduceLE, Int.reduceLT, Int.reduceEq, Int.reduceAdd, Int.reduceSub, Int.reduceMul, Int.reduceNeg, Nat.reduceLeDiff, Nat.reduceLT, true_and, and_true, false_and, and_false, qcat_0, qcat_1, qcat_3, qcat_9, Nat.reduceEqDiff, if_true, if_false, ite_self, or_true, true_or, or_false, false_or, forall_const, not_true_eq_false, not_false_eq_true, false_implies, implies_true, qtK0, qtK1, qtK2, qtK3, qtK4, List.getD_cons_zero, List.getD_cons_succ, hx, Int.toNat_natCast, ne_eq, qcK, hbF, bsetF, bclrF]
  exact hloop (L 0 h).length 0 (by omega) (fun j hj => absurd hj (by omega))
theorem shv_step (G : XT) (w : Nat) (g : Nat → Int) (k m : Nat) : qup (va_up G w (shg g k m)) w (k + m) (g (k + m + 1)) = va_up G w (shg g k (m + 1)) := by
  funext c j
  rw [qup_ap, vup_ap, vup_ap, ← shg_step]
  by_cases hc : c = w
  · rw [if_pos hc, if_pos hc, if_pos hc]
  · rw [if_neg hc, if_neg hc, if_neg hc]
theorem shg_er {f : Nat → Int} {l : List Int} (hf : rw0 f l) {k : Nat} (hk : k < l.length) : rw0 (shg f k (l.length - 1 - k)) (l.eraseIdx k) := by
  intro j hj
  rw [List.length_eraseIdx_of_lt hk] at hj
  rw [getD_erase]
  unfold shg
  by_cases hjk : j < k
  · rw [if_neg (by omega), if_pos hjk, hf j (by omega)]
  · rw [if_pos (by omega), if_neg hjk, hf (j + 1) (by omega)]
theorem k39n {tb : qTb} {p u : Nat} {sp : Int} {C X F : XT} {L : LT} {e b : Int} {R : Option qV → qM → Prop} (hR : CR p u sp C X L e b F) (h : Nat) (hh : h < 4) (hk : R none (LAY, F)) : qW tb 39 (119, 1262) 0 [(3, ((hO h : Nat) : Int)), (0, -9), (9, 0)] [] (LAY, F) R := by
  have hr := Rf_k hR.rf
  have hx := hR.k
  unfold CD at hx
  have hg := hR.h hh
  have hc0 := hcK0 hh
  have hc1 := hcK1 h
  have hc2 := hcK2 h
  have q := hR.2.2.2.2.2 h hh
  simp only [YK, c39, t39, tgK, lyK, rkK, wK, rfK, hr, qRes_eq, qNon_eq, qup_ap, vup_ap, vcpy_ap, kc8_0, kc8_1, kc8_2, lc_lt, lc_gt, lc_eq, Option.toList_some, Option.toList_none, List.cons_append, List.nil_append, lay_len, lay_sz, Nat.reduceAdd, Nat.reduceSub, Nat.reduceMul, Int.reduceToNat, Int.reduceLE, Int.reduceLT, Int.reduceEq, Int.reduceAdd, Int.reduceSub, Int.reduceMul, Int.reduceNeg, Nat.reduceLeDiff, Nat.reduceLT, true_and, and_true, false_and, and_false, qcat_0, qcat_1, qcat_3, qcat_9, Nat.reduceEqDiff, if_true, if_false, ite_self, or_true, true_or, or_false, false_or, forall_const, not_true_eq_false, not_false_eq_true, false_implies, implies_true, qtK0, qtK1, qtK2, qtK3, qtK4, List.getD_cons_zero, List.getD_cons_succ, hx, Int.toNat_natCast, ne_eq, qcK, hbF, bsetF, bclrF, hg, hc0, hc1, hc2]
  exact hk
theorem k39 {tb : qTb} {p u : Nat} {sp : Int} {C X F : XT} {L : LT} {e b : Int} {R : Option qV → qM → Prop} (hR : CR p u sp C X L e b F) (h : Nat) (hh : h < 4) (k : Nat) (hkl : k < (L 0 h).length) (hI : HI L h) (hk : ∀ F2, CR p u sp C X (lset L 0 h ((L 0 h).eraseIdx k)) e b F2 → R none (LAY, F2)) : qW tb 39 (119, 1262) 0 [(3, ((hO h : Nat) : Int)), (0, (k : Int)), (9, 0)] [] (LAY, F) R := by
  have hr := Rf_k hR.rf
  have hx := hR.k
  unfold CD at hx
  have hg := hR.h hh
  have hc0 := hcK0 hh
  have hc1 := hcK1 h
  have hc2 := hcK2 h
  have q := hR.2.2.2.2.2 h hh
  have hl := q.2.1.2.2
  obtain ⟨i1, i2, i3, i4, i5⟩ := hI
  have ha := i1 _ (getD_mem hkl)
  obtain ⟨a, hae⟩ : ∃ a : Nat, (L 0 h).getD k 0 = (a : Int) := ⟨((L 0 h).getD k 0).toNat, by omega⟩
  have e3 : F (hW h) k = (a : Int) := by rw [q.2.1.2.1 k hkl, hae]
  have b0 : ((k : Int) < 0) = False := eq_false (by omega)
  have b2 : ((k : Int) < ((L 0 h).length : Int)) = True := eq_true (by omega)
  have b3 : (0 ≤ (k : Int) ∧ (k : Int) < 12) = True := eq_true (by omega)
  have hG : ∀ j, j ≠ 6 → qup F (hO h) 6 (bclr (F (hO h) 6) (a : Int)) (hO h) j = F (hO h) j := fun j hj => by rw [qup_ap, if_pos rfl, if_neg hj]
  have hloop : ∀ (n m : Nat), k + m + n + 1 = (L 0 h).length → qW tb 39 (119, 1262) 33 [(3, ((hO h : Nat) : Int)), (0, (k : Int)), (0, ((k + m : Nat) : Int))] [] (LAY, va_up (qup F (hO h) 6 (bclr (F (hO h) 6) (a : Int))) (hW h) (shg (F (hW h)) k m)) R := by
    intro n
    induction n with
    | zero =>
      intro m hm
      have w3 : w32 (((k + m : Nat) : Int) + 1) = ((k + m + 1 : Nat) : Int) := by rw [w32_id ⟨by omega, by omega⟩]; omega
      have b4 : (((k + m + 1 : Nat) : Int) < ((L 0 h).length : Int)) = False := eq_false (by omega)
      have w0 : w32 (((L 0 h).length : Int) - 1) = (((L 0 h).length - 1 : Nat) : Int) := by rw [w32_id ⟨by omega, by omega⟩]; omega
      have hm2 : m = (L 0 h).length - 1 - k := by omega
      have hq := hk (qup (va_up (qup F (hO h) 6 (bclr (F (hO h) 6) (a : Int))) (hW h) (shg (F (hW h)) k m)) (hO h) 4 (((L 0 h).length - 1 : Nat) : Int)) (by
        refine hR.host hh ?_ (fun i g hg => lset_ne (Or.inr hg)) (fun _ _ _ _ _ => rfl) (fun _ _ => rfl) ?_
        · intro c c1 c2 c3 c4 c5
          rw [qup_c c1]
          funext j
          rw [vup_ap, if_neg c3, qup_c c1]
        · refine CH_row q _ ?_ ?_ ?_ ?_ ?_ ?_ ?_ ?_
          · intro j h4 h6
            rw [qup_ap, if_pos rfl, if_neg h4, vup_ap, if_neg (by unfold hO hW; omega)]
            exact hG j h6
          · rw [qup_ap, if_pos rfl, if_pos rfl, List.length_eraseIdx_of_lt hkl]
          · rw [qup_c (by unfold hO hB; omega)]; funext j; rw [vup_ap, if_neg (by unfold hW hB; omega), qup_c (by unfold hO hB; omega)]
          · rw [qup_c (by unfold hO hA; omega)]; funext j; rw [vup_ap, if_neg (by unfold hW hA; omega), qup_c (by unfold hO hA; omega)]
          · rw [qup_c (by unfold hO hE; omega)]; funext j; rw [vup_ap, if_neg (by unfold hW hE; omega), qup_c (by unfold hO hE; omega)]
          · rw [qup_c (by unfold hO hW; omega)]
            have e : va_up (qup F (hO h) 6 (bclr (F (hO h) 6) (a : Int))) (hW h) (shg (F (hW h)) k m) (hW h) = shg (F (hW h)) k m := by funext j; rw [vup_ap, if_pos rfl]
            rw [e, hm2]
            exact shg_er q.2.1.2.1 hkl
          · rw [List.length_eraseIdx_of_lt hkl]; omega
          · rw [qup_ap, if_pos rfl, if_neg (by decide), vup_ap, if_neg (by unfold hO hW; omega), qup_ap, if_pos rfl, if_pos rfl]
            exact held_er q.2.2.2.1 i3 i5 hkl a (by omega) hae)
      rw [h39_33]
      simp only [YK, c39, t39, tgK, lyK, rkK, wK, rfK, hr, qRes_eq, qNon_eq, qup_ap, vup_ap, vcpy_ap, kc8_0, kc8_1, kc8_2, lc_lt, lc_gt, lc_eq, Option.toList_some, Option.toList_none, List.cons_append, List.nil_append, lay_len, lay_sz, Nat.reduceAdd, Nat.reduceSub, Nat.reduceMul, Int.reduceToNat, Int.reduceLE, Int.reduceLT, Int.reduceEq, Int.reduceAdd, Int.reduceSub, Int.reduceMul, Int.reduceNeg, Nat.reduceLeDiff, Nat.reduceLT, true_and, and_true, false_and, and_false, qcat_0, qcat_1, qcat_3, qcat_9, Nat.reduceEqDiff, if_true, if_false, ite_self, or_true, true_or, or_false, false_or, forall_const, not_true_eq_false, not_false_eq_true, false_implies, implies_true, qtK0, qtK1, qtK2, qtK3, qtK4, List.getD_cons_zero, List.getD_cons_succ, hx, Int.toNat_natCast, ne_eq, qcK, hbF, bsetF, bclrF, hg, hc0, hc1, hc2, w3, b4, w0]
      exact hq
    | succ n ih =>
      intro m hm
      have w3 : w32 (((k + m : Nat) : Int) + 1) = ((k + m + 1 : Nat) : Int) := by rw [w32_id ⟨by omega, by omega⟩]; omega
      have b4 : (((k + m + 1 : Nat) : Int) < ((L 0 h).length : Int)) = True := eq_true (by omega)
      have b5 : (0 ≤ ((k + m : Nat) : Int) ∧ ((k + m : Nat) : Int) < 12) = True := eq_true (by omega)
      have b6 : (0 ≤ ((k + m + 1 : Nat) : Int) ∧ ((k + m + 1 : Nat) : Int) < 12) = True := eq_true (by omega)
      have e5 := shg_at (F (hW h)) k m
      have hi := ih (m + 1) (by omega)
      rw [← shv_step] at hi
      rw [h39_33]
      simp only [YK, c39, t39, tgK, lyK, rkK, wK, rfK, hr, qRes_eq, qNon_eq, qup_ap, vup_ap, vcpy_ap, kc8_0, kc8_1, kc8_2, lc_lt, lc_gt, lc_eq, Option.toList_some, Option.toList_none, List.cons_append, List.nil_append, lay_len, lay_sz, Nat.reduceAdd, Nat.reduceSub, Nat.reduceMul, Int.reduceToNat, Int.reduceLE, Int.reduceLT, Int.reduceEq, Int.reduceAdd, Int.reduceSub, Int.reduceMul, Int.reduceNeg, Nat.reduceLeDiff, Nat.reduceLT, true_and, and_true, false_and, and_false, qcat_0, qcat_1, qcat_3, qcat_9, Nat.reduceEqDiff, if_true, if_false, ite_self, or_true, true_or, or_false, false_or, forall_const, not_true_eq_false, not_false_eq_true, false_implies, implies_true, qtK0, qtK1, qtK2, qtK3, qtK4, List.getD_cons_zero, List.getD_cons_succ, hx, Int.toNat_natCast, ne_eq, qcK, hbF, bsetF, bclrF, hg, hc0, hc1, hc2, w3, b4, b5, b6, e5]
      exact hi
  simp only [YK, c39, t39, tgK, lyK, rkK, wK, rfK, hr, qRes_eq, qNon_eq, qup_ap, vup_ap, vcpy_ap, kc8_0, kc8_1, kc8_2, lc_lt, lc_gt, lc_eq, Option.toList_some, Option.toList_none, List.cons_append, List.nil_append, lay_len, lay_sz, Nat.reduceAdd, Nat.reduceSub, Nat.reduceMul, Int.reduceToNat, Int.reduceLE, Int.reduceLT, Int.reduceEq, Int.reduceAdd, Int.reduceSub, Int.reduceMul, Int.reduceNeg, Nat.reduceLeDiff, Nat.reduceLT, true_and, and_true, false_and, and_false, qcat_0, qcat_1, qcat_3, qcat_9, Nat.reduceEqDiff, if_true, if_false, ite_self, or_true, true_or, or_false, false_or, forall_const, not_true_eq_false, not_false_eq_true, false_implies, implies_true, qtK0, qtK1, qtK2, qtK3, qtK4, List.getD_cons_zero, List.getD_cons_succ, hx, Int.toNat_natCast, ne_eq, qcK, hbF, bsetF, bclrF, hg, hc0, hc1, hc2, b0, b2, b3, e3]
  have hl0 := hloop ((L 0 h).length - 1 - k) 0 (by omega)
  rw [shg_zero] at hl0
  have e9 : va_up (qup F (hO h) 6 (bclr (F (hO h) 6) (a : Int))) (hW h) (F (hW h)) = qup F (hO h) 6 (bclr (F (hO h) 6) (a : Int)) := by
    funext c j
    rw [vup_ap]
    by_cases hc : c = hW h
    · rw [if_pos hc, hc, qup_c (by unfold hO hW; omega)]
    · rw [if_neg hc]
  rw [e9] at hl0
  exact hl0
theorem k38 {tb : qTb} {p u : Nat} {sp : Int} {C X F : XT} {L : LT} {e b : Int} {R : Option qV → qM → Prop} (hR : CR p u sp C X L e b F) (h : Nat) (hh : h < 4) (a : Nat) (ha : a < 12) (hl : (L 0 h).length < 12) (hk : ∀ F2, CR p u sp C X (lset L 0 h (L 0 h ++ [(a : Int)])) e b F2 → R none (LAY, F2)) : qW tb 38 (119, 1262) 0 [(3, ((hO h : Nat) : Int)), (0, (a : Int))] [] (LAY, F) R := by
  have hr := Rf_k hR.rf
  have hx := hR.k
  unfold CD at hx
  have hg := hR.h hh
  have hc0 := hcK0 hh
  have hc1 := hcK1 h
  have hc2 := hcK2 h
  have q := hR.2.2.2.2.2 h hh
  have b2 : (((L 0 h).length : Int) < 12) = True := eq_true (by omega)
  have b3 : (0 ≤ ((L 0 h).length : Int)) = True := eq_true (by omega)
  have w0 : w32 (((L 0 h).length : Int) + 1) = (((L 0 h).length + 1 : Nat) : Int) := by rw [w32_id ⟨by omega, by omega⟩]; omega
  have hq := hk (qup (qup (qup F (hW h) (L 0 h).length (a : Int)) (hO h) 4 (((L 0 h).length + 1 : Nat) : Int)) (hO h) 6 (bset (F (hO h) 6) (a : Int))) (by
    refine hR.host hh ?_ (fun i g hg => lset_ne (Or.inr hg)) (fun _ _ _ _ _ => rfl) (fun _ _ => rfl) ?_
    · intro c c1 c2 c3 c4 c5
      rw [qup_c c1, qup_c c1, qup_c c3]
    · refine CH_row q _ ?_ ?_ ?_ ?_ ?_ ?_ ?_ ?_
      · intro j h4 h6
        rw [qup_ap, if_pos rfl, if_neg h6, qup_ap, if_pos rfl, if_neg h4, qup_c (by unfold hO hW; omega)]
      · rw [qup_ap, if_pos rfl, if_neg (by decide), qup_ap, if_pos rfl, if_pos rfl, List.length_append]; rfl
      · rw [qup_c (by unfold hO hB; omega), qup_c (by unfold hO hB; omega), qup_c (by unfold hW hB; omega)]
      · rw [qup_c (by unfold hO hA; omega), qup_c (by unfold hO hA; omega), qup_c (by unfold hW hA; omega)]
      · rw [qup_c (by unfold hO hE; omega), qup_c (by unfold hO hE; omega), qup_c (by unfold hW hE; omega)]
      · rw [qup_c (by unfold hO hW; omega), qup_c (by unfold hO hW; omega)]
        intro j hj
        rw [List.length_append, List.length_singleton] at hj
        rw [qup_ap, if_pos rfl, getD_snoc]
        by_cases c : j = (L 0 h).length
        · rw [if_pos c, if_pos c]
        · rw [if_neg c, if_neg c, q.2.1.2.1 j (by omega)]
      · rw [List.length_append, List.length_singleton]; omega
      · rw [qup_ap, if_pos rfl, if_pos rfl]
        exact held_app q.2.2.2.1 a ha)
  simp only [YK, c38, t38, tgK, lyK, rkK, wK, rfK, hr, qRes_eq, qNon_eq, qup_ap, vup_ap, vcpy_ap, kc8_0, kc8_1, kc8_2, lc_lt, lc_gt, lc_eq, Option.toList_some, Option.toList_none, List.cons_append, List.nil_append, lay_len, lay_sz, Nat.reduceAdd, Nat.reduceSub, Nat.reduceMul, Int.reduceToNat, Int.reduceLE, Int.reduceLT, Int.reduceEq, Int.reduceAdd, Int.reduceSub, Int.reduceMul, Int.reduceNeg, Nat.reduceLeDiff, Nat.reduceLT, true_and, and_true, false_and, and_false, qcat_0, qcat_1, qcat_3, qcat_9, Nat.reduceEqDiff, if_true, if_false, ite_self, or_true, true_or, or_false, false_or, forall_const, not_true_eq_false, not_false_eq_true, false_implies, implies_true, qtK0, qtK1, qtK2, qtK3, qtK4, List.getD_cons_zero, List.getD_cons_succ, hx, Int.toNat_natCast, ne_eq, qcK, hbF, bsetF, bclrF, hg, hc0, hc1, hc2, b2, b3, w0]
  exact hq
theorem lset_comm {L : LT} {i j h g : Nat} {l m : List Int} (hn : i ≠ j ∨ h ≠ g) : lset (lset L i h l) j g m = lset (lset L j g m) i h l := by
  funext i2 h2
  simp only [lset_ap]
  by_cases c1 : i2 = j ∧ h2 = g
  · by_cases c2 : i2 = i ∧ h2 = h
    · omega
    · rw [if_pos c1, if_neg c2, if_pos c1]
  · rw [if_neg c1, if_neg c1]
theorem k41 {tb : qTb} {p u : Nat} {sp : Int} {C X F : XT} {L : LT} {e b : Int} {R : Option qV → qM → Prop} (hR : CR p u sp C X L e b F) (h : Nat) (hh : h < 4) (t : Int) (hw : (L 1 h).length < 3) (h0 : 0 < (L 0 h).length) (hI : HI L h) (hk : ∀ F2, CR p u sp C X (lset (lset (lset L 1 h (L 1 h ++ [(L 0 h).getD 0 0])) 2 h (L 2 h ++ [t])) 0 h ((L 0 h).eraseIdx 0)) e b F2 → R none (LAY, F2)) : qW tb 41 (119, 1262) 0 [(3, ((hO h : Nat) : Int)), (0, t), (9, 0)] [] (LAY, F) R := by
  have hr := Rf_k hR.rf
  have hx := hR.k
  unfold CD at hx
  have hg := hR.h hh
  have hc0 := hcK0 hh
  have hc1 := hcK1 h
  have hc2 := hcK2 h
  have q := hR.2.2.2.2.2 h hh
  have hl := q.2.2.1.2.2.2
  have ha := hI.1 _ (getD_mem h0)
  obtain ⟨a, hae⟩ : ∃ a : Nat, (L 0 h).getD 0 0 = (a : Int) := ⟨((L 0 h).getD 0 0).toNat, by omega⟩
  have e3 : F (hW h) 0 = (a : Int) := by rw [q.2.1.2.1 0 h0, hae]
  have b2 : (0 < ((L 0 h).length : Int)) = True := eq_true (by omega)
  have b3 : (((L 1 h).length : Int) < 3) = True := eq_true (by omega)
  rw [hae] at hk
  simp only [YK, c41, t41, cl39, tgK, lyK, rkK, wK, rfK, hr, qRes_eq, qNon_eq, qup_ap, vup_ap, vcpy_ap, kc8_0, kc8_1, kc8_2, lc_lt, lc_gt, lc_eq, Option.toList_some, Option.toList_none, List.cons_append, List.nil_append, lay_len, lay_sz, Nat.reduceAdd, Nat.reduceSub, Nat.reduceMul, Int.reduceToNat, Int.reduceLE, Int.reduceLT, Int.reduceEq, Int.reduceAdd, Int.reduceSub, Int.reduceMul, Int.reduceNeg, Nat.reduceLeDiff, Nat.reduceLT, true_and, and_true, false_and, and_false, qcat_0, qcat_1, qcat_3, qcat_9, Nat.reduceEqDiff, if_true, if_false, ite_self, or_true, true_or, or_false, false_or, forall_const, not_true_eq_false, not_false_eq_true, false_implies, implies_true, qtK0, qtK1, qtK2, qtK3, qtK4, List.getD_cons_zero, List.getD_cons_succ, hx, Int.toNat_natCast, ne_eq, qcK, hbF, bsetF, bclrF, hg, hc0, hc1, hc2, b2, b3, e3]
  refine k39 hR h hh 0 h0 hI ?_
  clear hr hx hg q
  intro F1 hR1
  have hr := Rf_k hR1.rf
  have hx := hR1.k
  unfold CD at hx
  have hg := hR1.h hh
  have q := hR1.2.2.2.2.2 h hh
  rw [lset_self, lset_ne (Or.inl (by decide))] at hg
  have hd := q.2.2.2.1
  have hwA := q.2.2.1.2.1
  have hwE := q.2.2.1.2.2.1
  rw [lset_self, lset_ne (Or.inl (by decide))] at hd
  rw [lset_ne (Or.inl (by decide))] at hwA hwE
  have b4 : (0 ≤ ((L 1 h).length : Int) ∧ ((L 1 h).length : Int) < 3) = True := eq_true (by omega)
  have w0 : w32 (((L 1 h).length : Int) + 1) = (((L 1 h).length + 1 : Nat) : Int) := by rw [w32_id ⟨by omega, by omega⟩]; omega
  have hq := hk (qup (qup (qup (qup F1 (hA h) (L 1 h).length (a : Int)) (hE h) (L 1 h).length t) (hO h) 5 (((L 1 h).length + 1 : Nat) : Int)) (hO h) 6 (bset (F1 (hO h) 6) (a : Int))) (by
    rw [lset_comm (L := lset L 1 h (L 1 h ++ [(a : Int)])) (Or.inl (by decide)), lset_comm (L := L) (Or.inl (by decide))]
    refine hR1.host hh ?_ (fun i g hg => by rw [lset_ne (Or.inr hg), lset_ne (Or.inr hg)]) (fun _ _ _ _ _ => rfl) (fun _ _ => rfl) ?_
    · intro c c1 c2 c3 c4 c5
      rw [qup_c c1, qup_c c1, qup_c c5, qup_c c4]
    · refine CH_wrk q _ _ ?_ ?_ ?_ ?_ ?_ ?_ ?_ ?_ ?_
      · intro j h5 h6
        rw [qup_ap, if_pos rfl, if_neg h6, qup_ap, if_pos rfl, if_neg h5, qup_c (by unfold hO hE; omega), qup_c (by unfold hO hA; omega)]
      · rw [qup_ap, if_pos rfl, if_neg (by decide), qup_ap, if_pos rfl, if_pos rfl, List.length_append]; rfl
      · rw [qup_c (by unfold hO hB; omega), qup_c (by unfold hO hB; omega), qup_c (by unfold hE hB; omega), qup_c (by unfold hA hB; omega)]
      · rw [qup_c (by unfold hO hW; omega), qup_c (by unfold hO hW; omega), qup_c (by unfold hE hW; omega), qup_c (by unfold hA hW; omega)]
      · rw [qup_c (by unfold hO hA; omega), qup_c (by unfold hO hA; omega), qup_c (by unfold hE hA; omega)]
        intro j hj
        rw [List.length_append, List.length_singleton] at hj
        rw [qup_ap, if_pos rfl, getD_snoc]
        by_cases c : j = (L 1 h).length
        · rw [if_pos c, if_pos c]
        · rw [if_neg c, if_neg c, hwA j (by omega)]
      · rw [qup_c (by unfold hO hE; omega), qup_c (by unfold hO hE; omega)]
        intro j hj
        rw [List.length_append, List.length_singleton] at hj
        rw [qup_ap, if_pos rfl, getD_snoc, hl.2]
        by_cases c : j = (L 1 h).length
        · rw [if_pos c, if_pos c]
        · rw [if_neg c, if_neg c, qup_c (by unfold hE hA; omega), hwE j (by omega)]
      · rw [List.length_append, List.length_singleton]; omega
      · rw [List.length_append, List.length_append, List.length_singleton, List.length_singleton, hl.2]
      · rw [qup_ap, if_pos rfl, if_pos rfl, lset_self]
        exact held_app1 hd a (by omega))
  simp only [YK, c41, t41, tgK, lyK, rkK, wK, rfK, hr, qRes_eq, qNon_eq, qup_ap, vup_ap, vcpy_ap, kc8_0, kc8_1, kc8_2, lc_lt, lc_gt, lc_eq, Option.toList_some, Option.toList_none, List.cons_append, List.nil_append, lay_len, lay_sz, Nat.reduceAdd, Nat.reduceSub, Nat.reduceMul, Int.reduceToNat, Int.reduceLE, Int.reduceLT, Int.reduceEq, Int.reduceAdd, Int.reduceSub, Int.reduceMul, Int.reduceNeg, Nat.reduceLeDiff, Nat.reduceLT, true_and, and_true, false_and, and_false, qcat_0, qcat_1, qcat_3, qcat_9, Nat.reduceEqDiff, if_true, if_false, ite_self, or_true, true_or, or_false, false_or, forall_const, not_true_eq_false, not_false_eq_true, false_implies, implies_true, qtK0, qtK1, qtK2, qtK3, qtK4, List.getD_cons_zero, List.getD_cons_succ, hx, Int.toNat_natCast, ne_eq, qcK, hbF, bsetF, bclrF, hg, hc0, hc1, hc2, b4, w0]
  exact hq
