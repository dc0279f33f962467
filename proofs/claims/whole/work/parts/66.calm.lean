/-! fractions; the pair calm -/
def frG (t b : Int) : Int := ((Nat.gcd t.natAbs b.natAbs : Nat) : Int)
def frV (t b up : Int) : Int := if up = 0 then w32 (b.tdiv (frG t b)) else w32 (t.tdiv (frG t b))
theorem tmodN (x y : Nat) : Int.tmod (x : Int) (y : Int) = ((x % y : Nat) : Int) := rfl
theorem frG_pos {t b : Int} (hb : 0 < b) : 0 < frG t b := by
  unfold frG
  have : 0 < Nat.gcd t.natAbs b.natAbs := Nat.gcd_pos_of_pos_right _ (by omega)
  omega
theorem gcd_step {x y : Nat} : Nat.gcd y (x % y) = Nat.gcd x y := by
  rw [Nat.gcd_comm y, ← Nat.gcd_rec, Nat.gcd_comm]
theorem half_step {y r : Nat} (hr : 0 < r) (h : r < y) : 2 * (y % r) < y := by
  have h1 := Nat.mod_lt y hr
  have h2 : y % r ≤ y - r := by
    rw [Nat.mod_eq_sub_mod (by omega)]
    exact Nat.mod_le _ _
  omega
theorem r109 {tb : qTb} {F : XT} {R : Option qV → qM → Prop} (t : Int) (b : Nat) (ht : -1000000 ≤ t ∧ t ≤ 1000000) (hb : b ≤ 10000) (hk : R (some (0, frG t (b : Int))) (LAY, F)) : qW tb 109 (119, 1262) 0 [(0, t), (0, (b : Int)), (9, 0), (9, 0), (9, 0)] [] (LAY, F) R := by
  have hloop : ∀ (y x : Nat) (v : qV), y ≤ 10000 → x ≤ 1000000 → Nat.gcd x y = Nat.gcd t.natAbs b → qW tb 109 (119, 1262) 13 [(0, t), (0, (b : Int)), (0, (x : Int)), (0, (y : Int)), v] [] (LAY, F) R := by
    intro y
    induction y using Nat.strongRecOn with
    | ind y ih =>
      intro x v hy hx hg
      by_cases c : y = 0
      · subst c
        rw [Nat.gcd_zero_right] at hg
        have e0 : ((0 : Nat) : Int) = 0 := rfl
        unfold frG at hk
        rw [Int.natAbs_natCast, ← hg] at hk
        rw [h109_13]
        simp only [YK, c109, t109, tgK, lyK, rkK, wK, rfK, qRes_eq, qNon_eq, qup_ap, vup_ap, vcpy_ap, kc8_0, kc8_1, kc8_2, lc_lt, lc_gt, lc_eq, Option.toList_some, Option.toList_none, List.cons_append, List.nil_append, lay_len, lay_sz, Nat.reduceAdd, Nat.reduceSub, Nat.reduceMul, Int.reduceToNat, Int.reduceLE, Int.reduceLT, Int.reduceEq, Int.reduceAdd, Int.reduceSub, Int.reduceMul, Int.reduceNeg, Nat.reduceLeDiff, Nat.reduceLT, true_and, and_true, false_and, and_false, qcat_0, qcat_1, qcat_3, qcat_9, Nat.reduceEqDiff, if_true, if_false, ite_self, or_true, true_or, or_false, false_or, forall_const, not_true_eq_false, not_false_eq_true, false_implies, implies_true, qtK0, qtK1, qtK2, qtK3, qtK4, List.getD_cons_zero, List.getD_cons_succ, Int.toNat_natCast, ne_eq, qcK, hbF, bsetF, bclrF, e0]
        exact hk
      · have c' : ((y : Int) = 0) = False := eq_false (by omega)
        have hm := Nat.mod_lt x (by omega : y > 0)
        have w1 : w32 (Int.tmod (x : Int) (y : Int)) = ((x % y : Nat) : Int) := by rw [tmodN]; exact w32_id ⟨by omega, by omega⟩
        have hq := ih (x % y) hm y (0, ((x % y : Nat) : Int)) (by omega) (by omega) (by rw [gcd_step]; exact hg)
        rw [h109_13]
        simp only [YK, c109, t109, tgK, lyK, rkK, wK, rfK, qRes_eq, qNon_eq, qup_ap, vup_ap, vcpy_ap, kc8_0, kc8_1, kc8_2, lc_lt, lc_gt, lc_eq, Option.toList_some, Option.toList_none, List.cons_append, List.nil_append, lay_len, lay_sz, Nat.reduceAdd, Nat.reduceSub, Nat.reduceMul, Int.reduceToNat, Int.reduceLE, Int.reduceLT, Int.reduceEq, Int.reduceAdd, Int.reduceSub, Int.reduceMul, Int.reduceNeg, Nat.reduceLeDiff, Nat.reduceLT, true_and, and_true, false_and, and_false, qcat_0, qcat_1, qcat_3, qcat_9, Nat.reduceEqDiff, if_true, if_false, ite_self, or_true, true_or, or_false, false_or, forall_const, not_true_eq_false, not_false_eq_true, false_implies, implies_true, qtK0, qtK1, qtK2, qtK3, qtK4, List.getD_cons_zero, List.getD_cons_succ, Int.toNat_natCast, ne_eq, qcK, hbF, bsetF, bclrF, c', w1]
        exact hq
  by_cases c : t < 0
  · have c' : (t < 0) = True := eq_true c
    have w1 : w32 (-t) = ((t.natAbs : Nat) : Int) := by rw [w32_id ⟨by omega, by omega⟩]; omega
    have hq := hloop b t.natAbs (9, 0) hb (by omega) rfl
    simp only [YK, c109, t109, tgK, lyK, rkK, wK, rfK, qRes_eq, qNon_eq, qup_ap, vup_ap, vcpy_ap, kc8_0, kc8_1, kc8_2, lc_lt, lc_gt, lc_eq, Option.toList_some, Option.toList_none, List.cons_append, List.nil_append, lay_len, lay_sz, Nat.reduceAdd, Nat.reduceSub, Nat.reduceMul, Int.reduceToNat, Int.reduceLE, Int.reduceLT, Int.reduceEq, Int.reduceAdd, Int.reduceSub, Int.reduceMul, Int.reduceNeg, Nat.reduceLeDiff, Nat.reduceLT, true_and, and_true, false_and, and_false, qcat_0, qcat_1, qcat_3, qcat_9, Nat.reduceEqDiff, if_true, if_false, ite_self, or_true, true_or, or_false, false_or, forall_const, not_true_eq_false, not_false_eq_true, false_implies, implies_true, qtK0, qtK1, qtK2, qtK3, qtK4, List.getD_cons_zero, List.getD_cons_succ, Int.toNat_natCast, ne_eq, qcK, hbF, bsetF, bclrF, c', w1]
    exact hq
  · have c' : (t < 0) = False := eq_false c
    have w1 : t = ((t.natAbs : Nat) : Int) := by omega
    have hq := hloop b t.natAbs (9, 0) hb (by omega) rfl
    rw [← w1] at hq
    simp only [YK, c109, t109, tgK, lyK, rkK, wK, rfK, qRes_eq, qNon_eq, qup_ap, vup_ap, vcpy_ap, kc8_0, kc8_1, kc8_2, lc_lt, lc_gt, lc_eq, Option.toList_some, Option.toList_none, List.cons_append, List.nil_append, lay_len, lay_sz, Nat.reduceAdd, Nat.reduceSub, Nat.reduceMul, Int.reduceToNat, Int.reduceLE, Int.reduceLT, Int.reduceEq, Int.reduceAdd, Int.reduceSub, Int.reduceMul, Int.reduceNeg, Nat.reduceLeDiff, Nat.reduceLT, true_and, and_true, false_and, and_false, qcat_0, qcat_1, qcat_3, qcat_9, Nat.reduceEqDiff, if_true, if_false, ite_self, or_true, true_or, or_false, false_or, forall_const, not_true_eq_false, not_false_eq_true, false_implies, implies_true, qtK0, qtK1, qtK2, qtK3, qtK4, List.getD_cons_zero, List.getD_cons_succ, Int.toNat_natCast, ne_eq, qcK, hbF, bsetF, bclrF, c']
    exact hq
theorem r110 {tb : qTb} {F : XT} {R : Option qV → qM → Prop} (t : Int) (b : Nat) (up : Int) (ht : -1000000 ≤ t ∧ t ≤ 1000000) (hb : 0 < b ∧ b ≤ 10000) (hk : R (some (0, frV t (b : Int) up)) (LAY, F)) : qW tb 110 (119, 1262) 0 [(0, t), (0, (b : Int)), (0, up), (9, 0)] [] (LAY, F) R := by
  have hg := frG_pos (t := t) (b := (b : Int)) (by omega)
  have hg0 : (frG t (b : Int) = 0) = False := eq_false (by omega)
  unfold frV at hk
  simp only [YK, c110, t110, cl109, tgK, lyK, rkK, wK, rfK, qRes_eq, qNon_eq, qup_ap, vup_ap, vcpy_ap, kc8_0, kc8_1, kc8_2, lc_lt, lc_gt, lc_eq, Option.toList_some, Option.toList_none, List.cons_append, List.nil_append, lay_len, lay_sz, Nat.reduceAdd, Nat.reduceSub, Nat.reduceMul, Int.reduceToNat, Int.reduceLE, Int.reduceLT, Int.reduceEq, Int.reduceAdd, Int.reduceSub, Int.reduceMul, Int.reduceNeg, Nat.reduceLeDiff, Nat.reduceLT, true_and, and_true, false_and, and_false, qcat_0, qcat_1, qcat_3, qcat_9, Nat.reduceEqDiff, if_true, if_false, ite_self, or_true, true_or, or_false, false_or, forall_const, not_true_eq_false, not_false_eq_true, false_implies, implies_true, qtK0, qtK1, qtK2, qtK3, qtK4, List.getD_cons_zero, List.getD_cons_succ, Int.toNat_natCast, ne_eq, qcK, hbF, bsetF, bclrF]
  refine r109 t b ht hb.2 ?_
  by_cases c : up = 0
  · rw [if_pos c] at hk
    simp only [YK, c110, t110, tgK, lyK, rkK, wK, rfK, qRes_eq, qNon_eq, qup_ap, vup_ap, vcpy_ap, kc8_0, kc8_1, kc8_2, lc_lt, lc_gt, lc_eq, Option.toList_some, Option.toList_none, List.cons_append, List.nil_append, lay_len, lay_sz, Nat.reduceAdd, Nat.reduceSub, Nat.reduceMul, Int.reduceToNat, Int.reduceLE, Int.reduceLT, Int.reduceEq, Int.reduceAdd, Int.reduceSub, Int.reduceMul, Int.reduceNeg, Nat.reduceLeDiff, Nat.reduceLT, true_and, and_true, false_and, and_false, qcat_0, qcat_1, qcat_3, qcat_9, Nat.reduceEqDiff, if_true, if_false, ite_self, or_true, true_or, or_false, false_or, forall_const, not_true_eq_false, not_false_eq_true, false_implies, implies_true, qtK0, qtK1, qtK2, qtK3, qtK4, List.getD_cons_zero, List.getD_cons_succ, Int.toNat_natCast, ne_eq, qcK, hbF, bsetF, bclrF, c, hg0]
    exact hk
  · rw [if_neg c] at hk
    simp only [YK, c110, t110, tgK, lyK, rkK, wK, rfK, qRes_eq, qNon_eq, qup_ap, vup_ap, vcpy_ap, kc8_0, kc8_1, kc8_2, lc_lt, lc_gt, lc_eq, Option.toList_some, Option.toList_none, List.cons_append, List.nil_append, lay_len, lay_sz, Nat.reduceAdd, Nat.reduceSub, Nat.reduceMul, Int.reduceToNat, Int.reduceLE, Int.reduceLT, Int.reduceEq, Int.reduceAdd, Int.reduceSub, Int.reduceMul, Int.reduceNeg, Nat.reduceLeDiff, Nat.reduceLT, true_and, and_true, false_and, and_false, qcat_0, qcat_1, qcat_3, qcat_9, Nat.reduceEqDiff, if_true, if_false, ite_self, or_true, true_or, or_false, false_or, forall_const, not_true_eq_false, not_false_eq_true, false_implies, implies_true, qtK0, qtK1, qtK2, qtK3, qtK4, List.getD_cons_zero, List.getD_cons_succ, Int.toNat_natCast, ne_eq, qcK, hbF, bsetF, bclrF, c, hg0]
    exact hk
theorem k100 {tb : qTb} {F : XT} {R : Option qV → qM → Prop} (t : Int) (b : Nat) (up : Int) (ht : -1000000 ≤ t ∧ t ≤ 1000000) (hb : 0 < b ∧ b ≤ 10000) (hk : R (some (0, frV t (b : Int) up)) (LAY, F)) : qW tb 100 (119, 1262) 0 [(0, t), (0, (b : Int)), (0, up), (9, 0), (9, 0), (9, 0), (9, 0)] [] (LAY, F) R := by
  have hg := frG_pos (t := t) (b := (b : Int)) (by omega)
  have hg0 : (frG t (b : Int) = 0) = False := eq_false (by omega)
  unfold frV at hk
  have hexit : ∀ (x i : Nat) (v : qV), i ≤ 64 → x = Nat.gcd t.natAbs b → qW tb 100 (119, 1262) 11 [(0, t), (0, (b : Int)), (0, up), (0, (x : Int)), (0, 0), (0, (i : Int)), v] [] (LAY, F) R := by
    intro x i v hi hx
    have ex : (x : Int) = frG t (b : Int) := by unfold frG; rw [Int.natAbs_natCast, hx]
    rw [ex, h100_11]
    by_cases c1 : (i : Int) < 64
    · by_cases c : up = 0
      · rw [if_pos c] at hk
        simp only [YK, c100, t100, tgK, lyK, rkK, wK, rfK, qRes_eq, qNon_eq, qup_ap, vup_ap, vcpy_ap, kc8_0, kc8_1, kc8_2, lc_lt, lc_gt, lc_eq, Option.toList_some, Option.toList_none, List.cons_append, List.nil_append, lay_len, lay_sz, Nat.reduceAdd, Nat.reduceSub, Nat.reduceMul, Int.reduceToNat, Int.reduceLE, Int.reduceLT, Int.reduceEq, Int.reduceAdd, Int.reduceSub, Int.reduceMul, Int.reduceNeg, Nat.reduceLeDiff, Nat.reduceLT, true_and, and_true, false_and, and_false, qcat_0, qcat_1, qcat_3, qcat_9, Nat.reduceEqDiff, if_true, if_false, ite_self, or_true, true_or, or_false, false_or, forall_const, not_true_eq_false, not_false_eq_true, false_implies, implies_true, qtK0, qtK1, qtK2, qtK3, qtK4, List.getD_cons_zero, List.getD_cons_succ, Int.toNat_natCast, ne_eq, qcK, hbF, bsetF, bclrF, c1, hg0, c]
        exact hk
      · rw [if_neg c] at hk
        simp only [YK, c100, t100, tgK, lyK, rkK, wK, rfK, qRes_eq, qNon_eq, qup_ap, vup_ap, vcpy_ap, kc8_0, kc8_1, kc8_2, lc_lt, lc_gt, lc_eq, Option.toList_some, Option.toList_none, List.cons_append, List.nil_append, lay_len, lay_sz, Nat.reduceAdd, Nat.reduceSub, Nat.reduceMul, Int.reduceToNat, Int.reduceLE, Int.reduceLT, Int.reduceEq, Int.reduceAdd, Int.reduceSub, Int.reduceMul, Int.reduceNeg, Nat.reduceLeDiff, Nat.reduceLT, true_and, and_true, false_and, and_false, qcat_0, qcat_1, qcat_3, qcat_9, Nat.reduceEqDiff, if_true, if_false, ite_self, or_true, true_or, or_false, false_or, forall_const, not_true_eq_false, not_false_eq_true, false_implies, implies_true, qtK0, qtK1, qtK2, qtK3, qtK4, List.getD_cons_zero, List.getD_cons_succ, Int.toNat_natCast, ne_eq, qcK, hbF, bsetF, bclrF, c1, hg0, c]
        exact hk
    · by_cases c : up = 0
      · rw [if_pos c] at hk
        simp only [YK, c100, t100, tgK, lyK, rkK, wK, rfK, qRes_eq, qNon_eq, qup_ap, vup_ap, vcpy_ap, kc8_0, kc8_1, kc8_2, lc_lt, lc_gt, lc_eq, Option.toList_some, Option.toList_none, List.cons_append, List.nil_append, lay_len, lay_sz, Nat.reduceAdd, Nat.reduceSub, Nat.reduceMul, Int.reduceToNat, Int.reduceLE, Int.reduceLT, Int.reduceEq, Int.reduceAdd, Int.reduceSub, Int.reduceMul, Int.reduceNeg, Nat.reduceLeDiff, Nat.reduceLT, true_and, and_true, false_and, and_false, qcat_0, qcat_1, qcat_3, qcat_9, Nat.reduceEqDiff, if_true, if_false, ite_self, or_true, true_or, or_false, false_or, forall_const, not_true_eq_false, not_false_eq_true, false_implies, implies_true, qtK0, qtK1, qtK2, qtK3, qtK4, List.getD_cons_zero, List.getD_cons_succ, Int.toNat_natCast, ne_eq, qcK, hbF, bsetF, bclrF, c1, hg0, c]
        exact hk
      · rw [if_neg c] at hk
        simp only [YK, c100, t100, tgK, lyK, rkK, wK, rfK, qRes_eq, qNon_eq, qup_ap, vup_ap, vcpy_ap, kc8_0, kc8_1, kc8_2, lc_lt, lc_gt, lc_eq, Option.toList_some, Option.toList_none, List.cons_append, List.nil_append, lay_len, lay_sz, Nat.reduceAdd, Nat.reduceSub, Nat.reduceMul, Int.reduceToNat, Int.reduceLE, Int.reduceLT, Int.reduceEq, Int.reduceAdd, Int.reduceSub, Int.reduceMul, Int.reduceNeg, Nat.reduceLeDiff, Nat.reduceLT, true_and, and_true, false_and, and_false, qcat_0, qcat_1, qcat_3, qcat_9, Nat.reduceEqDiff, if_true, if_false, ite_self, or_true, true_or, or_false, false_or, forall_const, not_true_eq_false, not_false_eq_true, false_implies, implies_true, qtK0, qtK1, qtK2, qtK3, qtK4, List.getD_cons_zero, List.getD_cons_succ, Int.toNat_natCast, ne_eq, qcK, hbF, bsetF, bclrF, c1, hg0, c]
        exact hk
  have hstep : ∀ (x y i : Nat) (v : qV), i < 64 → 0 < y → y ≤ 1000000 → (∀ v, qW tb 100 (119, 1262) 11 [(0, t), (0, (b : Int)), (0, up), (0, (y : Int)), (0, ((x % y : Nat) : Int)), (0, ((i + 1 : Nat) : Int)), v] [] (LAY, F) R) → qW tb 100 (119, 1262) 11 [(0, t), (0, (b : Int)), (0, up), (0, (x : Int)), (0, (y : Int)), (0, (i : Int)), v] [] (LAY, F) R := by
    intro x y i v hi hy hy2 hn
    have c1 : ((i : Int) < 64) = True := eq_true (by omega)
    have c' : ((y : Int) = 0) = False := eq_false (by omega)
    have hm := Nat.mod_lt x hy
    have w1 : w32 (Int.tmod (x : Int) (y : Int)) = ((x % y : Nat) : Int) := by rw [tmodN]; exact w32_id ⟨by omega, by omega⟩
    have w2 : w32 ((i : Int) + 1) = ((i + 1 : Nat) : Int) := by rw [w32_id ⟨by omega, by omega⟩]; omega
    have hq := hn (0, ((x % y : Nat) : Int))
    rw [h100_11]
    simp only [YK, c100, t100, tgK, lyK, rkK, wK, rfK, qRes_eq, qNon_eq, qup_ap, vup_ap, vcpy_ap, kc8_0, kc8_1, kc8_2, lc_lt, lc_gt, lc_eq, Option.toList_some, Option.toList_none, List.cons_append, List.nil_append, lay_len, lay_sz, Nat.reduceAdd, Nat.reduceSub, Nat.reduceMul, Int.reduceToNat, Int.reduceLE, Int.reduceLT, Int.reduceEq, Int.reduceAdd, Int.reduceSub, Int.reduceMul, Int.reduceNeg, Nat.reduceLeDiff, Nat.reduceLT, true_and, and_true, false_and, and_false, qcat_0, qcat_1, qcat_3, qcat_9, Nat.reduceEqDiff, if_true, if_false, ite_self, or_true, true_or, or_false, false_or, forall_const, not_true_eq_false, not_false_eq_true, false_implies, implies_true, qtK0, qtK1, qtK2, qtK3, qtK4, List.getD_cons_zero, List.getD_cons_succ, Int.toNat_natCast, ne_eq, qcK, hbF, bsetF, bclrF, c1, c', w1, w2]
    exact hq
  have hloop : ∀ (k x y i : Nat) (v : qV), y < 2 ^ k → i + 2 * k ≤ 64 → x ≤ 1000000 → y ≤ 1000000 → Nat.gcd x y = Nat.gcd t.natAbs b → qW tb 100 (119, 1262) 11 [(0, t), (0, (b : Int)), (0, up), (0, (x : Int)), (0, (y : Int)), (0, (i : Int)), v] [] (LAY, F) R := by
    intro k
    induction k with
    | zero =>
      intro x y i v hy hi hx hy2 hg2
      have : y = 0 := by omega
      subst this
      rw [Nat.gcd_zero_right] at hg2
      exact hexit x i v (by omega) hg2
    | succ k ih =>
      intro x y i v hy hi hx hy2 hg2
      by_cases c0 : y = 0
      · subst c0
        rw [Nat.gcd_zero_right] at hg2
        exact hexit x i v (by omega) hg2
      · refine hstep x y i v (by omega) (by omega) hy2 ?_
        intro v2
        have hm := Nat.mod_lt x (by omega : y > 0)
        by_cases c1 : x % y = 0
        · have := gcd_step (x := x) (y := y)
          rw [c1, Nat.gcd_zero_right, hg2] at this
          rw [c1]
          exact hexit y (i + 1) v2 (by omega) this
        · refine hstep y (x % y) (i + 1) v2 (by omega) (by omega) (by omega) ?_
          intro v3
          have hh := half_step (y := y) (r := x % y) (by omega) hm
          refine ih (x % y) (y % (x % y)) (i + 1 + 1) v3 ?_ (by omega) (by omega) (by omega) (by rw [gcd_step, gcd_step]; exact hg2)
          rw [Nat.pow_succ] at hy
          omega
  have e64 : ((0 : Nat) : Int) = 0 := rfl
  by_cases c : 0 ≤ t
  · have w1 : t = ((t.natAbs : Nat) : Int) := by omega
    have hq := hloop 32 t.natAbs b 0 (9, 0) (by omega) (by omega) (by omega) (by omega) rfl
    rw [← w1] at hq
    simp only [YK, c100, t100, tgK, lyK, rkK, wK, rfK, qRes_eq, qNon_eq, qup_ap, vup_ap, vcpy_ap, kc8_0, kc8_1, kc8_2, lc_lt, lc_gt, lc_eq, Option.toList_some, Option.toList_none, List.cons_append, List.nil_append, lay_len, lay_sz, Nat.reduceAdd, Nat.reduceSub, Nat.reduceMul, Int.reduceToNat, Int.reduceLE, Int.reduceLT, Int.reduceEq, Int.reduceAdd, Int.reduceSub, Int.reduceMul, Int.reduceNeg, Nat.reduceLeDiff, Nat.reduceLT, true_and, and_true, false_and, and_false, qcat_0, qcat_1, qcat_3, qcat_9, Nat.reduceEqDiff, if_true, if_false, ite_self, or_true, true_or, or_false, false_or, forall_const, not_true_eq_false, not_false_eq_true, false_implies, implies_true, qtK0, qtK1, qtK2, qtK3, qtK4, List.getD_cons_zero, List.getD_cons_succ, Int.toNat_natCast, ne_eq, qcK, hbF, bsetF, bclrF, c]
    exact hq
  · have w1 : w32 (0 - t) = ((t.natAbs : Nat) : Int) := by rw [w32_id ⟨by omega, by omega⟩]; omega
    have hq := hloop 32 t.natAbs b 0 (9, 0) (by omega) (by omega) (by omega) (by omega) rfl
    simp only [YK, c100, t100, tgK, lyK, rkK, wK, rfK, qRes_eq, qNon_eq, qup_ap, vup_ap, vcpy_ap, kc8_0, kc8_1, kc8_2, lc_lt, lc_gt, lc_eq, Option.toList_some, Option.toList_none, List.cons_append, List.nil_append, lay_len, lay_sz, Nat.reduceAdd, Nat.reduceSub, Nat.reduceMul, Int.reduceToNat, Int.reduceLE, Int.reduceLT, Int.reduceEq, Int.reduceAdd, Int.reduceSub, Int.reduceMul, Int.reduceNeg, Nat.reduceLeDiff, Nat.reduceLT, true_and, and_true, false_and, and_false, qcat_0, qcat_1, qcat_3, qcat_9, Nat.reduceEqDiff, if_true, if_false, ite_self, or_true, true_or, or_false, false_or, forall_const, not_true_eq_false, not_false_eq_true, false_implies, implies_true, qtK0, qtK1, qtK2, qtK3, qtK4, List.getD_cons_zero, List.getD_cons_succ, Int.toNat_natCast, ne_eq, qcK, hbF, bsetF, bclrF, c, w1]
    exact hq
def pwT (x : Int) : Nat → Int
  | 0 => 1
  | k + 1 => w32 (pwT x k * x)
theorem r107 {tb : qTb} {F : XT} {R : Option qV → qM → Prop} (x : Int) (n : Nat) (hn : n ≤ 100) (hk : R (some (0, pwT x n)) (LAY, F)) : qW tb 107 (119, 1262) 0 [(0, x), (0, (n : Int)), (9, 0), (9, 0)] [] (LAY, F) R := by
  have hloop : ∀ (m k : Nat), k + m = n → qW tb 107 (119, 1262) 4 [(0, x), (0, (n : Int)), (0, pwT x k), (0, (k : Int))] [] (LAY, F) R := by
    intro m
    induction m with
    | zero =>
      intro k hm
      have ek : k = n := by omega
      subst ek
      have b1 : ((k : Int) < (k : Int)) = False := eq_false (by omega)
      rw [h107_4]
      simp only [YK, c107, t107, tgK, lyK, rkK, wK, rfK, qRes_eq, qNon_eq, qup_ap, vup_ap, vcpy_ap, kc8_0, kc8_1, kc8_2, lc_lt, lc_gt, lc_eq, Option.toList_some, Option.toList_none, List.cons_append, List.nil_append, lay_len, lay_sz, Nat.reduceAdd, Nat.reduceSub, Nat.reduceMul, Int.reduceToNat, Int.reduceLE, Int.reduceLT, Int.reduceEq, Int.reduceAdd, Int.reduceSub, Int.reduceMul, Int.reduceNeg, Nat.reduceLeDiff, Nat.reduceLT, true_and, and_true, false_and, and_false, qcat_0, qcat_1, qcat_3, qcat_9, Nat.reduceEqDiff, if_true, if_false, ite_self, or_true, true_or, or_false, false_or, forall_const, not_true_eq_false, not_false_eq_true, false_implies, implies_true, qtK0, qtK1, qtK2, qtK3, qtK4, List.getD_cons_zero, List.getD_cons_succ, Int.toNat_natCast, ne_eq, qcK, hbF, bsetF, bclrF, b1]
      exact hk
    | succ m ih =>
      intro k hm
      have b1 : ((k : Int) < (n : Int)) = True := eq_true (by omega)
      have w1 : w32 ((k : Int) + 1) = ((k + 1 : Nat) : Int) := by rw [w32_id ⟨by omega, by omega⟩]; omega
      have hi := ih (k + 1) (by omega)
      unfold pwT at hi
      rw [h107_4]
      simp only [YK, c107, t107, tgK, lyK, rkK, wK, rfK, qRes_eq, qNon_eq, qup_ap, vup_ap, vcpy_ap, kc8_0, kc8_1, kc8_2, lc_lt, lc_gt, lc_eq, Option.toList_some, Option.toList_none, List.cons_append, List.nil_append, lay_len, lay_sz, Nat.reduceAdd, Nat.reduceSub, Nat.reduceMul, Int.reduceToNat, Int.reduceLE, Int.reduceLT, Int.reduceEq, Int.reduceAdd, Int.reduceSub, Int.reduceMul, Int.reduceNeg, Nat.reduceLeDiff, Nat.reduceLT, true_and, and_true, false_and, and_false, qcat_0, qcat_1, qcat_3, qcat_9, Nat.reduceEqDiff, if_true, if_false, ite_self, or_true, true_or, or_false, false_or, forall_const, not_true_eq_false, not_false_eq_true, false_implies, implies_true, qtK0, qtK1, qtK2, qtK3, qtK4, List.getD_cons_zero, List.getD_cons_succ, Int.toNat_natCast, ne_eq, qcK, hbF, bsetF, bclrF, b1, w1]
      exact hi
  simp only [YK, c107, t107, tgK, lyK, rkK, wK, rfK, qRes_eq, qNon_eq, qup_ap, vup_ap, vcpy_ap, kc8_0, kc8_1, kc8_2, lc_lt, lc_gt, lc_eq, Option.toList_some, Option.toList_none, List.cons_append, List.nil_append, lay_len, lay_sz, Nat.reduceAdd, Nat.reduceSub, Nat.reduceMul, Int.reduceToNat, Int.reduceLE, Int.reduceLT, Int.reduceEq, Int.reduceAdd, Int.reduceSub, Int.reduceMul, Int.reduceNeg, Nat.reduceLeDiff, Nat.reduceLT, true_and, and_true, false_and, and_false, qcat_0, qcat_1, qcat_3, qcat_9, Nat.reduceEqDiff, if_true, if_false, ite_self, or_true, true_or, or_false, false_or, forall_const, not_true_eq_false, not_false_eq_true, false_implies, implies_true, qtK0, qtK1, qtK2, qtK3, qtK4, List.getD_cons_zero, List.getD_cons_succ, Int.toNat_natCast, ne_eq, qcK, hbF, bsetF, bclrF]
  exact hloop n 0 (by omega)
def chT (s x : Int) : Nat → Int
  | 0 => 1
  | k + 1 => w32 (chT s x k * (if hbit s (k : Int) = 1 then x else w32 (10 - x)))
theorem k98 {tb : qTb} {F : XT} {R : Option qV → qM → Prop} (hf : Rf F) (s x : Int) (n : Nat) (h3 : F 3 0 = (n : Int)) (hn : n ≤ 4) (hk : R (some (0, chT s x n)) (LAY, F)) : qW tb 98 (119, 1262) 0 [(3, 0), (0, s), (0, x), (9, 0), (9, 0)] [] (LAY, F) R := by
  have hr := Rf_k hf
  have hloop : ∀ (m k : Nat), k + m = n → qW tb 98 (119, 1262) 5 [(3, 0), (0, s), (0, x), (0, chT s x k), (0, (k : Int))] [] (LAY, F) R := by
    intro m
    induction m with
    | zero =>
      intro k hm
      have ek : k = n := by omega
      subst ek
      have b1 : ((k : Int) < (k : Int)) = False := eq_false (by omega)
      rw [h98_5]
      simp only [YK, c98, t98, tgK, lyK, rkK, wK, rfK, hr, qRes_eq, qNon_eq, qup_ap, vup_ap, vcpy_ap, kc8_0, kc8_1, kc8_2, lc_lt, lc_gt, lc_eq, Option.toList_some, Option.toList_none, List.cons_append, List.nil_append, lay_len, lay_sz, Nat.reduceAdd, Nat.reduceSub, Nat.reduceMul, Int.reduceToNat, Int.reduceLE, Int.reduceLT, Int.reduceEq, Int.reduceAdd, Int.reduceSub, Int.reduceMul, Int.reduceNeg, Nat.reduceLeDiff, Nat.reduceLT, true_and, and_true, false_and, and_false, qcat_0, qcat_1, qcat_3, qcat_9, Nat.reduceEqDiff, if_true, if_false, ite_self, or_true, true_or, or_false, false_or, forall_const, not_true_eq_false, not_false_eq_true, false_implies, implies_true, qtK0, qtK1, qtK2, qtK3, qtK4, List.getD_cons_zero, List.getD_cons_succ, Int.toNat_natCast, ne_eq, qcK, hbF, bsetF, bclrF, h3, b1]
      exact hk
    | succ m ih =>
      intro k hm
      have b1 : ((k : Int) < (n : Int)) = True := eq_true (by omega)
      have w1 : w32 ((k : Int) + 1) = ((k + 1 : Nat) : Int) := by rw [w32_id ⟨by omega, by omega⟩]; omega
      have hi := ih (k + 1) (by omega)
      unfold chT at hi
      rw [h98_5]
      by_cases c : hbit s (k : Int) = 1
      · rw [if_pos c] at hi
        simp only [YK, c98, t98, tgK, lyK, rkK, wK, rfK, hr, qRes_eq, qNon_eq, qup_ap, vup_ap, vcpy_ap, kc8_0, kc8_1, kc8_2, lc_lt, lc_gt, lc_eq, Option.toList_some, Option.toList_none, List.cons_append, List.nil_append, lay_len, lay_sz, Nat.reduceAdd, Nat.reduceSub, Nat.reduceMul, Int.reduceToNat, Int.reduceLE, Int.reduceLT, Int.reduceEq, Int.reduceAdd, Int.reduceSub, Int.reduceMul, Int.reduceNeg, Nat.reduceLeDiff, Nat.reduceLT, true_and, and_true, false_and, and_false, qcat_0, qcat_1, qcat_3, qcat_9, Nat.reduceEqDiff, if_true, if_false, ite_self, or_true, true_or, or_false, false_or, forall_const, not_true_eq_false, not_false_eq_true, false_implies, implies_true, qtK0, qtK1, qtK2, qtK3, qtK4, List.getD_cons_zero, List.getD_cons_succ, Int.toNat_natCast, ne_eq, qcK, hbF, bsetF, bclrF, h3, b1, w1, c]
        exact hi
      · rw [if_neg c] at hi
        simp only [YK, c98, t98, tgK, lyK, rkK, wK, rfK, hr, qRes_eq, qNon_eq, qup_ap, vup_ap, vcpy_ap, kc8_0, kc8_1, kc8_2, lc_lt, lc_gt, lc_eq, Option.toList_some, Option.toList_none, List.cons_append, List.nil_append, lay_len, lay_sz, Nat.reduceAdd, Nat.reduceSub, Nat.reduceMul, Int.reduceToNat, Int.reduceLE, Int.reduceLT, Int.reduceEq, Int.reduceAdd, Int.reduceSub, Int.reduceMul, Int.reduceNeg, Nat.reduceLeDiff, Nat.reduceLT, true_and, and_true, false_and, and_false, qcat_0, qcat_1, qcat_3, qcat_9, Nat.reduceEqDiff, if_true, if_false, ite_self, or_true, true_or, or_false, false_or, forall_const, not_true_eq_false, not_false_eq_true, false_implies, implies_true, qtK0, qtK1, qtK2, qtK3, qtK4, List.getD_cons_zero, List.getD_cons_succ, Int.toNat_natCast, ne_eq, qcK, hbF, bsetF, bclrF, h3, b1, w1, c]
        exact hi
  simp only [YK, c98, t98, tgK, lyK, rkK, wK, rfK, hr, qRes_eq, qNon_eq, qup_ap, vup_ap, vcpy_ap, kc8_0, kc8_1, kc8_2, lc_lt, lc_gt, lc_eq, Option.toList_some, Option.toList_none, List.cons_append, List.nil_append, lay_len, lay_sz, Nat.reduceAdd, Nat.reduceSub, Nat.reduceMul, Int.reduceToNat, Int.reduceLE, Int.reduceLT, Int.reduceEq, Int.reduceAdd, Int.reduceSub, Int.reduceMul, Int.reduceNeg, Nat.reduceLeDiff, Nat.reduceLT, true_and, and_true, false_and, and_false, qcat_0, qcat_1, qcat_3, qcat_9, Nat.reduceEqDiff, if_true, if_false, ite_self, or_true, true_or, or_false, false_or, forall_const, not_true_eq_false, not_false_eq_true, false_implies, implies_true, qtK0, qtK1, qtK2, qtK3, qtK4, List.getD_cons_zero, List.getD_cons_succ, Int.toNat_natCast, ne_eq, qcK, hbF, bsetF, bclrF, h3]
  exact hloop n 0 (by omega)
theorem ch_pw : ∀ n : Fin 5, ∀ s : Fin 16, ∀ x : Fin 11, s.val < 2 ^ n.val → chT ((s : Nat) : Int) ((x : Nat) : Int) n = w32 (pwT ((x : Nat) : Int) (pOnes ((s : Nat) : Int)).toNat * pwT (w32 (10 - ((x : Nat) : Int))) (w32 (((n : Nat) : Int) - pOnes ((s : Nat) : Int))).toNat) ∧ 0 ≤ chT ((s : Nat) : Int) ((x : Nat) : Int) n ∧ chT ((s : Nat) : Int) ((x : Nat) : Int) n ≤ 10000 ∧ 0 ≤ pOnes ((s : Nat) : Int) ∧ pOnes ((s : Nat) : Int) ≤ ((n : Nat) : Int) := by decide +kernel
theorem sh_v : ∀ n : Nat, n < 5 → sh (n : Int) = ((2 ^ n : Nat) : Int) := by decide +kernel
theorem pw10 : ∀ n : Fin 5, 0 < pwT 10 n ∧ pwT 10 n ≤ 10000 := by decide +kernel
def cmT (F : XT) (n ns na : Nat) (x : Int) : Nat → Int
  | 0 => 0
  | k + 1 => w32 (cmT F n ns na x k + (if mT (pRunT n ns na 80 (runM F (k : Int), L0)).1 2 na = (na : Int) then chT (k : Int) x n else 0))
theorem cmT_r (F : XT) {n : Nat} (ns na : Nat) {x : Nat} (hn : n ≤ 4) (hx : x ≤ 10) : ∀ k : Nat, k ≤ 2 ^ n → 0 ≤ cmT F n ns na (x : Int) k ∧ cmT F n ns na (x : Int) k ≤ 10000 * (k : Int) := by
  have h16 : 2 ^ n ≤ 16 := by
    have : n = 0 ∨ n = 1 ∨ n = 2 ∨ n = 3 ∨ n = 4 := by omega
    rcases this with rfl | rfl | rfl | rfl | rfl <;> decide
  intro k
  induction k with
  | zero => intro _; exact ⟨Int.le_refl _, Int.le_refl _⟩
  | succ k ih =>
    intro hk
    have hi := ih (by omega)
    have hc := ch_pw ⟨n, by omega⟩ ⟨k, by omega⟩ ⟨x, by omega⟩ (by dsimp only; omega)
    dsimp only at hc
    unfold cmT
    split
    · rw [w32_id ⟨by omega, by omega⟩]; omega
    · rw [w32_id ⟨by omega, by omega⟩]; omega
theorem k88 {tb : qTb} {F : XT} {n ns na x : Nat} {up : Int} {R : Option qV → qM → Prop} (hA : FA) (hR : Rel F) (hd : DN F n ns na) (hn4 : n ≤ 4) (hna : na ≤ 12) (hx10 : x ≤ 10) (hk : ∀ G, CFr F G → R (some (0, frV (cmT F n ns na (x : Int) (2 ^ n)) (pwT 10 n) up)) (LAY, G)) : qW tb 88 (119, 1262) 0 [(3, 0), (0, (x : Int)), (0, up), (9, 0), (9, 0), (9, 0), (9, 0), (9, 0)] [] (LAY, F) R := by
  have h16 : 1 ≤ 2 ^ n ∧ 2 ^ n ≤ 16 := by
    have : n = 0 ∨ n = 1 ∨ n = 2 ∨ n = 3 ∨ n = 4 := by omega
    rcases this with rfl | rfl | rfl | rfl | rfl <;> decide
  have hpw := pw10 ⟨n, by omega⟩
  dsimp only at hpw
  obtain ⟨bw, hbw⟩ : ∃ k : Nat, pwT 10 n = (k : Int) := ⟨(pwT 10 n).toNat, by omega⟩
  have hloop : ∀ (m k : Nat) (G : XT) (v : qV), k + m = 2 ^ n → CFr F G → qW tb 88 (119, 1262) 62 [(3, 0), (0, (x : Int)), (0, up), (0, ((2 ^ n : Nat) : Int) - 1), (0, cmT F n ns na (x : Int) k), (0, pwT 10 n), (0, (k : Int)), v] [] (LAY, G) R := by
    intro m
    induction m with
    | zero =>
      intro k G v hm hG
      have ek : k = 2 ^ n := by omega
      have b1 : (((2 ^ n : Nat) : Int) - 1 < (k : Int)) = True := eq_true (by omega)
      have hq := hk G hG
      have hr2 := cmT_r F ns na hn4 hx10 k (by omega)
      rw [← ek, hbw] at hq
      rw [hbw, h88_62]
      simp only [YK, c88, t88, cl100, tgK, lyK, rkK, wK, rfK, qRes_eq, qNon_eq, qup_ap, vup_ap, vcpy_ap, kc8_0, kc8_1, kc8_2, lc_lt, lc_gt, lc_eq, Option.toList_some, Option.toList_none, List.cons_append, List.nil_append, lay_len, lay_sz, Nat.reduceAdd, Nat.reduceSub, Nat.reduceMul, Int.reduceToNat, Int.reduceLE, Int.reduceLT, Int.reduceEq, Int.reduceAdd, Int.reduceSub, Int.reduceMul, Int.reduceNeg, Nat.reduceLeDiff, Nat.reduceLT, true_and, and_true, false_and, and_false, qcat_0, qcat_1, qcat_3, qcat_9, Nat.reduceEqDiff, if_true, if_false, ite_self, or_true, true_or, or_false, false_or, forall_const, not_true_eq_false, not_false_eq_true, false_implies, implies_true, qtK0, qtK1, qtK2, qtK3, qtK4, List.getD_cons_zero, List.getD_cons_succ, Int.toNat_natCast, ne_eq, qcK, hbF, bsetF, bclrF, b1]
      refine k100 _ bw up (by omega) (by omega) ?_
      simp only [YK, c88, t88, tgK, lyK, rkK, wK, rfK, qRes_eq, qNon_eq, qup_ap, vup_ap, vcpy_ap, kc8_0, kc8_1, kc8_2, lc_lt, lc_gt, lc_eq, Option.toList_some, Option.toList_none, List.cons_append, List.nil_append, lay_len, lay_sz, Nat.reduceAdd, Nat.reduceSub, Nat.reduceMul, Int.reduceToNat, Int.reduceLE, Int.reduceLT, Int.reduceEq, Int.reduceAdd, Int.reduceSub, Int.reduceMul, Int.reduceNeg, Nat.reduceLeDiff, Nat.reduceLT, true_and, and_true, false_and, and_false, qcat_0, qcat_1, qcat_3, qcat_9, Nat.reduceEqDiff, if_true, if_false, ite_self, or_true, true_or, or_false, false_or, forall_const, not_true_eq_false, not_false_eq_true, false_implies, implies_true, qtK0, qtK1, qtK2, qtK3, qtK4, List.getD_cons_zero, List.getD_cons_succ, Int.toNat_natCast, ne_eq, qcK, hbF, bsetF, bclrF]
      exact hq
    | succ m ih =>
      intro k G v hm hG
      have hr := Rf_k hG.1
      have g3 : G 3 0 = (n : Int) := by rw [hG.2 3 (by unfold fx; decide)]; exact hd.1
      have b1 : (((2 ^ n : Nat) : Int) - 1 < (k : Int)) = False := eq_false (by omega)
      have w1 : w32 ((k : Int) + 1) = ((k + 1 : Nat) : Int) := by rw [w32_id ⟨by omega, by omega⟩]; omega
      have hc := ch_pw ⟨n, by omega⟩ ⟨k, by omega⟩ ⟨x, by omega⟩ (by dsimp only; omega)
      dsimp only at hc
      have hr2 := cmT_r F ns na hn4 hx10 k (by omega)
      have hi := fun G v hG => ih (k + 1) G v (by omega) hG
      unfold cmT at hi
      rw [h88_62]
      simp only [YK, c88, t88, cl98, tgK, lyK, rkK, wK, rfK, hr, qRes_eq, qNon_eq, qup_ap, vup_ap, vcpy_ap, kc8_0, kc8_1, kc8_2, lc_lt, lc_gt, lc_eq, Option.toList_some, Option.toList_none, List.cons_append, List.nil_append, lay_len, lay_sz, Nat.reduceAdd, Nat.reduceSub, Nat.reduceMul, Int.reduceToNat, Int.reduceLE, Int.reduceLT, Int.reduceEq, Int.reduceAdd, Int.reduceSub, Int.reduceMul, Int.reduceNeg, Nat.reduceLeDiff, Nat.reduceLT, true_and, and_true, false_and, and_false, qcat_0, qcat_1, qcat_3, qcat_9, Nat.reduceEqDiff, if_true, if_false, ite_self, or_true, true_or, or_false, false_or, forall_const, not_true_eq_false, not_false_eq_true, false_implies, implies_true, qtK0, qtK1, qtK2, qtK3, qtK4, List.getD_cons_zero, List.getD_cons_succ, Int.toNat_natCast, ne_eq, qcK, hbF, bsetF, bclrF, b1]
      refine k98 hG.1 (k : Int) (x : Int) n g3 hn4 ?_
      by_cases c0 : 0 < chT (k : Int) (x : Int) n
      · simp only [YK, c88, t88, cl8, tgK, lyK, rkK, wK, rfK, hr, qRes_eq, qNon_eq, qup_ap, vup_ap, vcpy_ap, kc8_0, kc8_1, kc8_2, lc_lt, lc_gt, lc_eq, Option.toList_some, Option.toList_none, List.cons_append, List.nil_append, lay_len, lay_sz, Nat.reduceAdd, Nat.reduceSub, Nat.reduceMul, Int.reduceToNat, Int.reduceLE, Int.reduceLT, Int.reduceEq, Int.reduceAdd, Int.reduceSub, Int.reduceMul, Int.reduceNeg, Nat.reduceLeDiff, Nat.reduceLT, true_and, and_true, false_and, and_false, qcat_0, qcat_1, qcat_3, qcat_9, Nat.reduceEqDiff, if_true, if_false, ite_self, or_true, true_or, or_false, false_or, forall_const, not_true_eq_false, not_false_eq_true, false_implies, implies_true, qtK0, qtK1, qtK2, qtK3, qtK4, List.getD_cons_zero, List.getD_cons_succ, Int.toNat_natCast, ne_eq, qcK, hbF, bsetF, bclrF, c0]
        refine c_runm hA hR hd hG (k : Int) (k : Int) (Or.inr ⟨by omega, rfl⟩) ?_
        clear hr
        intro G2 hC hG2
        have hr := Rf_k hG2.1
        have hi2 := hi G2 (0, chT (k : Int) (x : Int) n) hG2
        have g32 : G2 3 2 = (na : Int) := by rw [hG2.2 3 (by unfold fx; decide)]; exact hd.2.2
        unfold CC at hC
        simp only [YK, c88, t88, cl26, tgK, lyK, rkK, wK, rfK, hr, qRes_eq, qNon_eq, qup_ap, vup_ap, vcpy_ap, kc8_0, kc8_1, kc8_2, lc_lt, lc_gt, lc_eq, Option.toList_some, Option.toList_none, List.cons_append, List.nil_append, lay_len, lay_sz, Nat.reduceAdd, Nat.reduceSub, Nat.reduceMul, Int.reduceToNat, Int.reduceLE, Int.reduceLT, Int.reduceEq, Int.reduceAdd, Int.reduceSub, Int.reduceMul, Int.reduceNeg, Nat.reduceLeDiff, Nat.reduceLT, true_and, and_true, false_and, and_false, qcat_0, qcat_1, qcat_3, qcat_9, Nat.reduceEqDiff, if_true, if_false, ite_self, or_true, true_or, or_false, false_or, forall_const, not_true_eq_false, not_false_eq_true, false_implies, implies_true, qtK0, qtK1, qtK2, qtK3, qtK4, List.getD_cons_zero, List.getD_cons_succ, Int.toNat_natCast, ne_eq, qcK, hbF, bsetF, bclrF]
        refine k26 hC 2 na (by rw [hG.2 3 (by unfold fx; decide)]; exact hd.2.2) hna ?_
        by_cases c : mT (pRunT n ns na 80 (runM F (k : Int), L0)).1 2 na = (na : Int)
        · rw [if_pos c] at hi2
          simp only [YK, c88, t88, tgK, lyK, rkK, wK, rfK, hr, qRes_eq, qNon_eq, qup_ap, vup_ap, vcpy_ap, kc8_0, kc8_1, kc8_2, lc_lt, lc_gt, lc_eq, Option.toList_some, Option.toList_none, List.cons_append, List.nil_append, lay_len, lay_sz, Nat.reduceAdd, Nat.reduceSub, Nat.reduceMul, Int.reduceToNat, Int.reduceLE, Int.reduceLT, Int.reduceEq, Int.reduceAdd, Int.reduceSub, Int.reduceMul, Int.reduceNeg, Nat.reduceLeDiff, Nat.reduceLT, true_and, and_true, false_and, and_false, qcat_0, qcat_1, qcat_3, qcat_9, Nat.reduceEqDiff, if_true, if_false, ite_self, or_true, true_or, or_false, false_or, forall_const, not_true_eq_false, not_false_eq_true, false_implies, implies_true, qtK0, qtK1, qtK2, qtK3, qtK4, List.getD_cons_zero, List.getD_cons_succ, Int.toNat_natCast, ne_eq, qcK, hbF, bsetF, bclrF, g32, c, w1]
          exact hi2
        · rw [if_neg c] at hi2
          simp only [YK, c88, t88, tgK, lyK, rkK, wK, rfK, hr, qRes_eq, qNon_eq, qup_ap, vup_ap, vcpy_ap, kc8_0, kc8_1, kc8_2, lc_lt, lc_gt, lc_eq, Option.toList_some, Option.toList_none, List.cons_append, List.nil_append, lay_len, lay_sz, Nat.reduceAdd, Nat.reduceSub, Nat.reduceMul, Int.reduceToNat, Int.reduceLE, Int.reduceLT, Int.reduceEq, Int.reduceAdd, Int.reduceSub, Int.reduceMul, Int.reduceNeg, Nat.reduceLeDiff, Nat.reduceLT, true_and, and_true, false_and, and_false, qcat_0, qcat_1, qcat_3, qcat_9, Nat.reduceEqDiff, if_true, if_false, ite_self, or_true, true_or, or_false, false_or, forall_const, not_true_eq_false, not_false_eq_true, false_implies, implies_true, qtK0, qtK1, qtK2, qtK3, qtK4, List.getD_cons_zero, List.getD_cons_succ, Int.toNat_natCast, ne_eq, qcK, hbF, bsetF, bclrF, g32, c, w1]
          exact hi2
      · have e0 : chT (k : Int) (x : Int) n = 0 := by omega
        have hi2 := hi G (0, chT (k : Int) (x : Int) n) hG
        rw [e0, ite_self, Int.add_zero, w32_id ⟨by omega, by omega⟩] at hi2
        rw [e0]
        simp only [YK, c88, t88, tgK, lyK, rkK, wK, rfK, qRes_eq, qNon_eq, qup_ap, vup_ap, vcpy_ap, kc8_0, kc8_1, kc8_2, lc_lt, lc_gt, lc_eq, Option.toList_some, Option.toList_none, List.cons_append, List.nil_append, lay_len, lay_sz, Nat.reduceAdd, Nat.reduceSub, Nat.reduceMul, Int.reduceToNat, Int.reduceLE, Int.reduceLT, Int.reduceEq, Int.reduceAdd, Int.reduceSub, Int.reduceMul, Int.reduceNeg, Nat.reduceLeDiff, Nat.reduceLT, true_and, and_true, false_and, and_false, qcat_0, qcat_1, qcat_3, qcat_9, Nat.reduceEqDiff, if_true, if_false, ite_self, or_true, true_or, or_false, false_or, forall_const, not_true_eq_false, not_false_eq_true, false_implies, implies_true, qtK0, qtK1, qtK2, qtK3, qtK4, List.getD_cons_zero, List.getD_cons_succ, Int.toNat_natCast, ne_eq, qcK, hbF, bsetF, bclrF, w1]
        exact hi2
  have hr := Rf_k hR.1
  have hw : ∀ (m k : Nat) (v : qV), k + m = n → qW tb 88 (119, 1262) 34 [(3, 0), (0, (x : Int)), (0, up), (0, ((2 ^ n : Nat) : Int) - 1), (0, 0), (0, pwT 10 k), (0, (k : Int)), v] [] (LAY, F) R := by
    intro m
    induction m with
    | zero =>
      intro k v hm
      have ek : k = n := by omega
      subst ek
      have b1 : ((k : Int) < (k : Int)) = False := eq_false (by omega)
      have hq := hloop (2 ^ k) 0 F v (by omega) ⟨hR.1, fun _ _ => rfl⟩
      have g3 := hd.1
      rw [h88_34]
      simp only [YK, c88, t88, tgK, lyK, rkK, wK, rfK, hr, qRes_eq, qNon_eq, qup_ap, vup_ap, vcpy_ap, kc8_0, kc8_1, kc8_2, lc_lt, lc_gt, lc_eq, Option.toList_some, Option.toList_none, List.cons_append, List.nil_append, lay_len, lay_sz, Nat.reduceAdd, Nat.reduceSub, Nat.reduceMul, Int.reduceToNat, Int.reduceLE, Int.reduceLT, Int.reduceEq, Int.reduceAdd, Int.reduceSub, Int.reduceMul, Int.reduceNeg, Nat.reduceLeDiff, Nat.reduceLT, true_and, and_true, false_and, and_false, qcat_0, qcat_1, qcat_3, qcat_9, Nat.reduceEqDiff, if_true, if_false, ite_self, or_true, true_or, or_false, false_or, forall_const, not_true_eq_false, not_false_eq_true, false_implies, implies_true, qtK0, qtK1, qtK2, qtK3, qtK4, List.getD_cons_zero, List.getD_cons_succ, Int.toNat_natCast, ne_eq, qcK, hbF, bsetF, bclrF, g3, b1]
      exact hq
    | succ m ih =>
      intro k v hm
      have b1 : ((k : Int) < (n : Int)) = True := eq_true (by omega)
      have w1 : w32 ((k : Int) + 1) = ((k + 1 : Nat) : Int) := by rw [w32_id ⟨by omega, by omega⟩]; omega
      have hi := ih (k + 1) v (by omega)
      unfold pwT at hi
      have g3 := hd.1
      rw [h88_34]
      simp only [YK, c88, t88, tgK, lyK, rkK, wK, rfK, hr, qRes_eq, qNon_eq, qup_ap, vup_ap, vcpy_ap, kc8_0, kc8_1, kc8_2, lc_lt, lc_gt, lc_eq, Option.toList_some, Option.toList_none, List.cons_append, List.nil_append, lay_len, lay_sz, Nat.reduceAdd, Nat.reduceSub, Nat.reduceMul, Int.reduceToNat, Int.reduceLE, Int.reduceLT, Int.reduceEq, Int.reduceAdd, Int.reduceSub, Int.reduceMul, Int.reduceNeg, Nat.reduceLeDiff, Nat.reduceLT, true_and, and_true, false_and, and_false, qcat_0, qcat_1, qcat_3, qcat_9, Nat.reduceEqDiff, if_true, if_false, ite_self, or_true, true_or, or_false, false_or, forall_const, not_true_eq_false, not_false_eq_true, false_implies, implies_true, qtK0, qtK1, qtK2, qtK3, qtK4, List.getD_cons_zero, List.getD_cons_succ, Int.toNat_natCast, ne_eq, qcK, hbF, bsetF, bclrF, g3, b1, w1]
      exact hi
  have d1 : ((x : Int) < 0) = False := eq_false (by omega)
  have d2 : (10 < (x : Int)) = False := eq_false (by omega)
  have hs := sh_v n (by omega)
  have w0 : w32 (((2 ^ n : Nat) : Int) - 1) = ((2 ^ n : Nat) : Int) - 1 := w32_id ⟨by omega, by omega⟩
  have hq := hw n 0 (9, 0) (by omega)
  have g3 := hd.1
  simp only [YK, c88, t88, tgK, lyK, rkK, wK, rfK, hr, qRes_eq, qNon_eq, qup_ap, vup_ap, vcpy_ap, kc8_0, kc8_1, kc8_2, lc_lt, lc_gt, lc_eq, Option.toList_some, Option.toList_none, List.cons_append, List.nil_append, lay_len, lay_sz, Nat.reduceAdd, Nat.reduceSub, Nat.reduceMul, Int.reduceToNat, Int.reduceLE, Int.reduceLT, Int.reduceEq, Int.reduceAdd, Int.reduceSub, Int.reduceMul, Int.reduceNeg, Nat.reduceLeDiff, Nat.reduceLT, true_and, and_true, false_and, and_false, qcat_0, qcat_1, qcat_3, qcat_9, Nat.reduceEqDiff, if_true, if_false, ite_self, or_true, true_or, or_false, false_or, forall_const, not_true_eq_false, not_false_eq_true, false_implies, implies_true, qtK0, qtK1, qtK2, qtK3, qtK4, List.getD_cons_zero, List.getD_cons_succ, Int.toNat_natCast, ne_eq, qcK, hbF, bsetF, bclrF, d1, d2, g3, shF, hs, w0]
  exact hq
theorem r174 {tb : qTb} {F F1 : XT} {n ns na x : Nat} {up : Int} {R : Option qV → qM → Prop} (hA : FA) (hR : Rel F) (hd : DN F n ns na) (hx10 : x ≤ 10) (hR1 : Rel F1) (h9 : ∀ c : Nat, 69 ≤ c → F1 c = F c) (hk : ∀ G, Rel G → R (some (0, frV (cmT F n ns na (x : Int) (2 ^ n)) (pwT 10 n) up)) (LAY, G)) : qW tb 174 (119, 1262) 0 [(3, 69), (0, (x : Int)), (0, up), (9, 0), (9, 0)] [] (LAY, F1) R := by
  have hD := hR.2.2.1
  have g2 : F 69 2 = (n : Int) := by rw [hD.1.1]; exact hd.1
  have g3 : F 69 3 = (na : Int) := by rw [hD.2.1.1]; exact hd.2.2
  have hn4 : n ≤ 4 := by have := hD.1; have := hd.1; omega
  have hna : na ≤ 12 := by have := hD.2.1; have := hd.2.2; omega
  have h16 : 1 ≤ 2 ^ n ∧ 2 ^ n ≤ 16 := by
    have : n = 0 ∨ n = 1 ∨ n = 2 ∨ n = 3 ∨ n = 4 := by omega
    rcases this with rfl | rfl | rfl | rfl | rfl <;> decide
  have hpw := pw10 ⟨n, by omega⟩
  dsimp only at hpw
  obtain ⟨bw, hbw⟩ : ∃ k : Nat, pwT 10 n = (k : Int) := ⟨(pwT 10 n).toNat, by omega⟩
  have hs := sh_v n (by omega)
  have hfacts : ∀ G, RFr F F1 G → G 69 2 = (n : Int) ∧ G 69 3 = (na : Int) := by
    intro G hG
    have q := hG.1
    refine ⟨?_, ?_⟩
    · rw [q.2.2.1 2 (by decide) (by decide), layH_c (by decide), g2]
    · rw [q.2.2.1 3 (by decide) (by decide), layH_c (by decide), g3]
  have hloop : ∀ (m k : Nat) (G : XT), k + m = 2 ^ n → RFr F F1 G → qW tb 174 (119, 1262) 24 [(3, 69), (0, (x : Int)), (0, up), (0, cmT F n ns na (x : Int) k), (0, (k : Int))] [] (LAY, G) R := by
    intro m
    induction m with
    | zero =>
      intro k G hm hG
      have hr := Rf_k hG.1.1
      obtain ⟨f1, f2⟩ := hfacts G hG
      have ek : k = 2 ^ n := by omega
      have b1 : ((k : Int) < ((2 ^ n : Nat) : Int)) = False := eq_false (by omega)
      have hq := hk G (RFr_Rel hR1 h9 hG)
      have hr2 := cmT_r F ns na hn4 hx10 k (by omega)
      rw [← ek, hbw] at hq
      rw [h174_24]
      simp only [YK, c174, t174, cl107, tgK, lyK, rkK, wK, rfK, hr, qRes_eq, qNon_eq, qup_ap, vup_ap, vcpy_ap, kc8_0, kc8_1, kc8_2, lc_lt, lc_gt, lc_eq, Option.toList_some, Option.toList_none, List.cons_append, List.nil_append, lay_len, lay_sz, Nat.reduceAdd, Nat.reduceSub, Nat.reduceMul, Int.reduceToNat, Int.reduceLE, Int.reduceLT, Int.reduceEq, Int.reduceAdd, Int.reduceSub, Int.reduceMul, Int.reduceNeg, Nat.reduceLeDiff, Nat.reduceLT, true_and, and_true, false_and, and_false, qcat_0, qcat_1, qcat_3, qcat_9, Nat.reduceEqDiff, if_true, if_false, ite_self, or_true, true_or, or_false, false_or, forall_const, not_true_eq_false, not_false_eq_true, false_implies, implies_true, qtK0, qtK1, qtK2, qtK3, qtK4, List.getD_cons_zero, List.getD_cons_succ, Int.toNat_natCast, ne_eq, qcK, hbF, bsetF, bclrF, f1, shF, hs, b1]
      refine r107 10 n (by omega) ?_
      rw [hbw]
      simp only [YK, c174, t174, cl110, tgK, lyK, rkK, wK, rfK, qRes_eq, qNon_eq, qup_ap, vup_ap, vcpy_ap, kc8_0, kc8_1, kc8_2, lc_lt, lc_gt, lc_eq, Option.toList_some, Option.toList_none, List.cons_append, List.nil_append, lay_len, lay_sz, Nat.reduceAdd, Nat.reduceSub, Nat.reduceMul, Int.reduceToNat, Int.reduceLE, Int.reduceLT, Int.reduceEq, Int.reduceAdd, Int.reduceSub, Int.reduceMul, Int.reduceNeg, Nat.reduceLeDiff, Nat.reduceLT, true_and, and_true, false_and, and_false, qcat_0, qcat_1, qcat_3, qcat_9, Nat.reduceEqDiff, if_true, if_false, ite_self, or_true, true_or, or_false, false_or, forall_const, not_true_eq_false, not_false_eq_true, false_implies, implies_true, qtK0, qtK1, qtK2, qtK3, qtK4, List.getD_cons_zero, List.getD_cons_succ, Int.toNat_natCast, ne_eq, qcK, hbF, bsetF, bclrF]
      refine r110 _ bw up (by omega) (by omega) ?_
      simp only [YK, c174, t174, tgK, lyK, rkK, wK, rfK, qRes_eq, qNon_eq, qup_ap, vup_ap, vcpy_ap, kc8_0, kc8_1, kc8_2, lc_lt, lc_gt, lc_eq, Option.toList_some, Option.toList_none, List.cons_append, List.nil_append, lay_len, lay_sz, Nat.reduceAdd, Nat.reduceSub, Nat.reduceMul, Int.reduceToNat, Int.reduceLE, Int.reduceLT, Int.reduceEq, Int.reduceAdd, Int.reduceSub, Int.reduceMul, Int.reduceNeg, Nat.reduceLeDiff, Nat.reduceLT, true_and, and_true, false_and, and_false, qcat_0, qcat_1, qcat_3, qcat_9, Nat.reduceEqDiff, if_true, if_false, ite_self, or_true, true_or, or_false, false_or, forall_const, not_true_eq_false, not_false_eq_true, false_implies, implies_true, qtK0, qtK1, qtK2, qtK3, qtK4, List.getD_cons_zero, List.getD_cons_succ, Int.toNat_natCast, ne_eq, qcK, hbF, bsetF, bclrF]
      exact hq
    | succ m ih =>
      intro k G hm hG
      have hr := Rf_k hG.1.1
      obtain ⟨f1, f2⟩ := hfacts G hG
      have b1 : ((k : Int) < ((2 ^ n : Nat) : Int)) = True := eq_true (by omega)
      have w1 : w32 ((k : Int) + 1) = ((k + 1 : Nat) : Int) := by rw [w32_id ⟨by omega, by omega⟩]; omega
      have hI := (runM_ok (v := (k : Int)) (sp := (k : Int)) hR hd ⟨hR.1, fun _ _ => rfl⟩ (Or.inr ⟨by omega, rfl⟩)).1
      have hc := ch_pw ⟨n, by omega⟩ ⟨k, by omega⟩ ⟨x, by omega⟩ (by dsimp only; omega)
      dsimp only at hc
      rw [h174_24]
      simp only [YK, c174, t174, cl148, tgK, lyK, rkK, wK, rfK, hr, qRes_eq, qNon_eq, qup_ap, vup_ap, vcpy_ap, kc8_0, kc8_1, kc8_2, lc_lt, lc_gt, lc_eq, Option.toList_some, Option.toList_none, List.cons_append, List.nil_append, lay_len, lay_sz, Nat.reduceAdd, Nat.reduceSub, Nat.reduceMul, Int.reduceToNat, Int.reduceLE, Int.reduceLT, Int.reduceEq, Int.reduceAdd, Int.reduceSub, Int.reduceMul, Int.reduceNeg, Nat.reduceLeDiff, Nat.reduceLT, true_and, and_true, false_and, and_false, qcat_0, qcat_1, qcat_3, qcat_9, Nat.reduceEqDiff, if_true, if_false, ite_self, or_true, true_or, or_false, false_or, forall_const, not_true_eq_false, not_false_eq_true, false_implies, implies_true, qtK0, qtK1, qtK2, qtK3, qtK4, List.getD_cons_zero, List.getD_cons_succ, Int.toNat_natCast, ne_eq, qcK, hbF, bsetF, bclrF, f1, shF, hs, b1]
      refine r_runm hA hG (k : Int) hI ?_
      clear hr f1 f2
      intro G2 hRR hG2
      have hr := Rf_k hG2.1.1
      obtain ⟨f1, f2⟩ := hfacts G2 hG2
      have hi := ih (k + 1) G2 (by omega) hG2
      unfold cmT at hi
      have hKP := KP_run (n := n) (ns := ns) (na := na) (S := (runM F (k : Int), L0)) 80
      simp only [YK, c174, t174, cl151, tgK, lyK, rkK, wK, rfK, hr, qRes_eq, qNon_eq, qup_ap, vup_ap, vcpy_ap, kc8_0, kc8_1, kc8_2, lc_lt, lc_gt, lc_eq, Option.toList_some, Option.toList_none, List.cons_append, List.nil_append, lay_len, lay_sz, Nat.reduceAdd, Nat.reduceSub, Nat.reduceMul, Int.reduceToNat, Int.reduceLE, Int.reduceLT, Int.reduceEq, Int.reduceAdd, Int.reduceSub, Int.reduceMul, Int.reduceNeg, Nat.reduceLeDiff, Nat.reduceLT, true_and, and_true, false_and, and_false, qcat_0, qcat_1, qcat_3, qcat_9, Nat.reduceEqDiff, if_true, if_false, ite_self, or_true, true_or, or_false, false_or, forall_const, not_true_eq_false, not_false_eq_true, false_implies, implies_true, qtK0, qtK1, qtK2, qtK3, qtK4, List.getD_cons_zero, List.getD_cons_succ, Int.toNat_natCast, ne_eq, qcK, hbF, bsetF, bclrF]
      refine r151 hRR 2 na (by rw [hKP.2 3 (by decide)]; exact hI.1.2.2.1.1) hna ?_
      by_cases c : mT (pRunT n ns na 80 (runM F (k : Int), L0)).1 2 na = (na : Int)
      · rw [if_pos c] at hi
        obtain ⟨on, hon⟩ : ∃ q : Nat, pOnes (k : Int) = (q : Int) := ⟨(pOnes (k : Int)).toNat, by omega⟩
        have w2 : w32 ((n : Int) - (on : Int)) = ((n - on : Nat) : Int) := by rw [w32_id ⟨by omega, by omega⟩]; omega
        rw [hon] at hc
        rw [w2, Int.toNat_natCast, Int.toNat_natCast] at hc
        rw [hc.1] at hi
        simp only [YK, c174, t174, cl106, tgK, lyK, rkK, wK, rfK, hr, qRes_eq, qNon_eq, qup_ap, vup_ap, vcpy_ap, kc8_0, kc8_1, kc8_2, lc_lt, lc_gt, lc_eq, Option.toList_some, Option.toList_none, List.cons_append, List.nil_append, lay_len, lay_sz, Nat.reduceAdd, Nat.reduceSub, Nat.reduceMul, Int.reduceToNat, Int.reduceLE, Int.reduceLT, Int.reduceEq, Int.reduceAdd, Int.reduceSub, Int.reduceMul, Int.reduceNeg, Nat.reduceLeDiff, Nat.reduceLT, true_and, and_true, false_and, and_false, qcat_0, qcat_1, qcat_3, qcat_9, Nat.reduceEqDiff, if_true, if_false, ite_self, or_true, true_or, or_false, false_or, forall_const, not_true_eq_false, not_false_eq_true, false_implies, implies_true, qtK0, qtK1, qtK2, qtK3, qtK4, List.getD_cons_zero, List.getD_cons_succ, Int.toNat_natCast, ne_eq, qcK, hbF, bsetF, bclrF, f2, c]
        refine r106 (k : Int) ?_
        rw [hon]
        simp only [YK, c174, t174, cl107, tgK, lyK, rkK, wK, rfK, qRes_eq, qNon_eq, qup_ap, vup_ap, vcpy_ap, kc8_0, kc8_1, kc8_2, lc_lt, lc_gt, lc_eq, Option.toList_some, Option.toList_none, List.cons_append, List.nil_append, lay_len, lay_sz, Nat.reduceAdd, Nat.reduceSub, Nat.reduceMul, Int.reduceToNat, Int.reduceLE, Int.reduceLT, Int.reduceEq, Int.reduceAdd, Int.reduceSub, Int.reduceMul, Int.reduceNeg, Nat.reduceLeDiff, Nat.reduceLT, true_and, and_true, false_and, and_false, qcat_0, qcat_1, qcat_3, qcat_9, Nat.reduceEqDiff, if_true, if_false, ite_self, or_true, true_or, or_false, false_or, forall_const, not_true_eq_false, not_false_eq_true, false_implies, implies_true, qtK0, qtK1, qtK2, qtK3, qtK4, List.getD_cons_zero, List.getD_cons_succ, Int.toNat_natCast, ne_eq, qcK, hbF, bsetF, bclrF]
        refine r107 (x : Int) on (by omega) ?_
        simp only [YK, c174, t174, cl106, tgK, lyK, rkK, wK, rfK, hr, qRes_eq, qNon_eq, qup_ap, vup_ap, vcpy_ap, kc8_0, kc8_1, kc8_2, lc_lt, lc_gt, lc_eq, Option.toList_some, Option.toList_none, List.cons_append, List.nil_append, lay_len, lay_sz, Nat.reduceAdd, Nat.reduceSub, Nat.reduceMul, Int.reduceToNat, Int.reduceLE, Int.reduceLT, Int.reduceEq, Int.reduceAdd, Int.reduceSub, Int.reduceMul, Int.reduceNeg, Nat.reduceLeDiff, Nat.reduceLT, true_and, and_true, false_and, and_false, qcat_0, qcat_1, qcat_3, qcat_9, Nat.reduceEqDiff, if_true, if_false, ite_self, or_true, true_or, or_false, false_or, forall_const, not_true_eq_false, not_false_eq_true, false_implies, implies_true, qtK0, qtK1, qtK2, qtK3, qtK4, List.getD_cons_zero, List.getD_cons_succ, Int.toNat_natCast, ne_eq, qcK, hbF, bsetF, bclrF, f1]
        refine r106 (k : Int) ?_
        rw [hon]
        simp only [YK, c174, t174, cl107, tgK, lyK, rkK, wK, rfK, qRes_eq, qNon_eq, qup_ap, vup_ap, vcpy_ap, kc8_0, kc8_1, kc8_2, lc_lt, lc_gt, lc_eq, Option.toList_some, Option.toList_none, List.cons_append, List.nil_append, lay_len, lay_sz, Nat.reduceAdd, Nat.reduceSub, Nat.reduceMul, Int.reduceToNat, Int.reduceLE, Int.reduceLT, Int.reduceEq, Int.reduceAdd, Int.reduceSub, Int.reduceMul, Int.reduceNeg, Nat.reduceLeDiff, Nat.reduceLT, true_and, and_true, false_and, and_false, qcat_0, qcat_1, qcat_3, qcat_9, Nat.reduceEqDiff, if_true, if_false, ite_self, or_true, true_or, or_false, false_or, forall_const, not_true_eq_false, not_false_eq_true, false_implies, implies_true, qtK0, qtK1, qtK2, qtK3, qtK4, List.getD_cons_zero, List.getD_cons_succ, Int.toNat_natCast, ne_eq, qcK, hbF, bsetF, bclrF, w2]
        refine r107 (w32 (10 - (x : Int))) (n - on) (by omega) ?_
        simp only [YK, c174, t174, tgK, lyK, rkK, wK, rfK, qRes_eq, qNon_eq, qup_ap, vup_ap, vcpy_ap, kc8_0, kc8_1, kc8_2, lc_lt, lc_gt, lc_eq, Option.toList_some, Option.toList_none, List.cons_append, List.nil_append, lay_len, lay_sz, Nat.reduceAdd, Nat.reduceSub, Nat.reduceMul, Int.reduceToNat, Int.reduceLE, Int.reduceLT, Int.reduceEq, Int.reduceAdd, Int.reduceSub, Int.reduceMul, Int.reduceNeg, Nat.reduceLeDiff, Nat.reduceLT, true_and, and_true, false_and, and_false, qcat_0, qcat_1, qcat_3, qcat_9, Nat.reduceEqDiff, if_true, if_false, ite_self, or_true, true_or, or_false, false_or, forall_const, not_true_eq_false, not_false_eq_true, false_implies, implies_true, qtK0, qtK1, qtK2, qtK3, qtK4, List.getD_cons_zero, List.getD_cons_succ, Int.toNat_natCast, ne_eq, qcK, hbF, bsetF, bclrF, w1]
        exact hi
      · rw [if_neg c] at hi
        simp only [YK, c174, t174, tgK, lyK, rkK, wK, rfK, hr, qRes_eq, qNon_eq, qup_ap, vup_ap, vcpy_ap, kc8_0, kc8_1, kc8_2, lc_lt, lc_gt, lc_eq, Option.toList_some, Option.toList_none, List.cons_append, List.nil_append, lay_len, lay_sz, Nat.reduceAdd, Nat.reduceSub, Nat.reduceMul, Int.reduceToNat, Int.reduceLE, Int.reduceLT, Int.reduceEq, Int.reduceAdd, Int.reduceSub, Int.reduceMul, Int.reduceNeg, Nat.reduceLeDiff, Nat.reduceLT, true_and, and_true, false_and, and_false, qcat_0, qcat_1, qcat_3, qcat_9, Nat.reduceEqDiff, if_true, if_false, ite_self, or_true, true_or, or_false, false_or, forall_const, not_true_eq_false, not_false_eq_true, false_implies, implies_true, qtK0, qtK1, qtK2, qtK3, qtK4, List.getD_cons_zero, List.getD_cons_succ, Int.toNat_natCast, ne_eq, qcK, hbF, bsetF, bclrF, f2, c, w1]
        exact hi
  have hr := Rf_k hR1.1
  have e0 : ((0 : Nat) : Int) = 0 := rfl
  simp only [YK, c174, t174, cl104, tgK, lyK, rkK, wK, rfK, hr, qRes_eq, qNon_eq, qup_ap, vup_ap, vcpy_ap, kc8_0, kc8_1, kc8_2, lc_lt, lc_gt, lc_eq, Option.toList_some, Option.toList_none, List.cons_append, List.nil_append, lay_len, lay_sz, Nat.reduceAdd, Nat.reduceSub, Nat.reduceMul, Int.reduceToNat, Int.reduceLE, Int.reduceLT, Int.reduceEq, Int.reduceAdd, Int.reduceSub, Int.reduceMul, Int.reduceNeg, Nat.reduceLeDiff, Nat.reduceLT, true_and, and_true, false_and, and_false, qcat_0, qcat_1, qcat_3, qcat_9, Nat.reduceEqDiff, if_true, if_false, ite_self, or_true, true_or, or_false, false_or, forall_const, not_true_eq_false, not_false_eq_true, false_implies, implies_true, qtK0, qtK1, qtK2, qtK3, qtK4, List.getD_cons_zero, List.getD_cons_succ, Int.toNat_natCast, ne_eq, qcK, hbF, bsetF, bclrF, e0]
  refine r104 (x : Int) 0 10 ?_
  rw [b01_t (by omega)]
  simp only [YK, c174, t174, cl150, tgK, lyK, rkK, wK, rfK, qRes_eq, qNon_eq, qup_ap, vup_ap, vcpy_ap, kc8_0, kc8_1, kc8_2, lc_lt, lc_gt, lc_eq, Option.toList_some, Option.toList_none, List.cons_append, List.nil_append, lay_len, lay_sz, Nat.reduceAdd, Nat.reduceSub, Nat.reduceMul, Int.reduceToNat, Int.reduceLE, Int.reduceLT, Int.reduceEq, Int.reduceAdd, Int.reduceSub, Int.reduceMul, Int.reduceNeg, Nat.reduceLeDiff, Nat.reduceLT, true_and, and_true, false_and, and_false, qcat_0, qcat_1, qcat_3, qcat_9, Nat.reduceEqDiff, if_true, if_false, ite_self, or_true, true_or, or_false, false_or, forall_const, not_true_eq_false, not_false_eq_true, false_implies, implies_true, qtK0, qtK1, qtK2, qtK3, qtK4, List.getD_cons_zero, List.getD_cons_succ, Int.toNat_natCast, ne_eq, qcK, hbF, bsetF, bclrF]
  refine r150 hR1.1 ?_
  have hq := hloop (2 ^ n) 0 (layH F1) (by omega) (RFr_lay hR1.1 h9)
  simp only [YK, c174, t174, tgK, lyK, rkK, wK, rfK, qRes_eq, qNon_eq, qup_ap, vup_ap, vcpy_ap, kc8_0, kc8_1, kc8_2, lc_lt, lc_gt, lc_eq, Option.toList_some, Option.toList_none, List.cons_append, List.nil_append, lay_len, lay_sz, Nat.reduceAdd, Nat.reduceSub, Nat.reduceMul, Int.reduceToNat, Int.reduceLE, Int.reduceLT, Int.reduceEq, Int.reduceAdd, Int.reduceSub, Int.reduceMul, Int.reduceNeg, Nat.reduceLeDiff, Nat.reduceLT, true_and, and_true, false_and, and_false, qcat_0, qcat_1, qcat_3, qcat_9, Nat.reduceEqDiff, if_true, if_false, ite_self, or_true, true_or, or_false, false_or, forall_const, not_true_eq_false, not_false_eq_true, false_implies, implies_true, qtK0, qtK1, qtK2, qtK3, qtK4, List.getD_cons_zero, List.getD_cons_succ, Int.toNat_natCast, ne_eq, qcK, hbF, bsetF, bclrF]
  exact hq
theorem H_calm {L : Nat} {xs : Nat → Int} (hA : FA) (F : Nat → Nat → Int) (x up : Int) (hR : Rel F) : qPair (qtab L xs) Rel 0 88 174 [(3, 0), (0, x), (0, up), (9, 0), (9, 0), (9, 0), (9, 0), (9, 0)] [(3, 69), (0, x), (0, up), (9, 0), (9, 0)] F := by
  apply qPair_of
  obtain ⟨n, ns, na, hd⟩ := DN_of hR
  have hn4 : n ≤ 4 := by have := hR.2.2.1.1; have := hd.1; omega
  have hna : na ≤ 12 := by have := hR.2.2.1.2.1; have := hd.2.2; omega
  by_cases c : 0 ≤ x ∧ x ≤ 10
  · obtain ⟨x, rfl⟩ : ∃ k : Nat, x = (k : Int) := ⟨x.toNat, by omega⟩
    refine k88 hA hR hd hn4 hna (by omega) ?_
    intro G hG
    rw [qRes_eq]
    refine r174 hA hR hd (by omega) (CFr_Rel hR hG) (CFr_69 hG) ?_
    intro G2 hG2
    rw [qRes_eq]
    exact ⟨rfl, hG2⟩
  · have hr := Rf_k hR.1
    have e0 : ((0 : Nat) : Int) = 0 := rfl
    by_cases c2 : x < 0
    · have d1 : (x < 0) = True := eq_true c2
      simp only [YK, c88, t88, c174, t174, cl104, tgK, lyK, rkK, wK, rfK, hr, qRes_eq, qNon_eq, qup_ap, vup_ap, vcpy_ap, kc8_0, kc8_1, kc8_2, lc_lt, lc_gt, lc_eq, Option.toList_some, Option.toList_none, List.cons_append, List.nil_append, lay_len, lay_sz, Nat.reduceAdd, Nat.reduceSub, Nat.reduceMul, Int.reduceToNat, Int.reduceLE, Int.reduceLT, Int.reduceEq, Int.reduceAdd, Int.reduceSub, Int.reduceMul, Int.reduceNeg, Nat.reduceLeDiff, Nat.reduceLT, true_and, and_true, false_and, and_false, qcat_0, qcat_1, qcat_3, qcat_9, Nat.reduceEqDiff, if_true, if_false, ite_self, or_true, true_or, or_false, false_or, forall_const, not_true_eq_false, not_false_eq_true, false_implies, implies_true, qtK0, qtK1, qtK2, qtK3, qtK4, List.getD_cons_zero, List.getD_cons_succ, Int.toNat_natCast, ne_eq, qcK, hbF, bsetF, bclrF, d1, e0]
      refine r104 x 0 10 ?_
      rw [b01_f c]
      simp only [YK, c174, t174, tgK, lyK, rkK, wK, rfK, qRes_eq, qNon_eq, qup_ap, vup_ap, vcpy_ap, kc8_0, kc8_1, kc8_2, lc_lt, lc_gt, lc_eq, Option.toList_some, Option.toList_none, List.cons_append, List.nil_append, lay_len, lay_sz, Nat.reduceAdd, Nat.reduceSub, Nat.reduceMul, Int.reduceToNat, Int.reduceLE, Int.reduceLT, Int.reduceEq, Int.reduceAdd, Int.reduceSub, Int.reduceMul, Int.reduceNeg, Nat.reduceLeDiff, Nat.reduceLT, true_and, and_true, false_and, and_false, qcat_0, qcat_1, qcat_3, qcat_9, Nat.reduceEqDiff, if_true, if_false, ite_self, or_true, true_or, or_false, false_or, forall_const, not_true_eq_false, not_false_eq_true, false_implies, implies_true, qtK0, qtK1, qtK2, qtK3, qtK4, List.getD_cons_zero, List.getD_cons_succ, Int.toNat_natCast, ne_eq, qcK, hbF, bsetF, bclrF]
      exact hR
    · have d1 : (x < 0) = False := eq_false c2
      have d2 : (10 < x) = True := eq_true (by omega)
      simp only [YK, c88, t88, c174, t174, cl104, tgK, lyK, rkK, wK, rfK, hr, qRes_eq, qNon_eq, qup_ap, vup_ap, vcpy_ap, kc8_0, kc8_1, kc8_2, lc_lt, lc_gt, lc_eq, Option.toList_some, Option.toList_none, List.cons_append, List.nil_append, lay_len, lay_sz, Nat.reduceAdd, Nat.reduceSub, Nat.reduceMul, Int.reduceToNat, Int.reduceLE, Int.reduceLT, Int.reduceEq, Int.reduceAdd, Int.reduceSub, Int.reduceMul, Int.reduceNeg, Nat.reduceLeDiff, Nat.reduceLT, true_and, and_true, false_and, and_false, qcat_0, qcat_1, qcat_3, qcat_9, Nat.reduceEqDiff, if_true, if_false, ite_self, or_true, true_or, or_false, false_or, forall_const, not_true_eq_false, not_false_eq_true, false_implies, implies_true, qtK0, qtK1, qtK2, qtK3, qtK4, List.getD_cons_zero, List.getD_cons_succ, Int.toNat_natCast, ne_eq, qcK, hbF, bsetF, bclrF, d1, d2, e0]
      refine r104 x 0 10 ?_
      rw [b01_f c]
      simp only [YK, c174, t174, tgK, lyK, rkK, wK, rfK, qRes_eq, qNon_eq, qup_ap, vup_ap, vcpy_ap, kc8_0, kc8_1, kc8_2, lc_lt, lc_gt, lc_eq, Option.toList_some, Option.toList_none, List.cons_append, List.nil_append, lay_len, lay_sz, Nat.reduceAdd, Nat.reduceSub, Nat.reduceMul, Int.reduceToNat, Int.reduceLE, Int.reduceLT, Int.reduceEq, Int.reduceAdd, Int.reduceSub, Int.reduceMul, Int.reduceNeg, Nat.reduceLeDiff, Nat.reduceLT, true_and, and_true, false_and, and_false, qcat_0, qcat_1, qcat_3, qcat_9, Nat.reduceEqDiff, if_true, if_false, ite_self, or_true, true_or, or_false, false_or, forall_const, not_true_eq_false, not_false_eq_true, false_implies, implies_true, qtK0, qtK1, qtK2, qtK3, qtK4, List.getD_cons_zero, List.getD_cons_succ, Int.toNat_natCast, ne_eq, qcK, hbF, bsetF, bclrF]
      exact hR
