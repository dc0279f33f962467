/-! floats, 9: the step toward a number, the test -/
theorem MV_MX {x X : Int} (h : MV x X) : (X = 0 ∧ x = 0) ∨ ∃ (s : Bool) (c k : Nat), MX x s c k ∧ X = FP.Core.signed s c * ((2 ^ k : Nat) : Int) ∧ X ≠ 0 := by
  rcases h with h | ⟨s, c, k, c1, c2, k1, hX, hx⟩
  · exact .inl h
  · refine .inr ⟨s, c, k, ⟨c1, c2, k1, hx⟩, by rw [sg_mul, hX], ?_⟩
    intro h
    have := sg_abs s (c * 2 ^ k)
    rw [← hX, h] at this
    have := Nat.mul_pos (show 0 < c by omega) (Nat.two_pow_pos k)
    omega
theorem MX_MV {x X : Int} {s : Bool} {c k : Nat} (h : MX x s c k) (hX : X = FP.Core.signed s c * ((2 ^ k : Nat) : Int)) : MV x X := .inr ⟨s, c, k, h.1, h.2.1, h.2.2.1, by rw [hX, sg_mul], h.2.2.2⟩
theorem MX_sh {x : Int} {s : Bool} {c k : Nat} (h : MX x s c k) (j : Nat) (hj : j ≤ 200) : MV (bX (FP.Core.signed s c * ((2 ^ j : Nat) : Int))) (FP.Core.signed s c * ((2 ^ j : Nat) : Int)) := by
  have h2 : MX ((j : Int) * 8388608 + c - (if s = true then 2147483648 else 0)) s c j := ⟨h.1, h.2.1, hj, rfl⟩
  have h3 := MX_MV h2 rfl
  rw [MV_self h3]
  exact h3
theorem MX_99 {x X : Int} {s : Bool} {c k : Nat} (h : MX x s c k) (hX : X = FP.Core.signed s c * ((2 ^ k : Nat) : Int)) (hw : WN X) : 99 ≤ k ∧ k ≤ 133 := MX_w h.1 h.2.1 (by rw [hX, sg_mul]) hw
theorem r115 {tb : qTb} {F : XT} {R : Option qV → qM → Prop} {b v X D E : Int} (hb : MV b X) (hv : 0 ≤ v ∧ v ≤ 79) (wX : X = 0 ∨ WN X) (hV : MV (bX (v * ((2 ^ 149 : Nat) : Int))) (v * ((2 ^ 149 : Nat) : Int))) (hD : MV (bX (v * ((2 ^ 149 : Nat) : Int) + -X)) D) (h4 : D = 4 * E) (wE : E = 0 ∨ WN E) (hk : R (some (0, bX (X + E))) (LAY, F)) : qW tb 115 (119, 1262) 0 [(0, b), (0, v), (9, 0)] [] (LAY, F) R := by
  have wV : v * ((2 ^ 149 : Nat) : Int) = 0 ∨ WN (v * ((2 ^ 149 : Nat) : Int)) := by
    by_cases h : v = 0
    · left
      rw [h, Int.zero_mul]
    · right
      constructor <;> omega
  obtain ⟨mb, hmb⟩ : ∃ mb, mb = bX (v * ((2 ^ 149 : Nat) : Int) + -X) := ⟨_, rfl⟩
  rw [← hmb] at hD
  have hm := hmb.symm
  simp only [YK, c115, t115, cl111, cl112, cl113, cl114, tgK, lyK, rkK, wK, rfK, qRes_eq, qNon_eq, qup_ap, vup_ap, vcpy_ap, kc8_0, kc8_1, kc8_2, lc_lt, lc_gt, lc_eq, Option.toList_some, Option.toList_none, List.cons_append, List.nil_append, lay_len, lay_sz, Nat.reduceAdd, Nat.reduceSub, Nat.reduceMul, Int.reduceToNat, Int.reduceLE, Int.reduceLT, Int.reduceEq, Int.reduceAdd, Int.reduceSub, Int.reduceMul, Int.reduceNeg, Nat.reduceLeDiff, Nat.reduceLT, true_and, and_true, false_and, and_false, qcat_0, qcat_1, qcat_3, qcat_9, Nat.reduceEqDiff, if_true, if_false, ite_self, or_true, true_or, or_false, false_or, forall_const, not_true_eq_false, not_false_eq_true, false_implies, implies_true, qtK0, qtK1, qtK2, qtK3, qtK4, List.getD_cons_zero, List.getD_cons_succ, Int.toNat_natCast, ne_eq, qcK, hbF, bsetF, bclrF]
  apply r113 v 0 149 (by omega) (by omega) (by omega) (by omega) _
  simp only [YK, c115, t115, cl111, cl112, cl113, cl114, tgK, lyK, rkK, wK, rfK, qRes_eq, qNon_eq, qup_ap, vup_ap, vcpy_ap, kc8_0, kc8_1, kc8_2, lc_lt, lc_gt, lc_eq, Option.toList_some, Option.toList_none, List.cons_append, List.nil_append, lay_len, lay_sz, Nat.reduceAdd, Nat.reduceSub, Nat.reduceMul, Int.reduceToNat, Int.reduceLE, Int.reduceLT, Int.reduceEq, Int.reduceAdd, Int.reduceSub, Int.reduceMul, Int.reduceNeg, Nat.reduceLeDiff, Nat.reduceLT, true_and, and_true, false_and, and_false, qcat_0, qcat_1, qcat_3, qcat_9, Nat.reduceEqDiff, if_true, if_false, ite_self, or_true, true_or, or_false, false_or, forall_const, not_true_eq_false, not_false_eq_true, false_implies, implies_true, qtK0, qtK1, qtK2, qtK3, qtK4, List.getD_cons_zero, List.getD_cons_succ, Int.toNat_natCast, ne_eq, qcK, hbF, bsetF, bclrF]
  apply r114 hV hb wV wX 1 (.inr rfl) _
  simp only [YK, c115, t115, cl111, cl112, cl113, cl114, tgK, lyK, rkK, wK, rfK, qRes_eq, qNon_eq, qup_ap, vup_ap, vcpy_ap, kc8_0, kc8_1, kc8_2, lc_lt, lc_gt, lc_eq, Option.toList_some, Option.toList_none, List.cons_append, List.nil_append, lay_len, lay_sz, Nat.reduceAdd, Nat.reduceSub, Nat.reduceMul, Int.reduceToNat, Int.reduceLE, Int.reduceLT, Int.reduceEq, Int.reduceAdd, Int.reduceSub, Int.reduceMul, Int.reduceNeg, Nat.reduceLeDiff, Nat.reduceLT, true_and, and_true, false_and, and_false, qcat_0, qcat_1, qcat_3, qcat_9, Nat.reduceEqDiff, if_true, if_false, ite_self, or_true, true_or, or_false, false_or, forall_const, not_true_eq_false, not_false_eq_true, false_implies, implies_true, qtK0, qtK1, qtK2, qtK3, qtK4, List.getD_cons_zero, List.getD_cons_succ, Int.toNat_natCast, ne_eq, qcK, hbF, bsetF, bclrF, hm]
  rcases MV_MX hD with ⟨hD0, hx⟩ | ⟨s, c, k, hM, hX, hne⟩
  · subst hx
    have hE : E = 0 := by omega
    subst hE
    apply r111z
    simp only [YK, c115, t115, cl111, cl112, cl113, cl114, tgK, lyK, rkK, wK, rfK, qRes_eq, qNon_eq, qup_ap, vup_ap, vcpy_ap, kc8_0, kc8_1, kc8_2, lc_lt, lc_gt, lc_eq, Option.toList_some, Option.toList_none, List.cons_append, List.nil_append, lay_len, lay_sz, Nat.reduceAdd, Nat.reduceSub, Nat.reduceMul, Int.reduceToNat, Int.reduceLE, Int.reduceLT, Int.reduceEq, Int.reduceAdd, Int.reduceSub, Int.reduceMul, Int.reduceNeg, Nat.reduceLeDiff, Nat.reduceLT, true_and, and_true, false_and, and_false, qcat_0, qcat_1, qcat_3, qcat_9, Nat.reduceEqDiff, if_true, if_false, ite_self, or_true, true_or, or_false, false_or, forall_const, not_true_eq_false, not_false_eq_true, false_implies, implies_true, qtK0, qtK1, qtK2, qtK3, qtK4, List.getD_cons_zero, List.getD_cons_succ, Int.toNat_natCast, ne_eq, qcK, hbF, bsetF, bclrF]
    apply r112z
    simp only [YK, c115, t115, cl111, cl112, cl113, cl114, tgK, lyK, rkK, wK, rfK, qRes_eq, qNon_eq, qup_ap, vup_ap, vcpy_ap, kc8_0, kc8_1, kc8_2, lc_lt, lc_gt, lc_eq, Option.toList_some, Option.toList_none, List.cons_append, List.nil_append, lay_len, lay_sz, Nat.reduceAdd, Nat.reduceSub, Nat.reduceMul, Int.reduceToNat, Int.reduceLE, Int.reduceLT, Int.reduceEq, Int.reduceAdd, Int.reduceSub, Int.reduceMul, Int.reduceNeg, Nat.reduceLeDiff, Nat.reduceLT, true_and, and_true, false_and, and_false, qcat_0, qcat_1, qcat_3, qcat_9, Nat.reduceEqDiff, if_true, if_false, ite_self, or_true, true_or, or_false, false_or, forall_const, not_true_eq_false, not_false_eq_true, false_implies, implies_true, qtK0, qtK1, qtK2, qtK3, qtK4, List.getD_cons_zero, List.getD_cons_succ, Int.toNat_natCast, ne_eq, qcK, hbF, bsetF, bclrF]
    apply r113z
    simp only [YK, c115, t115, cl111, cl112, cl113, cl114, tgK, lyK, rkK, wK, rfK, qRes_eq, qNon_eq, qup_ap, vup_ap, vcpy_ap, kc8_0, kc8_1, kc8_2, lc_lt, lc_gt, lc_eq, Option.toList_some, Option.toList_none, List.cons_append, List.nil_append, lay_len, lay_sz, Nat.reduceAdd, Nat.reduceSub, Nat.reduceMul, Int.reduceToNat, Int.reduceLE, Int.reduceLT, Int.reduceEq, Int.reduceAdd, Int.reduceSub, Int.reduceMul, Int.reduceNeg, Nat.reduceLeDiff, Nat.reduceLT, true_and, and_true, false_and, and_false, qcat_0, qcat_1, qcat_3, qcat_9, Nat.reduceEqDiff, if_true, if_false, ite_self, or_true, true_or, or_false, false_or, forall_const, not_true_eq_false, not_false_eq_true, false_implies, implies_true, qtK0, qtK1, qtK2, qtK3, qtK4, List.getD_cons_zero, List.getD_cons_succ, Int.toNat_natCast, ne_eq, qcK, hbF, bsetF, bclrF]
    apply r114 hb (.inl ⟨rfl, rfl⟩) wX (.inl rfl) 0 (.inl rfl) _
    simp only [YK, c115, t115, cl111, cl112, cl113, cl114, tgK, lyK, rkK, wK, rfK, qRes_eq, qNon_eq, qup_ap, vup_ap, vcpy_ap, kc8_0, kc8_1, kc8_2, lc_lt, lc_gt, lc_eq, Option.toList_some, Option.toList_none, List.cons_append, List.nil_append, lay_len, lay_sz, Nat.reduceAdd, Nat.reduceSub, Nat.reduceMul, Int.reduceToNat, Int.reduceLE, Int.reduceLT, Int.reduceEq, Int.reduceAdd, Int.reduceSub, Int.reduceMul, Int.reduceNeg, Nat.reduceLeDiff, Nat.reduceLT, true_and, and_true, false_and, and_false, qcat_0, qcat_1, qcat_3, qcat_9, Nat.reduceEqDiff, if_true, if_false, ite_self, or_true, true_or, or_false, false_or, forall_const, not_true_eq_false, not_false_eq_true, false_implies, implies_true, qtK0, qtK1, qtK2, qtK3, qtK4, List.getD_cons_zero, List.getD_cons_succ, Int.toNat_natCast, ne_eq, qcK, hbF, bsetF, bclrF]
    exact hk
  · have hp := Nat.two_pow_pos k
    have wE2 := wE.resolve_left (by omega)
    obtain ⟨a, ha⟩ : ∃ a : Int, a = FP.Core.signed s c := ⟨_, rfl⟩
    have hk99 : 25 ≤ k ∧ k ≤ 180 := by
      have c1 := hM.1
      have c2 := hM.2.1
      have hn := sg_abs s (c * 2 ^ k)
      rw [← sg_mul, ← hX] at hn
      obtain ⟨w1, w2⟩ := wE2
      have a1 : c * 2 ^ k < 16777216 * 2 ^ k := Nat.mul_lt_mul_of_pos_right c2 hp
      have a2 : 8388608 * 2 ^ k ≤ c * 2 ^ k := Nat.mul_le_mul_right _ c1
      have b1 : 2 ^ 122 < 2 ^ (24 + k) := by
        rw [Nat.pow_add]
        omega
      have b2 : 2 ^ (23 + k) < 2 ^ 160 := by
        rw [Nat.pow_add]
        omega
      have d1 := (Nat.pow_lt_pow_iff_right (by decide)).mp b1
      have d2 := (Nat.pow_lt_pow_iff_right (by decide)).mp b2
      omega
    have hE : E = FP.Core.signed s c * ((2 ^ (k - 2) : Nat) : Int) := by
      have e1 : 2 ^ k = 2 ^ (k - 2) * 4 := by
        have := Nat.pow_add 2 (k - 2) 2
        rw [show k - 2 + 2 = k by omega] at this
        exact this
      rw [e1, Int.natCast_mul, ← Int.mul_assoc] at hX
      generalize FP.Core.signed s c * ((2 ^ (k - 2) : Nat) : Int) = w at hX ⊢
      have : ((4 : Nat) : Int) = 4 := rfl
      rw [this] at hX
      omega
    have hM4 := MX_sh hM (k - 2) (by omega)
    rw [← hE] at hM4
    have w1 : w32 ((k : Int) - 149 - 2) = (k : Int) - 151 := by
      rw [show (k : Int) - 149 - 2 = k - 151 by omega]
      exact w32_id ⟨by omega, by omega⟩
    have rs := sg_r (s := s) hM.2.1
    have zs := sg_0 (s := s) hM.1
    apply r111x hM
    simp only [YK, c115, t115, cl111, cl112, cl113, cl114, tgK, lyK, rkK, wK, rfK, qRes_eq, qNon_eq, qup_ap, vup_ap, vcpy_ap, kc8_0, kc8_1, kc8_2, lc_lt, lc_gt, lc_eq, Option.toList_some, Option.toList_none, List.cons_append, List.nil_append, lay_len, lay_sz, Nat.reduceAdd, Nat.reduceSub, Nat.reduceMul, Int.reduceToNat, Int.reduceLE, Int.reduceLT, Int.reduceEq, Int.reduceAdd, Int.reduceSub, Int.reduceMul, Int.reduceNeg, Nat.reduceLeDiff, Nat.reduceLT, true_and, and_true, false_and, and_false, qcat_0, qcat_1, qcat_3, qcat_9, Nat.reduceEqDiff, if_true, if_false, ite_self, or_true, true_or, or_false, false_or, forall_const, not_true_eq_false, not_false_eq_true, false_implies, implies_true, qtK0, qtK1, qtK2, qtK3, qtK4, List.getD_cons_zero, List.getD_cons_succ, Int.toNat_natCast, ne_eq, qcK, hbF, bsetF, bclrF]
    apply r112x hM
    simp only [YK, c115, t115, cl111, cl112, cl113, cl114, tgK, lyK, rkK, wK, rfK, qRes_eq, qNon_eq, qup_ap, vup_ap, vcpy_ap, kc8_0, kc8_1, kc8_2, lc_lt, lc_gt, lc_eq, Option.toList_some, Option.toList_none, List.cons_append, List.nil_append, lay_len, lay_sz, Nat.reduceAdd, Nat.reduceSub, Nat.reduceMul, Int.reduceToNat, Int.reduceLE, Int.reduceLT, Int.reduceEq, Int.reduceAdd, Int.reduceSub, Int.reduceMul, Int.reduceNeg, Nat.reduceLeDiff, Nat.reduceLT, true_and, and_true, false_and, and_false, qcat_0, qcat_1, qcat_3, qcat_9, Nat.reduceEqDiff, if_true, if_false, ite_self, or_true, true_or, or_false, false_or, forall_const, not_true_eq_false, not_false_eq_true, false_implies, implies_true, qtK0, qtK1, qtK2, qtK3, qtK4, List.getD_cons_zero, List.getD_cons_succ, Int.toNat_natCast, ne_eq, qcK, hbF, bsetF, bclrF, w1]
    apply r113 (FP.Core.signed s c) ((k : Int) - 151) (k - 2) (by omega) (by omega) (by omega) _ _
    · right
      have hq : 2 ^ 23 ≤ 2 ^ (k - 2) := Nat.pow_le_pow_right (by decide) (by omega)
      exact Nat.le_trans hq (Nat.le_mul_of_pos_left _ (by omega))
    · rw [← hE]
      simp only [YK, c115, t115, cl111, cl112, cl113, cl114, tgK, lyK, rkK, wK, rfK, qRes_eq, qNon_eq, qup_ap, vup_ap, vcpy_ap, kc8_0, kc8_1, kc8_2, lc_lt, lc_gt, lc_eq, Option.toList_some, Option.toList_none, List.cons_append, List.nil_append, lay_len, lay_sz, Nat.reduceAdd, Nat.reduceSub, Nat.reduceMul, Int.reduceToNat, Int.reduceLE, Int.reduceLT, Int.reduceEq, Int.reduceAdd, Int.reduceSub, Int.reduceMul, Int.reduceNeg, Nat.reduceLeDiff, Nat.reduceLT, true_and, and_true, false_and, and_false, qcat_0, qcat_1, qcat_3, qcat_9, Nat.reduceEqDiff, if_true, if_false, ite_self, or_true, true_or, or_false, false_or, forall_const, not_true_eq_false, not_false_eq_true, false_implies, implies_true, qtK0, qtK1, qtK2, qtK3, qtK4, List.getD_cons_zero, List.getD_cons_succ, Int.toNat_natCast, ne_eq, qcK, hbF, bsetF, bclrF]
      apply r114 hb hM4 wX wE 0 (.inl rfl) _
      simp only [YK, c115, t115, cl111, cl112, cl113, cl114, tgK, lyK, rkK, wK, rfK, qRes_eq, qNon_eq, qup_ap, vup_ap, vcpy_ap, kc8_0, kc8_1, kc8_2, lc_lt, lc_gt, lc_eq, Option.toList_some, Option.toList_none, List.cons_append, List.nil_append, lay_len, lay_sz, Nat.reduceAdd, Nat.reduceSub, Nat.reduceMul, Int.reduceToNat, Int.reduceLE, Int.reduceLT, Int.reduceEq, Int.reduceAdd, Int.reduceSub, Int.reduceMul, Int.reduceNeg, Nat.reduceLeDiff, Nat.reduceLT, true_and, and_true, false_and, and_false, qcat_0, qcat_1, qcat_3, qcat_9, Nat.reduceEqDiff, if_true, if_false, ite_self, or_true, true_or, or_false, false_or, forall_const, not_true_eq_false, not_false_eq_true, false_implies, implies_true, qtK0, qtK1, qtK2, qtK3, qtK4, List.getD_cons_zero, List.getD_cons_succ, Int.toNat_natCast, ne_eq, qcK, hbF, bsetF, bclrF]
      exact hk
theorem r116 {tb : qTb} {F : XT} {R : Option qV → qM → Prop} {v t b : Int} {c k : Nat} (hb : MX b false c k) (hv : 0 ≤ v ∧ v ≤ 79) (ht : t = 1 ∨ t = 2) (hk1 : 99 ≤ k ∧ k ≤ 133) (hk : R (some (0, if 0 < v ∧ bX ((c : Int) * t * ((2 ^ k : Nat) : Int)) < bX (v * ((2 ^ 149 : Nat) : Int)) then 1 else 0)) (LAY, F)) : qW tb 116 (119, 1262) 0 [(0, v), (0, t), (0, b), (9, 0)] [] (LAY, F) R := by
  have c1 := hb.1
  have c2 := hb.2.1
  obtain ⟨m, hm⟩ : ∃ m : Int, m = (c : Int) * t := ⟨_, rfl⟩
  rw [← hm] at hk
  have hm1 : 8388608 ≤ m ∧ m < 33554432 := by
    rcases ht with h | h
    · rw [h] at hm
      omega
    · rw [h] at hm
      omega
  have w1 : w64 ((c : Int) * t) = m := by
    rw [← hm]
    exact w64_id ⟨by omega, by omega⟩
  obtain ⟨y1, hy1⟩ : ∃ y1, y1 = bX (m * ((2 ^ k : Nat) : Int)) := ⟨_, rfl⟩
  obtain ⟨y2, hy2⟩ : ∃ y2, y2 = bX (v * ((2 ^ 149 : Nat) : Int)) := ⟨_, rfl⟩
  rw [← hy1, ← hy2] at hk
  simp only [YK, c116, t116, cl111, cl112, cl113, tgK, lyK, rkK, wK, rfK, qRes_eq, qNon_eq, qup_ap, vup_ap, vcpy_ap, kc8_0, kc8_1, kc8_2, lc_lt, lc_gt, lc_eq, Option.toList_some, Option.toList_none, List.cons_append, List.nil_append, lay_len, lay_sz, Nat.reduceAdd, Nat.reduceSub, Nat.reduceMul, Int.reduceToNat, Int.reduceLE, Int.reduceLT, Int.reduceEq, Int.reduceAdd, Int.reduceSub, Int.reduceMul, Int.reduceNeg, Nat.reduceLeDiff, Nat.reduceLT, true_and, and_true, false_and, and_false, qcat_0, qcat_1, qcat_3, qcat_9, Nat.reduceEqDiff, if_true, if_false, ite_self, or_true, true_or, or_false, false_or, forall_const, not_true_eq_false, not_false_eq_true, false_implies, implies_true, qtK0, qtK1, qtK2, qtK3, qtK4, List.getD_cons_zero, List.getD_cons_succ, Int.toNat_natCast, ne_eq, qcK, hbF, bsetF, bclrF]
  apply r111x hb
  rw [sg_f]
  simp only [YK, c116, t116, cl111, cl112, cl113, tgK, lyK, rkK, wK, rfK, qRes_eq, qNon_eq, qup_ap, vup_ap, vcpy_ap, kc8_0, kc8_1, kc8_2, lc_lt, lc_gt, lc_eq, Option.toList_some, Option.toList_none, List.cons_append, List.nil_append, lay_len, lay_sz, Nat.reduceAdd, Nat.reduceSub, Nat.reduceMul, Int.reduceToNat, Int.reduceLE, Int.reduceLT, Int.reduceEq, Int.reduceAdd, Int.reduceSub, Int.reduceMul, Int.reduceNeg, Nat.reduceLeDiff, Nat.reduceLT, true_and, and_true, false_and, and_false, qcat_0, qcat_1, qcat_3, qcat_9, Nat.reduceEqDiff, if_true, if_false, ite_self, or_true, true_or, or_false, false_or, forall_const, not_true_eq_false, not_false_eq_true, false_implies, implies_true, qtK0, qtK1, qtK2, qtK3, qtK4, List.getD_cons_zero, List.getD_cons_succ, Int.toNat_natCast, ne_eq, qcK, hbF, bsetF, bclrF, w1]
  apply r112x hb
  simp only [YK, c116, t116, cl111, cl112, cl113, tgK, lyK, rkK, wK, rfK, qRes_eq, qNon_eq, qup_ap, vup_ap, vcpy_ap, kc8_0, kc8_1, kc8_2, lc_lt, lc_gt, lc_eq, Option.toList_some, Option.toList_none, List.cons_append, List.nil_append, lay_len, lay_sz, Nat.reduceAdd, Nat.reduceSub, Nat.reduceMul, Int.reduceToNat, Int.reduceLE, Int.reduceLT, Int.reduceEq, Int.reduceAdd, Int.reduceSub, Int.reduceMul, Int.reduceNeg, Nat.reduceLeDiff, Nat.reduceLT, true_and, and_true, false_and, and_false, qcat_0, qcat_1, qcat_3, qcat_9, Nat.reduceEqDiff, if_true, if_false, ite_self, or_true, true_or, or_false, false_or, forall_const, not_true_eq_false, not_false_eq_true, false_implies, implies_true, qtK0, qtK1, qtK2, qtK3, qtK4, List.getD_cons_zero, List.getD_cons_succ, Int.toNat_natCast, ne_eq, qcK, hbF, bsetF, bclrF, w1]
  apply r113 m ((k : Int) - 149) k (by omega) (by omega) (by omega) _ _
  · right
    have hq : 2 ^ 23 ≤ 2 ^ k := Nat.pow_le_pow_right (by decide) (by omega)
    exact Nat.le_trans hq (Nat.le_mul_of_pos_left _ (by omega))
  · rw [← hy1]
    by_cases hv0 : 0 < v
    · have f1 : (0 < v) = True := eq_true hv0
      simp only [YK, c116, t116, cl111, cl112, cl113, tgK, lyK, rkK, wK, rfK, qRes_eq, qNon_eq, qup_ap, vup_ap, vcpy_ap, kc8_0, kc8_1, kc8_2, lc_lt, lc_gt, lc_eq, Option.toList_some, Option.toList_none, List.cons_append, List.nil_append, lay_len, lay_sz, Nat.reduceAdd, Nat.reduceSub, Nat.reduceMul, Int.reduceToNat, Int.reduceLE, Int.reduceLT, Int.reduceEq, Int.reduceAdd, Int.reduceSub, Int.reduceMul, Int.reduceNeg, Nat.reduceLeDiff, Nat.reduceLT, true_and, and_true, false_and, and_false, qcat_0, qcat_1, qcat_3, qcat_9, Nat.reduceEqDiff, if_true, if_false, ite_self, or_true, true_or, or_false, false_or, forall_const, not_true_eq_false, not_false_eq_true, false_implies, implies_true, qtK0, qtK1, qtK2, qtK3, qtK4, List.getD_cons_zero, List.getD_cons_succ, Int.toNat_natCast, ne_eq, qcK, hbF, bsetF, bclrF, f1]
      apply r113 v 0 149 (by omega) (by omega) (by omega) (by omega) _
      rw [← hy2]
      by_cases hc : y1 < y2
      · rw [if_pos ⟨hv0, hc⟩] at hk
        have f2 : (y1 < y2) = True := eq_true hc
        simp only [YK, c116, t116, cl111, cl112, cl113, tgK, lyK, rkK, wK, rfK, qRes_eq, qNon_eq, qup_ap, vup_ap, vcpy_ap, kc8_0, kc8_1, kc8_2, lc_lt, lc_gt, lc_eq, Option.toList_some, Option.toList_none, List.cons_append, List.nil_append, lay_len, lay_sz, Nat.reduceAdd, Nat.reduceSub, Nat.reduceMul, Int.reduceToNat, Int.reduceLE, Int.reduceLT, Int.reduceEq, Int.reduceAdd, Int.reduceSub, Int.reduceMul, Int.reduceNeg, Nat.reduceLeDiff, Nat.reduceLT, true_and, and_true, false_and, and_false, qcat_0, qcat_1, qcat_3, qcat_9, Nat.reduceEqDiff, if_true, if_false, ite_self, or_true, true_or, or_false, false_or, forall_const, not_true_eq_false, not_false_eq_true, false_implies, implies_true, qtK0, qtK1, qtK2, qtK3, qtK4, List.getD_cons_zero, List.getD_cons_succ, Int.toNat_natCast, ne_eq, qcK, hbF, bsetF, bclrF, f1, f2]
        exact hk
      · rw [if_neg (fun h => hc h.2)] at hk
        have f2 : (y1 < y2) = False := eq_false hc
        simp only [YK, c116, t116, cl111, cl112, cl113, tgK, lyK, rkK, wK, rfK, qRes_eq, qNon_eq, qup_ap, vup_ap, vcpy_ap, kc8_0, kc8_1, kc8_2, lc_lt, lc_gt, lc_eq, Option.toList_some, Option.toList_none, List.cons_append, List.nil_append, lay_len, lay_sz, Nat.reduceAdd, Nat.reduceSub, Nat.reduceMul, Int.reduceToNat, Int.reduceLE, Int.reduceLT, Int.reduceEq, Int.reduceAdd, Int.reduceSub, Int.reduceMul, Int.reduceNeg, Nat.reduceLeDiff, Nat.reduceLT, true_and, and_true, false_and, and_false, qcat_0, qcat_1, qcat_3, qcat_9, Nat.reduceEqDiff, if_true, if_false, ite_self, or_true, true_or, or_false, false_or, forall_const, not_true_eq_false, not_false_eq_true, false_implies, implies_true, qtK0, qtK1, qtK2, qtK3, qtK4, List.getD_cons_zero, List.getD_cons_succ, Int.toNat_natCast, ne_eq, qcK, hbF, bsetF, bclrF, f1, f2]
        exact hk
    · have f1 : (0 < v) = False := eq_false hv0
      rw [if_neg (fun h => hv0 h.1)] at hk
      simp only [YK, c116, t116, cl111, cl112, cl113, tgK, lyK, rkK, wK, rfK, qRes_eq, qNon_eq, qup_ap, vup_ap, vcpy_ap, kc8_0, kc8_1, kc8_2, lc_lt, lc_gt, lc_eq, Option.toList_some, Option.toList_none, List.cons_append, List.nil_append, lay_len, lay_sz, Nat.reduceAdd, Nat.reduceSub, Nat.reduceMul, Int.reduceToNat, Int.reduceLE, Int.reduceLT, Int.reduceEq, Int.reduceAdd, Int.reduceSub, Int.reduceMul, Int.reduceNeg, Nat.reduceLeDiff, Nat.reduceLT, true_and, and_true, false_and, and_false, qcat_0, qcat_1, qcat_3, qcat_9, Nat.reduceEqDiff, if_true, if_false, ite_self, or_true, true_or, or_false, false_or, forall_const, not_true_eq_false, not_false_eq_true, false_implies, implies_true, qtK0, qtK1, qtK2, qtK3, qtK4, List.getD_cons_zero, List.getD_cons_succ, Int.toNat_natCast, ne_eq, qcK, hbF, bsetF, bclrF, f1]
      exact hk
