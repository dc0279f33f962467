/-! the class: breakers -/
theorem f1N (x : UInt32) : f1 ((x.toNat : Nat) : Int) = x := UInt32.ofNat_toNat
theorem fK : f1 1048576000 = 1048576000 ∧ f1 1065353216 = 1065353216 ∧ f1 0 = 0 ∧ FP.i2f (i1 1) = 1065353216 ∧ FP.i2f (i1 0) = 0 := by decide +kernel
/-- no step on the way is not a number -/
def FG (b v : Int) : Prop := vf_n32 (FP.fsub (FP.i2f (i1 v)) (f1 b)) ∧ vf_n32 (FP.fmul 1048576000 (FP.fsub (FP.i2f (i1 v)) (f1 b))) ∧ vf_n32 (FP.fadd (f1 b) (FP.fmul 1048576000 (FP.fsub (FP.i2f (i1 v)) (f1 b))))
def FHalf (b : Int) : Prop := (0 < (Op.cmpValue (FP.fcmp (f1 b) (f1 1056964608)) .l).toInt) = (1056964608 < b)
def FLT2 : Prop := (∀ m b v : Int, RtOK m b → -3 ≤ m → m ≤ 24 → (v = 0 ∨ v = 1) → FG b v) ∧ (∀ m b : Int, RtOK m b → -3 ≤ m → m ≤ 25 → FHalf b) ∧ (∀ b v : Int, LnOK b → 1 ≤ v → v ≤ 79 → FG b v) ∧ (∀ k b : Int, LnOK b → (k = 1 ∨ k = 2) → vf_n32 (FP.fmul (FP.i2f (i1 k)) (f1 b)))
theorem CR.brk {p u : Nat} {sp : Int} {C X X2 : XT} {L : LT} {e b : Int} {F F2 : XT} (hR : CR p u sp C X L e b F) {h : Nat} (hh : h < 4) (hF : ∀ c, c ≠ hB h → F2 c = F c) (hX : ∀ c g, g ≠ h → X2 c g = X c g) (hX0 : ∀ c, c ≠ 108 → c ≠ 109 → c ≠ 110 → c ≠ 111 → c ≠ 112 → c ≠ 116 → X2 c = X c) (hC : CBk X2 h (F2 (hB h))) : CR p u sp C X2 L e b F2 := by
  refine hR.host hh (fun c _ c2 _ _ _ => hF c c2) (fun _ _ _ => rfl) (fun c g _ _ hg => hX c g hg) (fun c hc => hX0 c (by omega) (by omega) (by omega) (by omega) (by omega) (by omega)) ?_
  obtain ⟨q1, q2, q3, q4, q5, -⟩ := hR.2.2.2.2.2 h hh
  unfold CH
  rw [hF (hO h) (by unfold hO hB; omega), hF (hW h) (by unfold hW hB; omega), hF (hA h) (by unfold hA hB; omega), hF (hE h) (by unfold hE hB; omega), hX0 113 (by decide) (by decide) (by decide) (by decide) (by decide) (by decide), hX0 114 (by decide) (by decide) (by decide) (by decide) (by decide) (by decide), hX0 115 (by decide) (by decide) (by decide) (by decide) (by decide) (by decide), hX0 117 (by decide) (by decide) (by decide) (by decide) (by decide) (by decide)]
  exact ⟨q1, q2, q3, q4, q5, hC⟩
def OB (X : XT) (h : Nat) : Prop := X 109 h = 1 ∨ (X 109 h = 0 ∧ 0 ≤ X 108 h ∧ X 108 h ≤ 79)
theorem k3 {tb : qTb} {p u : Nat} {sp : Int} {C X F : XT} {L : LT} {e b : Int} {R : Option qV → qM → Prop} (hR : CR p u sp C X L e b F) (h : Nat) (hh : h < 4) (t : Int) (ht : 0 ≤ t ∧ t ≤ 80) (hO : OB X h) (hk : R (some (0, pBrk X h t)) (LAY, F)) : qW tb 3 (119, 1262) 0 [(3, ((hB h : Nat) : Int)), (0, t)] [] (LAY, F) R := by
  have hr := Rf_k hR.rf
  have hx := hR.k
  unfold CD at hx
  have hg := hR.h hh
  have hc0 := hcK0 hh
  have hc1 := hcK1 h
  have hc2 := hcK2 h
  have q := hR.2.2.2.2.2 h hh
  have e2 := q.2.2.2.2.2.2.2.1
  unfold pBrk at hk
  rcases hO with hO | ⟨hO, h1, h2⟩
  · rw [if_neg (by omega)] at e2 hk
    simp only [YK, c3, t3, tgK, lyK, rkK, wK, rfK, hr, qRes_eq, qNon_eq, qup_ap, vup_ap, vcpy_ap, kc8_0, kc8_1, kc8_2, lc_lt, lc_gt, lc_eq, Option.toList_some, Option.toList_none, List.cons_append, List.nil_append, lay_len, lay_sz, Nat.reduceAdd, Nat.reduceSub, Nat.reduceMul, Int.reduceToNat, Int.reduceLE, Int.reduceLT, Int.reduceEq, Int.reduceAdd, Int.reduceSub, Int.reduceMul, Int.reduceNeg, Nat.reduceLeDiff, Nat.reduceLT, true_and, and_true, false_and, and_false, qcat_0, qcat_1, qcat_3, qcat_9, Nat.reduceEqDiff, if_true, if_false, ite_self, or_true, true_or, or_false, false_or, forall_const, not_true_eq_false, not_false_eq_true, false_implies, implies_true, qtK0, qtK1, qtK2, qtK3, qtK4, List.getD_cons_zero, List.getD_cons_succ, hx, Int.toNat_natCast, ne_eq, qcK, hbF, bsetF, bclrF, hg, hc0, hc1, hc2, e2]
    exact hk
  · rw [if_pos hO] at e2 hk
    have c0 : (X 108 h = -1) = False := eq_false (by omega)
    have w1 : w32 (t - X 108 h) = t - X 108 h := w32_id ⟨by omega, by omega⟩
    have w2 : w32 (X 108 h + 5) = X 108 h + 5 := w32_id ⟨by omega, by omega⟩
    rw [w2] at hk
    by_cases c : t - X 108 h < 6
    · rw [if_neg (by omega)] at hk
      simp only [YK, c3, t3, tgK, lyK, rkK, wK, rfK, hr, qRes_eq, qNon_eq, qup_ap, vup_ap, vcpy_ap, kc8_0, kc8_1, kc8_2, lc_lt, lc_gt, lc_eq, Option.toList_some, Option.toList_none, List.cons_append, List.nil_append, lay_len, lay_sz, Nat.reduceAdd, Nat.reduceSub, Nat.reduceMul, Int.reduceToNat, Int.reduceLE, Int.reduceLT, Int.reduceEq, Int.reduceAdd, Int.reduceSub, Int.reduceMul, Int.reduceNeg, Nat.reduceLeDiff, Nat.reduceLT, true_and, and_true, false_and, and_false, qcat_0, qcat_1, qcat_3, qcat_9, Nat.reduceEqDiff, if_true, if_false, ite_self, or_true, true_or, or_false, false_or, forall_const, not_true_eq_false, not_false_eq_true, false_implies, implies_true, qtK0, qtK1, qtK2, qtK3, qtK4, List.getD_cons_zero, List.getD_cons_succ, hx, Int.toNat_natCast, ne_eq, qcK, hbF, bsetF, bclrF, hg, hc0, hc1, hc2, e2, c0, w1, c]
      exact hk
    · rw [if_pos (by omega)] at hk
      simp only [YK, c3, t3, tgK, lyK, rkK, wK, rfK, hr, qRes_eq, qNon_eq, qup_ap, vup_ap, vcpy_ap, kc8_0, kc8_1, kc8_2, lc_lt, lc_gt, lc_eq, Option.toList_some, Option.toList_none, List.cons_append, List.nil_append, lay_len, lay_sz, Nat.reduceAdd, Nat.reduceSub, Nat.reduceMul, Int.reduceToNat, Int.reduceLE, Int.reduceLT, Int.reduceEq, Int.reduceAdd, Int.reduceSub, Int.reduceMul, Int.reduceNeg, Nat.reduceLeDiff, Nat.reduceLT, true_and, and_true, false_and, and_false, qcat_0, qcat_1, qcat_3, qcat_9, Nat.reduceEqDiff, if_true, if_false, ite_self, or_true, true_or, or_false, false_or, forall_const, not_true_eq_false, not_false_eq_true, false_implies, implies_true, qtK0, qtK1, qtK2, qtK3, qtK4, List.getD_cons_zero, List.getD_cons_succ, hx, Int.toNat_natCast, ne_eq, qcK, hbF, bsetF, bclrF, hg, hc0, hc1, hc2, e2, c0, w1, c]
      exact hk
theorem k4 {tb : qTb} {p u : Nat} {sp : Int} {C X F : XT} {L : LT} {e b : Int} {R : Option qV → qM → Prop} (hR : CR p u sp C X L e b F) (h : Nat) (hh : h < 4) (t n : Int) (ht : 0 ≤ t ∧ t ≤ 80) (hO : OB X h) (hk : R (some (0, b01 (pBrk X h t = 0 ∨ (pBrk X h t = 2 ∧ n = 0)))) (LAY, F)) : qW tb 4 (119, 1262) 0 [(3, ((hB h : Nat) : Int)), (0, t), (0, n)] [] (LAY, F) R := by
  have hr := Rf_k hR.rf
  have hx := hR.k
  unfold CD at hx
  have hg := hR.h hh
  have hc0 := hcK0 hh
  have hc1 := hcK1 h
  have hc2 := hcK2 h
  have q := hR.2.2.2.2.2 h hh
  have e2 := q.2.2.2.2.2.2.2.1
  unfold pBrk at hk
  rcases hO with hO | ⟨hO, h1, h2⟩
  · have hO2 : ¬ X 109 h = 0 := by omega
    rw [if_neg hO2] at e2
    rw [b01_t (Or.inl (if_neg hO2))] at hk
    simp only [YK, c4, t4, tgK, lyK, rkK, wK, rfK, hr, qRes_eq, qNon_eq, qup_ap, vup_ap, vcpy_ap, kc8_0, kc8_1, kc8_2, lc_lt, lc_gt, lc_eq, Option.toList_some, Option.toList_none, List.cons_append, List.nil_append, lay_len, lay_sz, Nat.reduceAdd, Nat.reduceSub, Nat.reduceMul, Int.reduceToNat, Int.reduceLE, Int.reduceLT, Int.reduceEq, Int.reduceAdd, Int.reduceSub, Int.reduceMul, Int.reduceNeg, Nat.reduceLeDiff, Nat.reduceLT, true_and, and_true, false_and, and_false, qcat_0, qcat_1, qcat_3, qcat_9, Nat.reduceEqDiff, if_true, if_false, ite_self, or_true, true_or, or_false, false_or, forall_const, not_true_eq_false, not_false_eq_true, false_implies, implies_true, qtK0, qtK1, qtK2, qtK3, qtK4, List.getD_cons_zero, List.getD_cons_succ, hx, Int.toNat_natCast, ne_eq, qcK, hbF, bsetF, bclrF, hg, hc0, hc1, hc2, e2]
    exact hk
  · rw [if_pos hO] at e2
    have c0 : (X 108 h = -1) = False := eq_false (by omega)
    have w1 : w32 (t - X 108 h) = t - X 108 h := w32_id ⟨by omega, by omega⟩
    have w2 : w32 (X 108 h + 5) = X 108 h + 5 := w32_id ⟨by omega, by omega⟩
    by_cases c : t - X 108 h < 6
    · rw [b01_f (by rw [if_pos hO, w2, if_neg (by omega)]; omega)] at hk
      simp only [YK, c4, t4, tgK, lyK, rkK, wK, rfK, hr, qRes_eq, qNon_eq, qup_ap, vup_ap, vcpy_ap, kc8_0, kc8_1, kc8_2, lc_lt, lc_gt, lc_eq, Option.toList_some, Option.toList_none, List.cons_append, List.nil_append, lay_len, lay_sz, Nat.reduceAdd, Nat.reduceSub, Nat.reduceMul, Int.reduceToNat, Int.reduceLE, Int.reduceLT, Int.reduceEq, Int.reduceAdd, Int.reduceSub, Int.reduceMul, Int.reduceNeg, Nat.reduceLeDiff, Nat.reduceLT, true_and, and_true, false_and, and_false, qcat_0, qcat_1, qcat_3, qcat_9, Nat.reduceEqDiff, if_true, if_false, ite_self, or_true, true_or, or_false, false_or, forall_const, not_true_eq_false, not_false_eq_true, false_implies, implies_true, qtK0, qtK1, qtK2, qtK3, qtK4, List.getD_cons_zero, List.getD_cons_succ, hx, Int.toNat_natCast, ne_eq, qcK, hbF, bsetF, bclrF, hg, hc0, hc1, hc2, e2, c0, w1, c]
      exact hk
    · by_cases c2 : n = 0
      · rw [b01_t (by rw [if_pos hO, w2, if_pos (by omega)]; exact Or.inr ⟨rfl, c2⟩)] at hk
        simp only [YK, c4, t4, tgK, lyK, rkK, wK, rfK, hr, qRes_eq, qNon_eq, qup_ap, vup_ap, vcpy_ap, kc8_0, kc8_1, kc8_2, lc_lt, lc_gt, lc_eq, Option.toList_some, Option.toList_none, List.cons_append, List.nil_append, lay_len, lay_sz, Nat.reduceAdd, Nat.reduceSub, Nat.reduceMul, Int.reduceToNat, Int.reduceLE, Int.reduceLT, Int.reduceEq, Int.reduceAdd, Int.reduceSub, Int.reduceMul, Int.reduceNeg, Nat.reduceLeDiff, Nat.reduceLT, true_and, and_true, false_and, and_false, qcat_0, qcat_1, qcat_3, qcat_9, Nat.reduceEqDiff, if_true, if_false, ite_self, or_true, true_or, or_false, false_or, forall_const, not_true_eq_false, not_false_eq_true, false_implies, implies_true, qtK0, qtK1, qtK2, qtK3, qtK4, List.getD_cons_zero, List.getD_cons_succ, hx, Int.toNat_natCast, ne_eq, qcK, hbF, bsetF, bclrF, hg, hc0, hc1, hc2, e2, c0, w1, c, c2]
        exact hk
      · rw [b01_f (by rw [if_pos hO, w2, if_pos (by omega)]; omega)] at hk
        simp only [YK, c4, t4, tgK, lyK, rkK, wK, rfK, hr, qRes_eq, qNon_eq, qup_ap, vup_ap, vcpy_ap, kc8_0, kc8_1, kc8_2, lc_lt, lc_gt, lc_eq, Option.toList_some, Option.toList_none, List.cons_append, List.nil_append, lay_len, lay_sz, Nat.reduceAdd, Nat.reduceSub, Nat.reduceMul, Int.reduceToNat, Int.reduceLE, Int.reduceLT, Int.reduceEq, Int.reduceAdd, Int.reduceSub, Int.reduceMul, Int.reduceNeg, Nat.reduceLeDiff, Nat.reduceLT, true_and, and_true, false_and, and_false, qcat_0, qcat_1, qcat_3, qcat_9, Nat.reduceEqDiff, if_true, if_false, ite_self, or_true, true_or, or_false, false_or, forall_const, not_true_eq_false, not_false_eq_true, false_implies, implies_true, qtK0, qtK1, qtK2, qtK3, qtK4, List.getD_cons_zero, List.getD_cons_succ, hx, Int.toNat_natCast, ne_eq, qcK, hbF, bsetF, bclrF, hg, hc0, hc1, hc2, e2, c0, w1, c, c2]
        exact hk
/-- the bits of a byte, counted by the library -/
def bcU (x k : Int) : Int := ((i1 x).toUInt32 >>> ((i1 k).toUInt32 &&& Int32.toUInt32 31)).toInt32.toInt
def bcA (i : Int) : Int := w32 (i - (i1 (bcU i 1) &&& i1 1431655765).toInt)
def bcB (i : Int) : Int := w32 ((i1 i &&& i1 858993459).toInt + (i1 (bcU i 2) &&& i1 858993459).toInt)
def bcC (i : Int) : Int := (i1 (w32 (i + bcU i 4)) &&& i1 252645135).toInt
def bcD (i : Int) : Int := w32 (i + bcU i 8)
def bcE (i : Int) : Int := w32 (i + bcU i 16)
def pBc (i : Int) : Int := (i1 (bcE (bcD (bcC (bcB (bcA i))))) &&& i1 63).toInt
theorem k179 {tb : qTb} {F : XT} {R : Option qV → qM → Prop} (i : Int) (hk : R (some (0, pBc i)) (LAY, F)) : qW tb 179 (119, 1262) 0 [(0, i)] [] (LAY, F) R := by
  unfold pBc bcE bcD bcC bcB bcA bcU at hk
  simp only [YK, c179, t179, tgK, lyK, rkK, wK, rfK, qRes_eq, qNon_eq, qup_ap, vup_ap, vcpy_ap, kc8_0, kc8_1, kc8_2, lc_lt, lc_gt, lc_eq, Option.toList_some, Option.toList_none, List.cons_append, List.nil_append, lay_len, lay_sz, Nat.reduceAdd, Nat.reduceSub, Nat.reduceMul, Int.reduceToNat, Int.reduceLE, Int.reduceLT, Int.reduceEq, Int.reduceAdd, Int.reduceSub, Int.reduceMul, Int.reduceNeg, Nat.reduceLeDiff, Nat.reduceLT, true_and, and_true, false_and, and_false, qcat_0, qcat_1, qcat_3, qcat_9, Nat.reduceEqDiff, if_true, if_false, ite_self, or_true, true_or, or_false, false_or, forall_const, not_true_eq_false, not_false_eq_true, false_implies, implies_true, qtK0, qtK1, qtK2, qtK3, qtK4, List.getD_cons_zero, List.getD_cons_succ, Int.toNat_natCast, ne_eq, qcK]
  exact hk
theorem pBc_ones : ∀ s : Fin 256, pBc ((s : Nat) : Int) = pOnes ((s : Nat) : Int) := by decide +kernel
theorem pBc_ones' {s : Int} (h : 0 ≤ s ∧ s < 256) : pBc s = pOnes s := by
  have q := pBc_ones ⟨s.toNat, by omega⟩
  have e : ((s.toNat : Nat) : Int) = s := by omega
  dsimp only at q
  rw [e] at q
  exact q
theorem sh8 : ∀ s : Fin 256, (i1 (i1 (i1 ((s : Nat) : Int) <<< (i1 1 &&& 31)).toInt ||| i1 1).toInt &&& i1 255).toInt = (2 * ((s : Nat) : Int) + 1) % 256 ∧ (i1 (i1 (i1 ((s : Nat) : Int) <<< (i1 1 &&& 31)).toInt ||| i1 0).toInt &&& i1 255).toInt = (2 * ((s : Nat) : Int) + 0) % 256 := by decide +kernel
theorem sh8' {s : Int} (h : 0 ≤ s ∧ s < 256) : (i1 (i1 (i1 s <<< (i1 1 &&& 31)).toInt ||| i1 1).toInt &&& i1 255).toInt = (2 * s + 1) % 256 ∧ (i1 (i1 (i1 s <<< (i1 1 &&& 31)).toInt ||| i1 0).toInt &&& i1 255).toInt = (2 * s + 0) % 256 := by
  have q := sh8 ⟨s.toNat, by omega⟩
  have e : ((s.toNat : Nat) : Int) = s := by omega
  dsimp only at q
  rw [e] at q
  exact q
/-- too bad: the breaker opens -/
def TB (X : XT) (h : Nat) : Prop := (X 97 3 = 1 ∧ X 110 h % 8 = 7) ∨ (X 97 3 = 2 ∧ 3 < X 111 h ∧ X 111 h ≤ 2 * pOnes (X 110 h)) ∨ (X 97 3 = 3 ∧ 1056964608 < X 112 h)
theorem pNt_v {X : XT} {h : Nat} {bad : Bool} : pNt X h bad 97 = X 97 ∧ pNt X h bad 110 h = (2 * X 110 h + bi bad) % 256 ∧ pNt X h bad 111 h = (if X 111 h < 8 then X 111 h + 1 else 8) ∧ pNt X h bad 112 h = (if X 97 3 = 3 then twF (X 112 h) (bi bad) else 0) := by
  unfold pNt
  refine ⟨?_, ?_, ?_, ?_⟩
  · rw [qup_c (by decide), qup_c (by decide), qup_c (by decide)]
  · rw [qup_c (by decide), qup_c (by decide), qup_ap, if_pos rfl, if_pos rfl]
  · rw [qup_c (by decide), qup_ap, if_pos rfl, if_pos rfl]
  · rw [qup_ap, if_pos rfl, if_pos rfl]
theorem tb_1 {X : XT} {h : Nat} (hx : X 97 3 = 1) : TB X h ↔ X 110 h % 8 = 7 := by unfold TB; rw [hx]; simp
theorem tb_2 {X : XT} {h : Nat} (hx : X 97 3 = 2) : TB X h ↔ (3 < X 111 h ∧ X 111 h ≤ 2 * pOnes (X 110 h)) := by unfold TB; rw [hx]; simp
theorem tb_3 {X : XT} {h : Nat} (hx : X 97 3 = 3) : TB X h ↔ 1056964608 < X 112 h := by unfold TB; rw [hx]; simp
theorem tb_0 {X : XT} {h : Nat} (hx : X 97 3 = 0) : ¬ TB X h := by unfold TB; rw [hx]; simp
theorem k6 {tb : qTb} {p u : Nat} {sp : Int} {C X F : XT} {L : LT} {e b : Int} {R : Option qV → qM → Prop} (hR : CR p u sp C X L e b F) (h : Nat) (hh : h < 4) (bad : Bool) (tbD : Decidable (TB (pNt X h bad) h)) (hK : 0 ≤ X 97 3 ∧ X 97 3 ≤ 3) (hN : 0 ≤ X 110 h ∧ X 110 h < 256) (hM : 0 ≤ X 111 h ∧ X 111 h ≤ 8) (hZ : X 97 3 ≠ 3 → X 112 h = 0) (hT : X 97 3 = 3 → FG (X 112 h) (bi bad) ∧ FHalf (twF (X 112 h) (bi bad))) (hk : ∀ F2 : XT, (∀ c, c ≠ hB h → F2 c = F c) → F2 (hB h) 0 = X 116 h → F2 (hB h) 2 = F (hB h) 2 → F2 (hB h) 1 = pNt X h bad 112 h → (¬ TB (pNt X h bad) h → X 97 3 = 1 → BR1 (F2 (hB h) 3) (pNt X h bad 110 h)) → (X 97 3 = 2 → F2 (hB h) 4 = pNt X h bad 110 h ∧ F2 (hB h) 5 = pNt X h bad 111 h) → R (some (0, b01 (TB (pNt X h bad) h))) (LAY, F2)) : qW tb 6 (119, 1262) 0 [(3, ((hB h : Nat) : Int)), (0, bi bad), (0, X 97 3)] [] (LAY, F) R := by
  have hr := Rf_k hR.rf
  have hx := hR.k
  unfold CD at hx
  have hg := hR.h hh
  have hc0 := hcK0 hh
  have hc1 := hcK1 h
  have hc2 := hcK2 h
  have q := hR.2.2.2.2.2 h hh
  obtain ⟨n1, n2, n3, n4⟩ := pNt_v (X := X) (h := h) (bad := bad)
  have n1' : pNt X h bad 97 3 = X 97 3 := by rw [n1]
  have hs : X 97 3 = 0 ∨ X 97 3 = 1 ∨ X 97 3 = 2 ∨ X 97 3 = 3 := by omega
  obtain ⟨q0, q1, q2, q3, q4⟩ := q.2.2.2.2.2
  rcases hs with hs | hs | hs | hs
  · rw [hs]
    rw [b01_f (tb_0 (n1'.trans hs))] at hk
    have hq := hk F (fun _ _ => rfl) q0 rfl (by rw [n4, if_neg (by omega), q1, hZ (by omega)]) (fun _ h => by omega) (fun h => by omega)
    simp only [YK, c6, t6, tgK, lyK, rkK, wK, rfK, hr, qRes_eq, qNon_eq, qup_ap, vup_ap, vcpy_ap, kc8_0, kc8_1, kc8_2, lc_lt, lc_gt, lc_eq, Option.toList_some, Option.toList_none, List.cons_append, List.nil_append, lay_len, lay_sz, Nat.reduceAdd, Nat.reduceSub, Nat.reduceMul, Int.reduceToNat, Int.reduceLE, Int.reduceLT, Int.reduceEq, Int.reduceAdd, Int.reduceSub, Int.reduceMul, Int.reduceNeg, Nat.reduceLeDiff, Nat.reduceLT, true_and, and_true, false_and, and_false, qcat_0, qcat_1, qcat_3, qcat_9, Nat.reduceEqDiff, if_true, if_false, ite_self, or_true, true_or, or_false, false_or, forall_const, not_true_eq_false, not_false_eq_true, false_implies, implies_true, qtK0, qtK1, qtK2, qtK3, qtK4, List.getD_cons_zero, List.getD_cons_succ, hx, Int.toNat_natCast, ne_eq, qcK, hbF, bsetF, bclrF, hg, hc0, hc1, hc2]
    exact hq
  · rw [hs]
    rw [b01_eq (tb_1 (n1'.trans hs))] at hk
    have hb := q3 hs
    cases bad with
    | true =>
      rw [n2, bi_t] at hk
      rw [bi_t]
      have w1 : w32 (F (hB h) 3 + 1) = F (hB h) 3 + 1 := by unfold BR1 at hb; exact w32_id ⟨by omega, by omega⟩
      have hq := hk (qup F (hB h) 3 (F (hB h) 3 + 1)) (fun c hc => qup_c hc) (by rw [qup_ap, if_pos rfl, if_neg (by decide), q0]) (by rw [qup_ap, if_pos rfl, if_neg (by decide)]) (by rw [qup_ap, if_pos rfl, if_neg (by decide), n4, if_neg (by omega), q1, hZ (by omega)]) (fun hn _ => by
        rw [tb_1 (n1'.trans hs), n2, bi_t] at hn
        rw [qup_ap, if_pos rfl, if_pos rfl]
        unfold BR1 at hb ⊢
        omega) (fun h => by omega)
      by_cases c : F (hB h) 3 + 1 < 3
      · rw [b01_f (by unfold BR1 at hb; omega)] at hq
        simp only [YK, c6, t6, tgK, lyK, rkK, wK, rfK, hr, qRes_eq, qNon_eq, qup_ap, vup_ap, vcpy_ap, kc8_0, kc8_1, kc8_2, lc_lt, lc_gt, lc_eq, Option.toList_some, Option.toList_none, List.cons_append, List.nil_append, lay_len, lay_sz, Nat.reduceAdd, Nat.reduceSub, Nat.reduceMul, Int.reduceToNat, Int.reduceLE, Int.reduceLT, Int.reduceEq, Int.reduceAdd, Int.reduceSub, Int.reduceMul, Int.reduceNeg, Nat.reduceLeDiff, Nat.reduceLT, true_and, and_true, false_and, and_false, qcat_0, qcat_1, qcat_3, qcat_9, Nat.reduceEqDiff, if_true, if_false, ite_self, or_true, true_or, or_false, false_or, forall_const, not_true_eq_false, not_false_eq_true, false_implies, implies_true, qtK0, qtK1, qtK2, qtK3, qtK4, List.getD_cons_zero, List.getD_cons_succ, hx, Int.toNat_natCast, ne_eq, qcK, hbF, bsetF, bclrF, hg, hc0, hc1, hc2, w1, c]
        exact hq
      · rw [b01_t (by unfold BR1 at hb; omega)] at hq
        simp only [YK, c6, t6, tgK, lyK, rkK, wK, rfK, hr, qRes_eq, qNon_eq, qup_ap, vup_ap, vcpy_ap, kc8_0, kc8_1, kc8_2, lc_lt, lc_gt, lc_eq, Option.toList_some, Option.toList_none, List.cons_append, List.nil_append, lay_len, lay_sz, Nat.reduceAdd, Nat.reduceSub, Nat.reduceMul, Int.reduceToNat, Int.reduceLE, Int.reduceLT, Int.reduceEq, Int.reduceAdd, Int.reduceSub, Int.reduceMul, Int.reduceNeg, Nat.reduceLeDiff, Nat.reduceLT, true_and, and_true, false_and, and_false, qcat_0, qcat_1, qcat_3, qcat_9, Nat.reduceEqDiff, if_true, if_false, ite_self, or_true, true_or, or_false, false_or, forall_const, not_true_eq_false, not_false_eq_true, false_implies, implies_true, qtK0, qtK1, qtK2, qtK3, qtK4, List.getD_cons_zero, List.getD_cons_succ, hx, Int.toNat_natCast, ne_eq, qcK, hbF, bsetF, bclrF, hg, hc0, hc1, hc2, w1, c]
        exact hq
    | false =>
      rw [n2, bi_f] at hk
      rw [bi_f]
      have hq := hk (qup F (hB h) 3 0) (fun c hc => qup_c hc) (by rw [qup_ap, if_pos rfl, if_neg (by decide), q0]) (by rw [qup_ap, if_pos rfl, if_neg (by decide)]) (by rw [qup_ap, if_pos rfl, if_neg (by decide), n4, if_neg (by omega), q1, hZ (by omega)]) (fun hn _ => by
        rw [qup_ap, if_pos rfl, if_pos rfl]
        unfold BR1
        omega) (fun h => by omega)
      rw [b01_f (by omega)] at hq
      simp only [YK, c6, t6, tgK, lyK, rkK, wK, rfK, hr, qRes_eq, qNon_eq, qup_ap, vup_ap, vcpy_ap, kc8_0, kc8_1, kc8_2, lc_lt, lc_gt, lc_eq, Option.toList_some, Option.toList_none, List.cons_append, List.nil_append, lay_len, lay_sz, Nat.reduceAdd, Nat.reduceSub, Nat.reduceMul, Int.reduceToNat, Int.reduceLE, Int.reduceLT, Int.reduceEq, Int.reduceAdd, Int.reduceSub, Int.reduceMul, Int.reduceNeg, Nat.reduceLeDiff, Nat.reduceLT, true_and, and_true, false_and, and_false, qcat_0, qcat_1, qcat_3, qcat_9, Nat.reduceEqDiff, if_true, if_false, ite_self, or_true, true_or, or_false, false_or, forall_const, not_true_eq_false, not_false_eq_true, false_implies, implies_true, qtK0, qtK1, qtK2, qtK3, qtK4, List.getD_cons_zero, List.getD_cons_succ, hx, Int.toNat_natCast, ne_eq, qcK, hbF, bsetF, bclrF, hg, hc0, hc1, hc2]
      exact hq
  · rw [hs]
    rw [b01_eq (tb_2 (n1'.trans hs))] at hk
    obtain ⟨e4, e5⟩ := q4 hs
    have hp := pOnes_r' (s := (2 * X 110 h + bi bad) % 256) (by omega)
    have hbc := pBc_ones' (s := (2 * X 110 h + bi bad) % 256) (by omega)
    have w1 : w32 (X 111 h + 1) = X 111 h + 1 := w32_id ⟨by omega, by omega⟩
    have w2 : w32 (2 * pOnes ((2 * X 110 h + bi bad) % 256)) = 2 * pOnes ((2 * X 110 h + bi bad) % 256) := w32_id ⟨by omega, by omega⟩
    have e6 : (if 8 < X 111 h + 1 then 8 else X 111 h + 1) = (if X 111 h < 8 then X 111 h + 1 else 8) := by
      by_cases c : X 111 h < 8
      · rw [if_neg (by omega), if_pos c]
      · rw [if_pos (by omega), if_neg c]
    have hs8 := sh8' hN
    have hq := hk (qup (qup F (hB h) 4 ((2 * X 110 h + bi bad) % 256)) (hB h) 5 (if X 111 h < 8 then X 111 h + 1 else 8)) (fun c hc => by rw [qup_c hc, qup_c hc]) (by rw [qup_ap, if_pos rfl, if_neg (by decide), qup_ap, if_pos rfl, if_neg (by decide), q0]) (by rw [qup_ap, if_pos rfl, if_neg (by decide), qup_ap, if_pos rfl, if_neg (by decide)]) (by rw [qup_ap, if_pos rfl, if_neg (by decide), qup_ap, if_pos rfl, if_neg (by decide), n4, if_neg (by omega), q1, hZ (by omega)]) (fun hn hx => by omega) (fun _ => by
        rw [qup_ap, if_pos rfl, if_neg (by decide), qup_ap, if_pos rfl, if_pos rfl, qup_ap, if_pos rfl, if_pos rfl, n2, n3]; exact ⟨rfl, rfl⟩)
    rw [n2, n3] at hq
    generalize hnn : (if X 111 h < 8 then X 111 h + 1 else 8) = nn at hq e6
    cases bad with
    | true =>
      rw [bi_t] at hq hp hbc w2 ⊢
      by_cases c : nn < 4
      · rw [b01_f (by omega)] at hq
        simp only [YK, c6, t6, tgK, lyK, rkK, wK, rfK, hr, qRes_eq, qNon_eq, qup_ap, vup_ap, vcpy_ap, kc8_0, kc8_1, kc8_2, lc_lt, lc_gt, lc_eq, Option.toList_some, Option.toList_none, List.cons_append, List.nil_append, lay_len, lay_sz, Nat.reduceAdd, Nat.reduceSub, Nat.reduceMul, Int.reduceToNat, Int.reduceLE, Int.reduceLT, Int.reduceEq, Int.reduceAdd, Int.reduceSub, Int.reduceMul, Int.reduceNeg, Nat.reduceLeDiff, Nat.reduceLT, true_and, and_true, false_and, and_false, qcat_0, qcat_1, qcat_3, qcat_9, Nat.reduceEqDiff, if_true, if_false, ite_self, or_true, true_or, or_false, false_or, forall_const, not_true_eq_false, not_false_eq_true, false_implies, implies_true, qtK0, qtK1, qtK2, qtK3, qtK4, List.getD_cons_zero, List.getD_cons_succ, hx, Int.toNat_natCast, ne_eq, qcK, hbF, bsetF, bclrF, hg, hc0, hc1, hc2, e4, e5, hs8, w1, e6, c]
        exact hq
      · by_cases c2 : 2 * pOnes ((2 * X 110 h + 1) % 256) < nn
        · rw [b01_f (by omega)] at hq
          simp only [YK, c6, t6, cl179, tgK, lyK, rkK, wK, rfK, hr, qRes_eq, qNon_eq, qup_ap, vup_ap, vcpy_ap, kc8_0, kc8_1, kc8_2, lc_lt, lc_gt, lc_eq, Option.toList_some, Option.toList_none, List.cons_append, List.nil_append, lay_len, lay_sz, Nat.reduceAdd, Nat.reduceSub, Nat.reduceMul, Int.reduceToNat, Int.reduceLE, Int.reduceLT, Int.reduceEq, Int.reduceAdd, Int.reduceSub, Int.reduceMul, Int.reduceNeg, Nat.reduceLeDiff, Nat.reduceLT, true_and, and_true, false_and, and_false, qcat_0, qcat_1, qcat_3, qcat_9, Nat.reduceEqDiff, if_true, if_false, ite_self, or_true, true_or, or_false, false_or, forall_const, not_true_eq_false, not_false_eq_true, false_implies, implies_true, qtK0, qtK1, qtK2, qtK3, qtK4, List.getD_cons_zero, List.getD_cons_succ, hx, Int.toNat_natCast, ne_eq, qcK, hbF, bsetF, bclrF, hg, hc0, hc1, hc2, e4, e5, hs8, w1, e6, c]
          refine k179 _ ?_
          simp only [YK, c6, t6, tgK, lyK, rkK, wK, rfK, hr, qRes_eq, qNon_eq, qup_ap, vup_ap, vcpy_ap, kc8_0, kc8_1, kc8_2, lc_lt, lc_gt, lc_eq, Option.toList_some, Option.toList_none, List.cons_append, List.nil_append, lay_len, lay_sz, Nat.reduceAdd, Nat.reduceSub, Nat.reduceMul, Int.reduceToNat, Int.reduceLE, Int.reduceLT, Int.reduceEq, Int.reduceAdd, Int.reduceSub, Int.reduceMul, Int.reduceNeg, Nat.reduceLeDiff, Nat.reduceLT, true_and, and_true, false_and, and_false, qcat_0, qcat_1, qcat_3, qcat_9, Nat.reduceEqDiff, if_true, if_false, ite_self, or_true, true_or, or_false, false_or, forall_const, not_true_eq_false, not_false_eq_true, false_implies, implies_true, qtK0, qtK1, qtK2, qtK3, qtK4, List.getD_cons_zero, List.getD_cons_succ, hx, Int.toNat_natCast, ne_eq, qcK, hbF, bsetF, bclrF, hg, hc0, hc1, hc2, hbc, w2, c2]
          exact hq
        · rw [b01_t (by omega)] at hq
          simp only [YK, c6, t6, cl179, tgK, lyK, rkK, wK, rfK, hr, qRes_eq, qNon_eq, qup_ap, vup_ap, vcpy_ap, kc8_0, kc8_1, kc8_2, lc_lt, lc_gt, lc_eq, Option.toList_some, Option.toList_none, List.cons_append, List.nil_append, lay_len, lay_sz, Nat.reduceAdd, Nat.reduceSub, Nat.reduceMul, Int.reduceToNat, Int.reduceLE, Int.reduceLT, Int.reduceEq, Int.reduceAdd, Int.reduceSub, Int.reduceMul, Int.reduceNeg, Nat.reduceLeDiff, Nat.reduceLT, true_and, and_true, false_and, and_false, qcat_0, qcat_1, qcat_3, qcat_9, Nat.reduceEqDiff, if_true, if_false, ite_self, or_true, true_or, or_false, false_or, forall_const, not_true_eq_false, not_false_eq_true, false_implies, implies_true, qtK0, qtK1, qtK2, qtK3, qtK4, List.getD_cons_zero, List.getD_cons_succ, hx, Int.toNat_natCast, ne_eq, qcK, hbF, bsetF, bclrF, hg, hc0, hc1, hc2, e4, e5, hs8, w1, e6, c]
          refine k179 _ ?_
          simp only [YK, c6, t6, tgK, lyK, rkK, wK, rfK, hr, qRes_eq, qNon_eq, qup_ap, vup_ap, vcpy_ap, kc8_0, kc8_1, kc8_2, lc_lt, lc_gt, lc_eq, Option.toList_some, Option.toList_none, List.cons_append, List.nil_append, lay_len, lay_sz, Nat.reduceAdd, Nat.reduceSub, Nat.reduceMul, Int.reduceToNat, Int.reduceLE, Int.reduceLT, Int.reduceEq, Int.reduceAdd, Int.reduceSub, Int.reduceMul, Int.reduceNeg, Nat.reduceLeDiff, Nat.reduceLT, true_and, and_true, false_and, and_false, qcat_0, qcat_1, qcat_3, qcat_9, Nat.reduceEqDiff, if_true, if_false, ite_self, or_true, true_or, or_false, false_or, forall_const, not_true_eq_false, not_false_eq_true, false_implies, implies_true, qtK0, qtK1, qtK2, qtK3, qtK4, List.getD_cons_zero, List.getD_cons_succ, hx, Int.toNat_natCast, ne_eq, qcK, hbF, bsetF, bclrF, hg, hc0, hc1, hc2, hbc, w2, c2]
          exact hq
    | false =>
      rw [bi_f] at hq hp hbc w2 ⊢
      by_cases c : nn < 4
      · rw [b01_f (by omega)] at hq
        simp only [YK, c6, t6, tgK, lyK, rkK, wK, rfK, hr, qRes_eq, qNon_eq, qup_ap, vup_ap, vcpy_ap, kc8_0, kc8_1, kc8_2, lc_lt, lc_gt, lc_eq, Option.toList_some, Option.toList_none, List.cons_append, List.nil_append, lay_len, lay_sz, Nat.reduceAdd, Nat.reduceSub, Nat.reduceMul, Int.reduceToNat, Int.reduceLE, Int.reduceLT, Int.reduceEq, Int.reduceAdd, Int.reduceSub, Int.reduceMul, Int.reduceNeg, Nat.reduceLeDiff, Nat.reduceLT, true_and, and_true, false_and, and_false, qcat_0, qcat_1, qcat_3, qcat_9, Nat.reduceEqDiff, if_true, if_false, ite_self, or_true, true_or, or_false, false_or, forall_const, not_true_eq_false, not_false_eq_true, false_implies, implies_true, qtK0, qtK1, qtK2, qtK3, qtK4, List.getD_cons_zero, List.getD_cons_succ, hx, Int.toNat_natCast, ne_eq, qcK, hbF, bsetF, bclrF, hg, hc0, hc1, hc2, e4, e5, hs8, w1, e6, c]
        exact hq
      · by_cases c2 : 2 * pOnes ((2 * X 110 h + 0) % 256) < nn
        · rw [b01_f (by omega)] at hq
          simp only [YK, c6, t6, cl179, tgK, lyK, rkK, wK, rfK, hr, qRes_eq, qNon_eq, qup_ap, vup_ap, vcpy_ap, kc8_0, kc8_1, kc8_2, lc_lt, lc_gt, lc_eq, Option.toList_some, Option.toList_none, List.cons_append, List.nil_append, lay_len, lay_sz, Nat.reduceAdd, Nat.reduceSub, Nat.reduceMul, Int.reduceToNat, Int.reduceLE, Int.reduceLT, Int.reduceEq, Int.reduceAdd, Int.reduceSub, Int.reduceMul, Int.reduceNeg, Nat.reduceLeDiff, Nat.reduceLT, true_and, and_true, false_and, and_false, qcat_0, qcat_1, qcat_3, qcat_9, Nat.reduceEqDiff, if_true, if_false, ite_self, or_true, true_or, or_false, false_or, forall_const, not_true_eq_false, not_false_eq_true, false_implies, implies_true, qtK0, qtK1, qtK2, qtK3, qtK4, List.getD_cons_zero, List.getD_cons_succ, hx, Int.toNat_natCast, ne_eq, qcK, hbF, bsetF, bclrF, hg, hc0, hc1, hc2, e4, e5, hs8, w1, e6, c]
          refine k179 _ ?_
          simp only [YK, c6, t6, tgK, lyK, rkK, wK, rfK, hr, qRes_eq, qNon_eq, qup_ap, vup_ap, vcpy_ap, kc8_0, kc8_1, kc8_2, lc_lt, lc_gt, lc_eq, Option.toList_some, Option.toList_none, List.cons_append, List.nil_append, lay_len, lay_sz, Nat.reduceAdd, Nat.reduceSub, Nat.reduceMul, Int.reduceToNat, Int.reduceLE, Int.reduceLT, Int.reduceEq, Int.reduceAdd, Int.reduceSub, Int.reduceMul, Int.reduceNeg, Nat.reduceLeDiff, Nat.reduceLT, true_and, and_true, false_and, and_false, qcat_0, qcat_1, qcat_3, qcat_9, Nat.reduceEqDiff, if_true, if_false, ite_self, or_true, true_or, or_false, false_or, forall_const, not_true_eq_false, not_false_eq_true, false_implies, implies_true, qtK0, qtK1, qtK2, qtK3, qtK4, List.getD_cons_zero, List.getD_cons_succ, hx, Int.toNat_natCast, ne_eq, qcK, hbF, bsetF, bclrF, hg, hc0, hc1, hc2, hbc, w2, c2]
          exact hq
        · rw [b01_t (by omega)] at hq
          simp only [YK, c6, t6, cl179, tgK, lyK, rkK, wK, rfK, hr, qRes_eq, qNon_eq, qup_ap, vup_ap, vcpy_ap, kc8_0, kc8_1, kc8_2, lc_lt, lc_gt, lc_eq, Option.toList_some, Option.toList_none, List.cons_append, List.nil_append, lay_len, lay_sz, Nat.reduceAdd, Nat.reduceSub, Nat.reduceMul, Int.reduceToNat, Int.reduceLE, Int.reduceLT, Int.reduceEq, Int.reduceAdd, Int.reduceSub, Int.reduceMul, Int.reduceNeg, Nat.reduceLeDiff, Nat.reduceLT, true_and, and_true, false_and, and_false, qcat_0, qcat_1, qcat_3, qcat_9, Nat.reduceEqDiff, if_true, if_false, ite_self, or_true, true_or, or_false, false_or, forall_const, not_true_eq_false, not_false_eq_true, false_implies, implies_true, qtK0, qtK1, qtK2, qtK3, qtK4, List.getD_cons_zero, List.getD_cons_succ, hx, Int.toNat_natCast, ne_eq, qcK, hbF, bsetF, bclrF, hg, hc0, hc1, hc2, e4, e5, hs8, w1, e6, c]
          refine k179 _ ?_
          simp only [YK, c6, t6, tgK, lyK, rkK, wK, rfK, hr, qRes_eq, qNon_eq, qup_ap, vup_ap, vcpy_ap, kc8_0, kc8_1, kc8_2, lc_lt, lc_gt, lc_eq, Option.toList_some, Option.toList_none, List.cons_append, List.nil_append, lay_len, lay_sz, Nat.reduceAdd, Nat.reduceSub, Nat.reduceMul, Int.reduceToNat, Int.reduceLE, Int.reduceLT, Int.reduceEq, Int.reduceAdd, Int.reduceSub, Int.reduceMul, Int.reduceNeg, Nat.reduceLeDiff, Nat.reduceLT, true_and, and_true, false_and, and_false, qcat_0, qcat_1, qcat_3, qcat_9, Nat.reduceEqDiff, if_true, if_false, ite_self, or_true, true_or, or_false, false_or, forall_const, not_true_eq_false, not_false_eq_true, false_implies, implies_true, qtK0, qtK1, qtK2, qtK3, qtK4, List.getD_cons_zero, List.getD_cons_succ, hx, Int.toNat_natCast, ne_eq, qcK, hbF, bsetF, bclrF, hg, hc0, hc1, hc2, hbc, w2, c2]
          exact hq
  · rw [hs]
    rw [b01_eq (tb_3 (n1'.trans hs))] at hk
    obtain ⟨⟨g1, g2, g3⟩, g4⟩ := hT hs
    have hq := hk (qup F (hB h) 1 (twF (X 112 h) (bi bad))) (fun c hc => by rw [qup_c hc]) (by rw [qup_ap, if_pos rfl, if_neg (by decide), q0]) (by rw [qup_ap, if_pos rfl, if_neg (by decide)]) (by rw [qup_ap, if_pos rfl, if_pos rfl, n4, if_pos hs]) (fun hn hx => by omega) (fun hx => by omega)
    rw [n4, if_pos hs] at hq
    unfold FHalf at g4
    cases bad with
    | true =>
      rw [bi_t] at hq g1 g2 g3 g4 ⊢
      by_cases c : 1056964608 < twF (X 112 h) 1
      · rw [b01_t c] at hq
        rw [eq_true c] at g4
        unfold twF at hq g4
        simp only [fK, f1N] at hq g1 g2 g3 g4
        simp only [YK, c6, t6, tgK, lyK, rkK, wK, rfK, hr, qRes_eq, qNon_eq, qup_ap, vup_ap, vcpy_ap, kc8_0, kc8_1, kc8_2, lc_lt, lc_gt, lc_eq, Option.toList_some, Option.toList_none, List.cons_append, List.nil_append, lay_len, lay_sz, Nat.reduceAdd, Nat.reduceSub, Nat.reduceMul, Int.reduceToNat, Int.reduceLE, Int.reduceLT, Int.reduceEq, Int.reduceAdd, Int.reduceSub, Int.reduceMul, Int.reduceNeg, Nat.reduceLeDiff, Nat.reduceLT, true_and, and_true, false_and, and_false, qcat_0, qcat_1, qcat_3, qcat_9, Nat.reduceEqDiff, if_true, if_false, ite_self, or_true, true_or, or_false, false_or, forall_const, not_true_eq_false, not_false_eq_true, false_implies, implies_true, qtK0, qtK1, qtK2, qtK3, qtK4, List.getD_cons_zero, List.getD_cons_succ, hx, Int.toNat_natCast, ne_eq, qcK, hbF, bsetF, bclrF, hg, hc0, hc1, hc2, f1N, fK, g1, g2, g3, g4]
        exact hq
      · rw [b01_f c] at hq
        rw [eq_false c] at g4
        unfold twF at hq g4
        simp only [fK, f1N] at hq g1 g2 g3 g4
        simp only [YK, c6, t6, tgK, lyK, rkK, wK, rfK, hr, qRes_eq, qNon_eq, qup_ap, vup_ap, vcpy_ap, kc8_0, kc8_1, kc8_2, lc_lt, lc_gt, lc_eq, Option.toList_some, Option.toList_none, List.cons_append, List.nil_append, lay_len, lay_sz, Nat.reduceAdd, Nat.reduceSub, Nat.reduceMul, Int.reduceToNat, Int.reduceLE, Int.reduceLT, Int.reduceEq, Int.reduceAdd, Int.reduceSub, Int.reduceMul, Int.reduceNeg, Nat.reduceLeDiff, Nat.reduceLT, true_and, and_true, false_and, and_false, qcat_0, qcat_1, qcat_3, qcat_9, Nat.reduceEqDiff, if_true, if_false, ite_self, or_true, true_or, or_false, false_or, forall_const, not_true_eq_false, not_false_eq_true, false_implies, implies_true, qtK0, qtK1, qtK2, qtK3, qtK4, List.getD_cons_zero, List.getD_cons_succ, hx, Int.toNat_natCast, ne_eq, qcK, hbF, bsetF, bclrF, hg, hc0, hc1, hc2, f1N, fK, g1, g2, g3, g4]
        exact hq
    | false =>
      rw [bi_f] at hq g1 g2 g3 g4 ⊢
      by_cases c : 1056964608 < twF (X 112 h) 0
      · rw [b01_t c] at hq
        rw [eq_true c] at g4
        unfold twF at hq g4
        simp only [fK, f1N] at hq g1 g2 g3 g4
        simp only [YK, c6, t6, tgK, lyK, rkK, wK, rfK, hr, qRes_eq, qNon_eq, qup_ap, vup_ap, vcpy_ap, kc8_0, kc8_1, kc8_2, lc_lt, lc_gt, lc_eq, Option.toList_some, Option.toList_none, List.cons_append, List.nil_append, lay_len, lay_sz, Nat.reduceAdd, Nat.reduceSub, Nat.reduceMul, Int.reduceToNat, Int.reduceLE, Int.reduceLT, Int.reduceEq, Int.reduceAdd, Int.reduceSub, Int.reduceMul, Int.reduceNeg, Nat.reduceLeDiff, Nat.reduceLT, true_and, and_true, false_and, and_false, qcat_0, qcat_1, qcat_3, qcat_9, Nat.reduceEqDiff, if_true, if_false, ite_self, or_true, true_or, or_false, false_or, forall_const, not_true_eq_false, not_false_eq_true, false_implies, implies_true, qtK0, qtK1, qtK2, qtK3, qtK4, List.getD_cons_zero, List.getD_cons_succ, hx, Int.toNat_natCast, ne_eq, qcK, hbF, bsetF, bclrF, hg, hc0, hc1, hc2, f1N, fK, g1, g2, g3, g4]
        exact hq
      · rw [b01_f c] at hq
        rw [eq_false c] at g4
        unfold twF at hq g4
        simp only [fK, f1N] at hq g1 g2 g3 g4
        simp only [YK, c6, t6, tgK, lyK, rkK, wK, rfK, hr, qRes_eq, qNon_eq, qup_ap, vup_ap, vcpy_ap, kc8_0, kc8_1, kc8_2, lc_lt, lc_gt, lc_eq, Option.toList_some, Option.toList_none, List.cons_append, List.nil_append, lay_len, lay_sz, Nat.reduceAdd, Nat.reduceSub, Nat.reduceMul, Int.reduceToNat, Int.reduceLE, Int.reduceLT, Int.reduceEq, Int.reduceAdd, Int.reduceSub, Int.reduceMul, Int.reduceNeg, Nat.reduceLeDiff, Nat.reduceLT, true_and, and_true, false_and, and_false, qcat_0, qcat_1, qcat_3, qcat_9, Nat.reduceEqDiff, if_true, if_false, ite_self, or_true, true_or, or_false, false_or, forall_const, not_true_eq_false, not_false_eq_true, false_implies, implies_true, qtK0, qtK1, qtK2, qtK3, qtK4, List.getD_cons_zero, List.getD_cons_succ, hx, Int.toNat_natCast, ne_eq, qcK, hbF, bsetF, bclrF, hg, hc0, hc1, hc2, f1N, fK, g1, g2, g3, g4]
        exact hq
