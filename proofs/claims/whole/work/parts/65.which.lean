/-! runs over hosts that are spoilt all day; the pair which -/
def CFr (F G : XT) : Prop := Rf G ∧ ∀ c : Nat, fx c → G c = F c
theorem CFr_CR {p u : Nat} {sp : Int} {F G X H : XT} {L : LT} {e b : Int} (h : CFr F G) (hR : CR p u sp G X L e b H) : CFr F H := ⟨hR.rf, fun c hc => (hR.2.1 c hc).trans (h.2 c hc)⟩
theorem CFr_Rel {F G : XT} (hR : Rel F) (h : CFr F G) : Rel G := Rel_eq hR h.1 (fun c hc => h.2 c (by unfold rlc at hc; unfold fx; omega)) (fun j _ => by rw [h.2 69 (by unfold fx; decide)])
theorem CFr_69 {F G : XT} (h : CFr F G) : ∀ c : Nat, 69 ≤ c → G c = F c := fun c hc => h.2 c (by unfold fx; omega)
def runM (F : XT) (v : Int) : XT := pIni 89 v (layH F)
theorem runM_ok {F G : XT} {n ns na : Nat} {v sp : Int} (hR : Rel F) (hd : DN F n ns na) (hG : CFr F G) (hv : (v = -9 ∧ sp = -1) ∨ (0 ≤ v ∧ sp = v)) : Inv n ns na 0 0 (runM F v, L0) ∧ ST n ns na 23 24 10 sp G (runM F v) := by
  have hP := hR.2.2.2.1
  refine run_ok (F := F) (Fc := G) (G := layH F) (p := 23) (s := 24) (u := 10) (y := 89) hR hd ⟨Or.inl ⟨rfl, rfl⟩, Or.inl rfl⟩ (fun c h1 h2 => hG.2 c (by unfold fx; omega)) (fun c h1 h2 => layH_c (by omega)) (fun j _ => by rw [layH_c (by decide)]) ⟨(Rf_k hG.1).2.1.2.2.2.2.2.2.2.2.2.2.2.1, fun k hk => by rw [layH_c (by decide), hG.2 24 (by unfold fx; decide)]; exact (hP.2.1 k hk).symm, by rw [layH_c (by decide), hG.2 23 (by unfold fx; decide)]; exact hP.2.2.symm⟩ (by rw [layH_c (by decide)]; exact PB89 hR) (fun a ha => by rw [hG.2 10 (by unfold fx; decide)]; exact hours_ok hR hd a ha) hv
theorem c_runm {tb : qTb} {F G : XT} {n ns na : Nat} {R : Option qV → qM → Prop} (hA : FA) (hR : Rel F) (hd : DN F n ns na) (hG : CFr F G) (v sp : Int) (hv : (v = -9 ∧ sp = -1) ∨ (0 ≤ v ∧ sp = v)) (hk : ∀ G2, CC n na 23 10 sp G (pRunT n ns na 80 (runM F v, L0)) G2 → CFr F G2 → R none (LAY, G2)) : qW tb 8 (119, 1262) 0 [(3, 35), (3, 23), (3, 10), (0, sp), (0, 79), (9, 0)] [] (LAY, G) R :=
  k8 (p := 23) (s := 24) (u := 10) hA.1 hA.2.1 hG.1 (pIni_St0 89 v (layH F)) (runM_ok hR hd hG hv).2 (runM_ok hR hd hG hv).1 79 (by decide) (fun G2 h => hk G2 h (CFr_CR hG h))
def RFr (F F1 G : XT) : Prop := Nrm (layH F) G ∧ G 90 = layH F 90 ∧ G 96 = layH F 96 ∧ G 118 = layH F 118 ∧ ∀ c : Nat, c < 69 → G c = F1 c
theorem RFr_Rel {F F1 G : XT} (hR : Rel F1) (h9 : ∀ c : Nat, 69 ≤ c → F1 c = F c) (h : RFr F F1 G) : Rel G := by
  obtain ⟨h1, -, -, -, h5⟩ := h
  refine Rel_eq hR h1.1 (fun c hc => ?_) (fun j hj => ?_)
  · by_cases c69 : c < 69
    · exact h5 c c69
    · unfold rlc at hc
      rw [h1.2.1 c (by omega) (by omega) (by omega) (by omega) (by omega), layH_c (by omega), h9 c (by omega)]
  · rw [h1.2.2.1 j (by omega) (by omega), layH_c (by decide), h9 69 (by decide)]
theorem r_runm {tb : qTb} {F F1 G : XT} {n ns na : Nat} {R : Option qV → qM → Prop} (hA : FA) (hG : RFr F F1 G) (v : Int) (hI : Inv n ns na 0 0 (runM F v, L0)) (hk : ∀ G2, RR G (pRunT n ns na 80 (runM F v, L0)).1 (pRunT n ns na 80 (runM F v, L0)).2 G2 → RFr F F1 G2 → R none (LAY, G2)) : qW tb 148 (119, 1262) 0 [(3, 69), (3, 89), (0, v), (0, 79), (9, 0)] [] (LAY, G) R := by
  obtain ⟨h1, h2, h3, h4, h5⟩ := hG
  have hX : ∀ c : Nat, nl c → runM F v c = pIni 89 v G c := fun c hc => (pIni_Nrm (v := v) h1 h2 h3 h4 (fun j _ => by rw [h1.2.1 89 (by decide) (by decide) (by decide) (by decide) (by decide)]) c hc).symm
  refine r148 (y := 89) hA.1 hA.2.2.1 h1.1 (Or.inl rfl) v hX hI 79 (by decide) ?_
  intro G2 hRR
  obtain ⟨n1, n2, n3, n4⟩ := Nrm_RR hA.1 h1 hX hI (by decide) hRR
  exact hk G2 hRR ⟨n1, n2.trans h2, n3.trans h3, n4.trans h4, fun c hc => (hRR.2.1 c hc).trans (h5 c hc)⟩
theorem RFr_lay {F F1 : XT} (hf : Rf F1) (h9 : ∀ c : Nat, 69 ≤ c → F1 c = F c) : RFr F F1 (layH F1) := by
  have e := layH_eq h9
  refine ⟨⟨layH_Rf hf, fun c a1 _ _ _ _ => e c (by omega), fun j _ _ => by rw [e 69 (by decide)], fun j _ => by rw [e 97 (by decide)], fun c j a1 _ _ => by rw [e c (by omega)], fun c j a1 _ _ => by rw [e c (by omega)]⟩, e 90 (by decide), e 96 (by decide), e 118 (by decide), fun c hc => layH_c (by omega)⟩
def sh (a : Int) : Int := (i1 1 <<< (i1 a &&& 31)).toInt
theorem shF (a : Int) : (i1 1 <<< (i1 a &&& 31)).toInt = sh a := rfl
theorem bsetS (m a : Int) : (i1 m ||| i1 (sh a)).toInt = bset m a := rfl
theorem sh_r : ∀ h : Nat, h < 5 → 0 ≤ sh (h : Int) ∧ sh (h : Int) ≤ 16 := by decide +kernel
/-- what was seen is so in a run, the first k of it -/
def soT (F X : XT) : Nat → Bool
  | 0 => true
  | k + 1 => soT F X k && decide (b01 (X 98 (F 31 k).toNat = 2) = F 32 k)
theorem soT_f {F X : XT} {k : Nat} (h : soT F X k = false) : ∀ m, k ≤ m → soT F X m = false := by
  intro m
  induction m with
  | zero =>
    intro hm
    have : k = 0 := by omega
    rw [← this]; exact h
  | succ m ih =>
    intro hm
    by_cases c : k = m + 1
    · rw [← c]; exact h
    · unfold soT
      rw [ih (by omega), Bool.false_and]
theorem k61 {tb : qTb} {F G : XT} {n na p u : Nat} {sp : Int} {S : XT × LT} {C : XT} {R : Option qV → qM → Prop} (hRS : RS F) (hR : CR p u sp C S.1 S.2 (endC S.1 na) (wkC S.2 n) G) (h30 : G 30 = F 30 ∧ G 31 = F 31 ∧ G 32 = F 32) (cn : Nat) (hcn : F 30 0 = (cn : Int)) (hk : R (some (0, bi (soT F S.1 cn))) (LAY, G)) : qW tb 61 (119, 1262) 0 [(3, 30), (3, 35), (9, 0), (9, 0)] [] (LAY, G) R := by
  have hr := Rf_k hR.rf
  obtain ⟨s1, s2, s3, s4⟩ := hRS
  have hloop : ∀ (m i : Nat) (v : qV), i + m = cn → soT F S.1 i = true → qW tb 61 (119, 1262) 2 [(3, 30), (3, 35), (0, (i : Int)), v] [] (LAY, G) R := by
    intro m
    induction m with
    | zero =>
      intro i v hm hs
      have ei : i = cn := by omega
      subst ei
      have b1 : ((i : Int) < (i : Int)) = False := eq_false (by omega)
      rw [hs, bi_t] at hk
      rw [h61_2]
      simp only [YK, c61, t61, tgK, lyK, rkK, wK, rfK, hr, qRes_eq, qNon_eq, qup_ap, vup_ap, vcpy_ap, kc8_0, kc8_1, kc8_2, lc_lt, lc_gt, lc_eq, Option.toList_some, Option.toList_none, List.cons_append, List.nil_append, lay_len, lay_sz, Nat.reduceAdd, Nat.reduceSub, Nat.reduceMul, Int.reduceToNat, Int.reduceLE, Int.reduceLT, Int.reduceEq, Int.reduceAdd, Int.reduceSub, Int.reduceMul, Int.reduceNeg, Nat.reduceLeDiff, Nat.reduceLT, true_and, and_true, false_and, and_false, qcat_0, qcat_1, qcat_3, qcat_9, Nat.reduceEqDiff, if_true, if_false, ite_self, or_true, true_or, or_false, false_or, forall_const, not_true_eq_false, not_false_eq_true, false_implies, implies_true, qtK0, qtK1, qtK2, qtK3, qtK4, List.getD_cons_zero, List.getD_cons_succ, Int.toNat_natCast, ne_eq, qcK, hbF, bsetF, bclrF, h30, hcn, b1]
      exact hk
    | succ m ih =>
      intro i v hm hs
      obtain ⟨q1, q2, q3, q4, q5⟩ := s4 i (by omega)
      obtain ⟨a, ha⟩ : ∃ a : Nat, F 31 i = (a : Int) := ⟨(F 31 i).toNat, by omega⟩
      have b1 : ((i : Int) < (cn : Int)) = True := eq_true (by omega)
      have b2 : (0 ≤ (i : Int) ∧ (i : Int) < 6) = True := eq_true (by omega)
      have b3 : (0 ≤ (a : Int) ∧ (a : Int) < 12) = True := eq_true (by omega)
      have w1 : w32 ((i : Int) + 1) = ((i + 1 : Nat) : Int) := by rw [w32_id ⟨by omega, by omega⟩]; omega
      have e37 := (hR.2.2.2.2.1 a (by omega)).1
      by_cases c : S.1 98 a = 2
      · by_cases c2 : F 32 i = 1
        · have hi := fun v => ih (i + 1) v (by omega) (by unfold soT; rw [hs, ha, Int.toNat_natCast, b01_t c, c2]; rfl)
          have hq := hi (0, 1)
          rw [h61_2]
          simp only [YK, c61, t61, tgK, lyK, rkK, wK, rfK, hr, qRes_eq, qNon_eq, qup_ap, vup_ap, vcpy_ap, kc8_0, kc8_1, kc8_2, lc_lt, lc_gt, lc_eq, Option.toList_some, Option.toList_none, List.cons_append, List.nil_append, lay_len, lay_sz, Nat.reduceAdd, Nat.reduceSub, Nat.reduceMul, Int.reduceToNat, Int.reduceLE, Int.reduceLT, Int.reduceEq, Int.reduceAdd, Int.reduceSub, Int.reduceMul, Int.reduceNeg, Nat.reduceLeDiff, Nat.reduceLT, true_and, and_true, false_and, and_false, qcat_0, qcat_1, qcat_3, qcat_9, Nat.reduceEqDiff, if_true, if_false, ite_self, or_true, true_or, or_false, false_or, forall_const, not_true_eq_false, not_false_eq_true, false_implies, implies_true, qtK0, qtK1, qtK2, qtK3, qtK4, List.getD_cons_zero, List.getD_cons_succ, Int.toNat_natCast, ne_eq, qcK, hbF, bsetF, bclrF, h30, hcn, b1, b2, b3, ha, e37, c, c2, w1]
          exact hq
        · have c3 : F 32 i = 0 := by omega
          have hf := soT_f (F := F) (X := S.1) (k := i + 1) (by unfold soT; rw [hs, ha, Int.toNat_natCast, b01_t c, c3]; rfl) cn (by omega)
          rw [hf, bi_f] at hk
          rw [h61_2]
          simp only [YK, c61, t61, tgK, lyK, rkK, wK, rfK, hr, qRes_eq, qNon_eq, qup_ap, vup_ap, vcpy_ap, kc8_0, kc8_1, kc8_2, lc_lt, lc_gt, lc_eq, Option.toList_some, Option.toList_none, List.cons_append, List.nil_append, lay_len, lay_sz, Nat.reduceAdd, Nat.reduceSub, Nat.reduceMul, Int.reduceToNat, Int.reduceLE, Int.reduceLT, Int.reduceEq, Int.reduceAdd, Int.reduceSub, Int.reduceMul, Int.reduceNeg, Nat.reduceLeDiff, Nat.reduceLT, true_and, and_true, false_and, and_false, qcat_0, qcat_1, qcat_3, qcat_9, Nat.reduceEqDiff, if_true, if_false, ite_self, or_true, true_or, or_false, false_or, forall_const, not_true_eq_false, not_false_eq_true, false_implies, implies_true, qtK0, qtK1, qtK2, qtK3, qtK4, List.getD_cons_zero, List.getD_cons_succ, Int.toNat_natCast, ne_eq, qcK, hbF, bsetF, bclrF, h30, hcn, b1, b2, b3, ha, e37, c, c3]
          exact hk
      · by_cases c2 : F 32 i = 0
        · have hi := fun v => ih (i + 1) v (by omega) (by unfold soT; rw [hs, ha, Int.toNat_natCast, b01_f c, c2]; rfl)
          have hq := hi (0, 0)
          rw [h61_2]
          simp only [YK, c61, t61, tgK, lyK, rkK, wK, rfK, hr, qRes_eq, qNon_eq, qup_ap, vup_ap, vcpy_ap, kc8_0, kc8_1, kc8_2, lc_lt, lc_gt, lc_eq, Option.toList_some, Option.toList_none, List.cons_append, List.nil_append, lay_len, lay_sz, Nat.reduceAdd, Nat.reduceSub, Nat.reduceMul, Int.reduceToNat, Int.reduceLE, Int.reduceLT, Int.reduceEq, Int.reduceAdd, Int.reduceSub, Int.reduceMul, Int.reduceNeg, Nat.reduceLeDiff, Nat.reduceLT, true_and, and_true, false_and, and_false, qcat_0, qcat_1, qcat_3, qcat_9, Nat.reduceEqDiff, if_true, if_false, ite_self, or_true, true_or, or_false, false_or, forall_const, not_true_eq_false, not_false_eq_true, false_implies, implies_true, qtK0, qtK1, qtK2, qtK3, qtK4, List.getD_cons_zero, List.getD_cons_succ, Int.toNat_natCast, ne_eq, qcK, hbF, bsetF, bclrF, h30, hcn, b1, b2, b3, ha, e37, c, c2, w1]
          exact hq
        · have c3 : F 32 i = 1 := by omega
          have hf := soT_f (F := F) (X := S.1) (k := i + 1) (by unfold soT; rw [hs, ha, Int.toNat_natCast, b01_f c, c3]; rfl) cn (by omega)
          rw [hf, bi_f] at hk
          rw [h61_2]
          simp only [YK, c61, t61, tgK, lyK, rkK, wK, rfK, hr, qRes_eq, qNon_eq, qup_ap, vup_ap, vcpy_ap, kc8_0, kc8_1, kc8_2, lc_lt, lc_gt, lc_eq, Option.toList_some, Option.toList_none, List.cons_append, List.nil_append, lay_len, lay_sz, Nat.reduceAdd, Nat.reduceSub, Nat.reduceMul, Int.reduceToNat, Int.reduceLE, Int.reduceLT, Int.reduceEq, Int.reduceAdd, Int.reduceSub, Int.reduceMul, Int.reduceNeg, Nat.reduceLeDiff, Nat.reduceLT, true_and, and_true, false_and, and_false, qcat_0, qcat_1, qcat_3, qcat_9, Nat.reduceEqDiff, if_true, if_false, ite_self, or_true, true_or, or_false, false_or, forall_const, not_true_eq_false, not_false_eq_true, false_implies, implies_true, qtK0, qtK1, qtK2, qtK3, qtK4, List.getD_cons_zero, List.getD_cons_succ, Int.toNat_natCast, ne_eq, qcK, hbF, bsetF, bclrF, h30, hcn, b1, b2, b3, ha, e37, c, c3]
          exact hk
  simp only [YK, c61, t61, tgK, lyK, rkK, wK, rfK, hr, qRes_eq, qNon_eq, qup_ap, vup_ap, vcpy_ap, kc8_0, kc8_1, kc8_2, lc_lt, lc_gt, lc_eq, Option.toList_some, Option.toList_none, List.cons_append, List.nil_append, lay_len, lay_sz, Nat.reduceAdd, Nat.reduceSub, Nat.reduceMul, Int.reduceToNat, Int.reduceLE, Int.reduceLT, Int.reduceEq, Int.reduceAdd, Int.reduceSub, Int.reduceMul, Int.reduceNeg, Nat.reduceLeDiff, Nat.reduceLT, true_and, and_true, false_and, and_false, qcat_0, qcat_1, qcat_3, qcat_9, Nat.reduceEqDiff, if_true, if_false, ite_self, or_true, true_or, or_false, false_or, forall_const, not_true_eq_false, not_false_eq_true, false_implies, implies_true, qtK0, qtK1, qtK2, qtK3, qtK4, List.getD_cons_zero, List.getD_cons_succ, Int.toNat_natCast, ne_eq, qcK, hbF, bsetF, bclrF]
  exact hloop cn 0 _ (by omega) rfl
def whT (F : XT) (n ns na cn : Nat) : Nat → Int
  | 0 => 0
  | k + 1 => if soT F (pRunT n ns na 80 (runM F (sh (k : Int)), L0)).1 cn = true then bset (whT F n ns na cn k) (k : Int) else whT F n ns na cn k
theorem whT_r (F : XT) (n ns na cn : Nat) : ∀ k : Nat, I32 (whT F n ns na cn k) := by
  intro k
  induction k with
  | zero => exact (by decide : I32 0)
  | succ k ih =>
    unfold whT
    split
    · unfold bset; exact rng32 _
    · exact ih
theorem w32_i1 {x : Int} (h : I32 x) : (i1 x ||| i1 0).toInt = x := by
  have e : i1 x ||| i1 0 = i1 x := by
    apply b_ext
    intro i hi
    rw [b_or]
    have : bt (i1 0) i = false := BitVec.getLsbD_zero
    rw [this, Bool.or_false]
  rw [e]
  exact toInt_i1 h
theorem k86 {tb : qTb} {F : XT} {n ns na cn : Nat} {R : Option qV → qM → Prop} (hA : FA) (hR : Rel F) (hd : DN F n ns na) (hn4 : n ≤ 4) (hcn : F 30 0 = (cn : Int)) (hk : ∀ G, CFr F G → R (some (0, whT F n ns na cn n)) (LAY, G)) : qW tb 86 (119, 1262) 0 [(3, 0), (9, 0), (9, 0)] [] (LAY, F) R := by
  have hloop : ∀ (m h : Nat) (G : XT), h + m = n → CFr F G → qW tb 86 (119, 1262) 4 [(3, 0), (0, whT F n ns na cn h), (0, (h : Int))] [] (LAY, G) R := by
    intro m
    induction m with
    | zero =>
      intro h G hm hG
      have hr := Rf_k hG.1
      have g3 : G 3 0 = (n : Int) := by rw [hG.2 3 (by unfold fx; decide)]; exact hd.1
      have eh : h = n := by omega
      subst eh
      have b1 : ((h : Int) < (h : Int)) = False := eq_false (by omega)
      have hq := hk G hG
      rw [h86_4]
      simp only [YK, c86, t86, tgK, lyK, rkK, wK, rfK, hr, qRes_eq, qNon_eq, qup_ap, vup_ap, vcpy_ap, kc8_0, kc8_1, kc8_2, lc_lt, lc_gt, lc_eq, Option.toList_some, Option.toList_none, List.cons_append, List.nil_append, lay_len, lay_sz, Nat.reduceAdd, Nat.reduceSub, Nat.reduceMul, Int.reduceToNat, Int.reduceLE, Int.reduceLT, Int.reduceEq, Int.reduceAdd, Int.reduceSub, Int.reduceMul, Int.reduceNeg, Nat.reduceLeDiff, Nat.reduceLT, true_and, and_true, false_and, and_false, qcat_0, qcat_1, qcat_3, qcat_9, Nat.reduceEqDiff, if_true, if_false, ite_self, or_true, true_or, or_false, false_or, forall_const, not_true_eq_false, not_false_eq_true, false_implies, implies_true, qtK0, qtK1, qtK2, qtK3, qtK4, List.getD_cons_zero, List.getD_cons_succ, Int.toNat_natCast, ne_eq, qcK, hbF, bsetF, bclrF, g3, b1]
      exact hq
    | succ m ih =>
      intro h G hm hG
      have hr := Rf_k hG.1
      have g3 : G 3 0 = (n : Int) := by rw [hG.2 3 (by unfold fx; decide)]; exact hd.1
      have b1 : ((h : Int) < (n : Int)) = True := eq_true (by omega)
      have w1 : w32 ((h : Int) + 1) = ((h + 1 : Nat) : Int) := by rw [w32_id ⟨by omega, by omega⟩]; omega
      have hs := sh_r h (by omega)
      rw [h86_4]
      simp only [YK, c86, t86, cl8, tgK, lyK, rkK, wK, rfK, hr, qRes_eq, qNon_eq, qup_ap, vup_ap, vcpy_ap, kc8_0, kc8_1, kc8_2, lc_lt, lc_gt, lc_eq, Option.toList_some, Option.toList_none, List.cons_append, List.nil_append, lay_len, lay_sz, Nat.reduceAdd, Nat.reduceSub, Nat.reduceMul, Int.reduceToNat, Int.reduceLE, Int.reduceLT, Int.reduceEq, Int.reduceAdd, Int.reduceSub, Int.reduceMul, Int.reduceNeg, Nat.reduceLeDiff, Nat.reduceLT, true_and, and_true, false_and, and_false, qcat_0, qcat_1, qcat_3, qcat_9, Nat.reduceEqDiff, if_true, if_false, ite_self, or_true, true_or, or_false, false_or, forall_const, not_true_eq_false, not_false_eq_true, false_implies, implies_true, qtK0, qtK1, qtK2, qtK3, qtK4, List.getD_cons_zero, List.getD_cons_succ, Int.toNat_natCast, ne_eq, qcK, hbF, bsetF, bclrF, g3, b1, shF]
      refine c_runm hA hR hd hG (sh (h : Int)) (sh (h : Int)) (Or.inr ⟨hs.1, rfl⟩) ?_
      clear hr
      intro G2 hC hG2
      have hr := Rf_k hG2.1
      unfold CC at hC
      simp only [YK, c86, t86, cl61, tgK, lyK, rkK, wK, rfK, hr, qRes_eq, qNon_eq, qup_ap, vup_ap, vcpy_ap, kc8_0, kc8_1, kc8_2, lc_lt, lc_gt, lc_eq, Option.toList_some, Option.toList_none, List.cons_append, List.nil_append, lay_len, lay_sz, Nat.reduceAdd, Nat.reduceSub, Nat.reduceMul, Int.reduceToNat, Int.reduceLE, Int.reduceLT, Int.reduceEq, Int.reduceAdd, Int.reduceSub, Int.reduceMul, Int.reduceNeg, Nat.reduceLeDiff, Nat.reduceLT, true_and, and_true, false_and, and_false, qcat_0, qcat_1, qcat_3, qcat_9, Nat.reduceEqDiff, if_true, if_false, ite_self, or_true, true_or, or_false, false_or, forall_const, not_true_eq_false, not_false_eq_true, false_implies, implies_true, qtK0, qtK1, qtK2, qtK3, qtK4, List.getD_cons_zero, List.getD_cons_succ, Int.toNat_natCast, ne_eq, qcK, hbF, bsetF, bclrF]
      refine k61 (F := F) (n := n) (na := na) hR.2.2.2.2.2.2.1 hC ⟨hG2.2 30 (by unfold fx; decide), hG2.2 31 (by unfold fx; decide), hG2.2 32 (by unfold fx; decide)⟩ cn hcn ?_
      have hi := ih (h + 1) G2 (by omega) hG2
      unfold whT at hi
      cases hso : soT F (pRunT n ns na 80 (runM F (sh (h : Int)), L0)).1 cn with
      | true =>
        rw [hso, if_pos rfl] at hi
        rw [bi_t]
        simp only [YK, c86, t86, tgK, lyK, rkK, wK, rfK, qRes_eq, qNon_eq, qup_ap, vup_ap, vcpy_ap, kc8_0, kc8_1, kc8_2, lc_lt, lc_gt, lc_eq, Option.toList_some, Option.toList_none, List.cons_append, List.nil_append, lay_len, lay_sz, Nat.reduceAdd, Nat.reduceSub, Nat.reduceMul, Int.reduceToNat, Int.reduceLE, Int.reduceLT, Int.reduceEq, Int.reduceAdd, Int.reduceSub, Int.reduceMul, Int.reduceNeg, Nat.reduceLeDiff, Nat.reduceLT, true_and, and_true, false_and, and_false, qcat_0, qcat_1, qcat_3, qcat_9, Nat.reduceEqDiff, if_true, if_false, ite_self, or_true, true_or, or_false, false_or, forall_const, not_true_eq_false, not_false_eq_true, false_implies, implies_true, qtK0, qtK1, qtK2, qtK3, qtK4, List.getD_cons_zero, List.getD_cons_succ, Int.toNat_natCast, ne_eq, qcK, hbF, bsetF, bclrF, w1, shF, bsetS]
        exact hi
      | false =>
        rw [hso, if_neg (by decide)] at hi
        rw [bi_f]
        simp only [YK, c86, t86, tgK, lyK, rkK, wK, rfK, qRes_eq, qNon_eq, qup_ap, vup_ap, vcpy_ap, kc8_0, kc8_1, kc8_2, lc_lt, lc_gt, lc_eq, Option.toList_some, Option.toList_none, List.cons_append, List.nil_append, lay_len, lay_sz, Nat.reduceAdd, Nat.reduceSub, Nat.reduceMul, Int.reduceToNat, Int.reduceLE, Int.reduceLT, Int.reduceEq, Int.reduceAdd, Int.reduceSub, Int.reduceMul, Int.reduceNeg, Nat.reduceLeDiff, Nat.reduceLT, true_and, and_true, false_and, and_false, qcat_0, qcat_1, qcat_3, qcat_9, Nat.reduceEqDiff, if_true, if_false, ite_self, or_true, true_or, or_false, false_or, forall_const, not_true_eq_false, not_false_eq_true, false_implies, implies_true, qtK0, qtK1, qtK2, qtK3, qtK4, List.getD_cons_zero, List.getD_cons_succ, Int.toNat_natCast, ne_eq, qcK, hbF, bsetF, bclrF, w1, shF, bsetS]
        exact hi
  have hr := Rf_k hR.1
  simp only [YK, c86, t86, tgK, lyK, rkK, wK, rfK, hr, qRes_eq, qNon_eq, qup_ap, vup_ap, vcpy_ap, kc8_0, kc8_1, kc8_2, lc_lt, lc_gt, lc_eq, Option.toList_some, Option.toList_none, List.cons_append, List.nil_append, lay_len, lay_sz, Nat.reduceAdd, Nat.reduceSub, Nat.reduceMul, Int.reduceToNat, Int.reduceLE, Int.reduceLT, Int.reduceEq, Int.reduceAdd, Int.reduceSub, Int.reduceMul, Int.reduceNeg, Nat.reduceLeDiff, Nat.reduceLT, true_and, and_true, false_and, and_false, qcat_0, qcat_1, qcat_3, qcat_9, Nat.reduceEqDiff, if_true, if_false, ite_self, or_true, true_or, or_false, false_or, forall_const, not_true_eq_false, not_false_eq_true, false_implies, implies_true, qtK0, qtK1, qtK2, qtK3, qtK4, List.getD_cons_zero, List.getD_cons_succ, Int.toNat_natCast, ne_eq, qcK, hbF, bsetF, bclrF]
  exact hloop n 0 F (by omega) ⟨hR.1, fun _ _ => rfl⟩
theorem na_zero {F : XT} {n ns na : Nat} {v : Int} (hF : FLT) (hI : Inv n ns na 0 0 (runM F v, L0)) {a : Nat} (h1 : na ≤ a) (h2 : a < 12) : (pRunT n ns na 80 (runM F v, L0)).1 98 a = 0 := by
  rw [(JK_run hF hI 80 (by decide)).1 98 a (by decide) (by decide) h1]
  exact ((pIni_St0 89 v (layH F)).1 a h2).1
theorem r172 {tb : qTb} {F F1 : XT} {n ns na cn : Nat} {R : Option qV → qM → Prop} (hA : FA) (hR : Rel F) (hd : DN F n ns na) (hcn : F 30 0 = (cn : Int)) (hR1 : Rel F1) (h9 : ∀ c : Nat, 69 ≤ c → F1 c = F c) (hk : ∀ G, Rel G → R (some (0, whT F n ns na cn n)) (LAY, G)) : qW tb 172 (119, 1262) 0 [(3, 69), (9, 0), (9, 0), (9, 0), (9, 0), (9, 0)] [] (LAY, F1) R := by
  have hD := hR.2.2.1
  have hS := hR.2.2.2.2.2.2.1
  obtain ⟨s1, s2, s3, s4⟩ := hS
  have g2 : F 69 2 = (n : Int) := by rw [hD.1.1]; exact hd.1
  have g3 : F 69 3 = (na : Int) := by rw [hD.2.1.1]; exact hd.2.2
  have hn4 : n ≤ 4 := by have := hD.1; have := hd.1; omega
  have hna : na ≤ 12 := by have := hD.2.1; have := hd.2.2; omega
  have hfacts : ∀ G, RFr F F1 G → G 69 2 = (n : Int) ∧ G 69 3 = (na : Int) ∧ G 69 37 = (cn : Int) ∧ G 94 = F 94 ∧ G 95 = F 95 := by
    intro G hG
    have q := hG.1
    refine ⟨?_, ?_, ?_, ?_, ?_⟩
    · rw [q.2.2.1 2 (by decide) (by decide), layH_c (by decide), g2]
    · rw [q.2.2.1 3 (by decide) (by decide), layH_c (by decide), g3]
    · rw [q.2.2.1 37 (by decide) (by decide), layH_c (by decide), s1, hcn]
    · rw [q.2.1 94 (by decide) (by decide) (by decide) (by decide) (by decide), layH_c (by decide)]
    · rw [q.2.1 95 (by decide) (by decide) (by decide) (by decide) (by decide), layH_c (by decide)]
  have hloop : ∀ (m h : Nat) (G : XT) (v3 v4 v5 : qV), h + m = n → RFr F F1 G → qW tb 172 (119, 1262) 8 [(3, 69), (0, whT F n ns na cn h), (0, (h : Int)), v3, v4, v5] [] (LAY, G) R := by
    intro m
    induction m with
    | zero =>
      intro h G v3 v4 v5 hm hG
      have hr := Rf_k hG.1.1
      obtain ⟨f1, f2, f3, f4, f5⟩ := hfacts G hG
      have eh : h = n := by omega
      subst eh
      have b1 : ((h : Int) < (h : Int)) = False := eq_false (by omega)
      have hq := hk G (RFr_Rel hR1 h9 hG)
      rw [h172_8]
      simp only [YK, c172, t172, tgK, lyK, rkK, wK, rfK, hr, qRes_eq, qNon_eq, qup_ap, vup_ap, vcpy_ap, kc8_0, kc8_1, kc8_2, lc_lt, lc_gt, lc_eq, Option.toList_some, Option.toList_none, List.cons_append, List.nil_append, lay_len, lay_sz, Nat.reduceAdd, Nat.reduceSub, Nat.reduceMul, Int.reduceToNat, Int.reduceLE, Int.reduceLT, Int.reduceEq, Int.reduceAdd, Int.reduceSub, Int.reduceMul, Int.reduceNeg, Nat.reduceLeDiff, Nat.reduceLT, true_and, and_true, false_and, and_false, qcat_0, qcat_1, qcat_3, qcat_9, Nat.reduceEqDiff, if_true, if_false, ite_self, or_true, true_or, or_false, false_or, forall_const, not_true_eq_false, not_false_eq_true, false_implies, implies_true, qtK0, qtK1, qtK2, qtK3, qtK4, List.getD_cons_zero, List.getD_cons_succ, Int.toNat_natCast, ne_eq, qcK, hbF, bsetF, bclrF, f1, b1]
      exact hq
    | succ m ih =>
      intro h G v3 v4 v5 hm hG
      have hr := Rf_k hG.1.1
      obtain ⟨f1, f2, f3, f4, f5⟩ := hfacts G hG
      have b1 : ((h : Int) < (n : Int)) = True := eq_true (by omega)
      have w1 : w32 ((h : Int) + 1) = ((h + 1 : Nat) : Int) := by rw [w32_id ⟨by omega, by omega⟩]; omega
      have hs := sh_r h (by omega)
      have hI := (runM_ok (sp := sh (h : Int)) hR hd ⟨hR.1, fun _ _ => rfl⟩ (Or.inr ⟨hs.1, rfl⟩)).1
      rw [h172_8]
      simp only [YK, c172, t172, cl148, tgK, lyK, rkK, wK, rfK, hr, qRes_eq, qNon_eq, qup_ap, vup_ap, vcpy_ap, kc8_0, kc8_1, kc8_2, lc_lt, lc_gt, lc_eq, Option.toList_some, Option.toList_none, List.cons_append, List.nil_append, lay_len, lay_sz, Nat.reduceAdd, Nat.reduceSub, Nat.reduceMul, Int.reduceToNat, Int.reduceLE, Int.reduceLT, Int.reduceEq, Int.reduceAdd, Int.reduceSub, Int.reduceMul, Int.reduceNeg, Nat.reduceLeDiff, Nat.reduceLT, true_and, and_true, false_and, and_false, qcat_0, qcat_1, qcat_3, qcat_9, Nat.reduceEqDiff, if_true, if_false, ite_self, or_true, true_or, or_false, false_or, forall_const, not_true_eq_false, not_false_eq_true, false_implies, implies_true, qtK0, qtK1, qtK2, qtK3, qtK4, List.getD_cons_zero, List.getD_cons_succ, Int.toNat_natCast, ne_eq, qcK, hbF, bsetF, bclrF, f1, b1, shF]
      refine r_runm hA hG (sh (h : Int)) hI ?_
      clear hr f1 f2 f3 f4 f5
      intro G2 hRR hG2
      have hr := Rf_k hG2.1.1
      have hx := hRR.k
      obtain ⟨f1, f2, f3, f4, f5⟩ := hfacts G2 hG2
      have x98 : G2 98 = (pRunT n ns na 80 (runM F (sh (h : Int)), L0)).1 98 := hRR.2.2.1 98 (by unfold nl; decide)
      clear hx
      have hz := fun a (h1 : na ≤ a) (h2 : a < 12) => na_zero (v := sh (h : Int)) hA.1 hI h1 h2
      have hi := fun v3 v4 v5 => ih (h + 1) G2 v3 v4 v5 (by omega) hG2
      unfold whT at hi
      generalize (pRunT n ns na 80 (runM F (sh (h : Int)), L0)) = S at *
      have hin : ∀ (m2 k : Nat) (v5 : qV), k + m2 = cn → qW tb 172 (119, 1262) 34 [(3, 69), (0, whT F n ns na cn h), (0, (h : Int)), (0, bi (soT F S.1 k)), (0, (k : Int)), v5] [] (LAY, G2) R := by
        intro m2
        induction m2 with
        | zero =>
          intro k v5 hm2
          have ek : k = cn := by omega
          subst ek
          have b2 : ((k : Int) < (k : Int)) = False := eq_false (by omega)
          have hw := w32_i1 (whT_r F n ns na k h)
          rw [h172_34]
          cases hso : soT F S.1 k with
          | true =>
            have hq := hi (0, 1) (0, (k : Int)) v5
            rw [hso, if_pos rfl] at hq
            simp only [YK, c172, t172, tgK, lyK, rkK, wK, rfK, hr, qRes_eq, qNon_eq, qup_ap, vup_ap, vcpy_ap, kc8_0, kc8_1, kc8_2, lc_lt, lc_gt, lc_eq, Option.toList_some, Option.toList_none, List.cons_append, List.nil_append, lay_len, lay_sz, Nat.reduceAdd, Nat.reduceSub, Nat.reduceMul, Int.reduceToNat, Int.reduceLE, Int.reduceLT, Int.reduceEq, Int.reduceAdd, Int.reduceSub, Int.reduceMul, Int.reduceNeg, Nat.reduceLeDiff, Nat.reduceLT, true_and, and_true, false_and, and_false, qcat_0, qcat_1, qcat_3, qcat_9, Nat.reduceEqDiff, if_true, if_false, ite_self, or_true, true_or, or_false, false_or, forall_const, not_true_eq_false, not_false_eq_true, false_implies, implies_true, qtK0, qtK1, qtK2, qtK3, qtK4, List.getD_cons_zero, List.getD_cons_succ, Int.toNat_natCast, ne_eq, qcK, hbF, bsetF, bclrF, f3, b2, bi_t, bi_f, w1, shF, bsetS, hw]
            exact hq
          | false =>
            have hq := hi (0, 0) (0, (k : Int)) v5
            rw [hso, if_neg (by decide)] at hq
            simp only [YK, c172, t172, tgK, lyK, rkK, wK, rfK, hr, qRes_eq, qNon_eq, qup_ap, vup_ap, vcpy_ap, kc8_0, kc8_1, kc8_2, lc_lt, lc_gt, lc_eq, Option.toList_some, Option.toList_none, List.cons_append, List.nil_append, lay_len, lay_sz, Nat.reduceAdd, Nat.reduceSub, Nat.reduceMul, Int.reduceToNat, Int.reduceLE, Int.reduceLT, Int.reduceEq, Int.reduceAdd, Int.reduceSub, Int.reduceMul, Int.reduceNeg, Nat.reduceLeDiff, Nat.reduceLT, true_and, and_true, false_and, and_false, qcat_0, qcat_1, qcat_3, qcat_9, Nat.reduceEqDiff, if_true, if_false, ite_self, or_true, true_or, or_false, false_or, forall_const, not_true_eq_false, not_false_eq_true, false_implies, implies_true, qtK0, qtK1, qtK2, qtK3, qtK4, List.getD_cons_zero, List.getD_cons_succ, Int.toNat_natCast, ne_eq, qcK, hbF, bsetF, bclrF, f3, b2, bi_t, bi_f, w1, shF, bsetS, hw]
            exact hq
        | succ m2 ih2 =>
          intro k v5 hm2
          obtain ⟨q1, q2, q3, q4, q5⟩ := s4 k (by omega)
          obtain ⟨a, ha⟩ : ∃ a : Nat, F 31 k = (a : Int) := ⟨(F 31 k).toNat, by omega⟩
          rw [ha] at q1
          have b2 : ((k : Int) < (cn : Int)) = True := eq_true (by omega)
          have b3 : (0 ≤ (k : Int) ∧ (k : Int) < 6) = True := eq_true (by omega)
          have b4 : (0 ≤ (a : Int) ∧ (a : Int) < 12) = True := eq_true (by omega)
          have w2 : w32 ((k : Int) + 1) = ((k + 1 : Nat) : Int) := by rw [w32_id ⟨by omega, by omega⟩]; omega
          have hi2 := fun v5 => ih2 (k + 1) v5 (by omega)
          unfold soT at hi2
          rw [ha, Int.toNat_natCast] at hi2
          rw [h172_34]
          simp only [YK, c172, t172, cl158, tgK, lyK, rkK, wK, rfK, hr, qRes_eq, qNon_eq, qup_ap, vup_ap, vcpy_ap, kc8_0, kc8_1, kc8_2, lc_lt, lc_gt, lc_eq, Option.toList_some, Option.toList_none, List.cons_append, List.nil_append, lay_len, lay_sz, Nat.reduceAdd, Nat.reduceSub, Nat.reduceMul, Int.reduceToNat, Int.reduceLE, Int.reduceLT, Int.reduceEq, Int.reduceAdd, Int.reduceSub, Int.reduceMul, Int.reduceNeg, Nat.reduceLeDiff, Nat.reduceLT, true_and, and_true, false_and, and_false, qcat_0, qcat_1, qcat_3, qcat_9, Nat.reduceEqDiff, if_true, if_false, ite_self, or_true, true_or, or_false, false_or, forall_const, not_true_eq_false, not_false_eq_true, false_implies, implies_true, qtK0, qtK1, qtK2, qtK3, qtK4, List.getD_cons_zero, List.getD_cons_succ, Int.toNat_natCast, ne_eq, qcK, hbF, bsetF, bclrF, f3, f4, q1, b2, b3, b4]
          refine r158 hG2.1.1 (a : Int) na f2 hna ?_
          by_cases ca : a < na
          · rw [b01_t (by omega)]
            by_cases c98 : S.1 98 a = 2
            · have hq := hi2 (0, 1)
              rw [b01_t c98] at hq
              cases hso : soT F S.1 k with
              | true =>
                rw [hso] at hq
                by_cases c2 : F 32 k = 1
                · rw [c2] at hq q4
                  simp only [YK, c172, t172, tgK, lyK, rkK, wK, rfK, hr, qRes_eq, qNon_eq, qup_ap, vup_ap, vcpy_ap, kc8_0, kc8_1, kc8_2, lc_lt, lc_gt, lc_eq, Option.toList_some, Option.toList_none, List.cons_append, List.nil_append, lay_len, lay_sz, Nat.reduceAdd, Nat.reduceSub, Nat.reduceMul, Int.reduceToNat, Int.reduceLE, Int.reduceLT, Int.reduceEq, Int.reduceAdd, Int.reduceSub, Int.reduceMul, Int.reduceNeg, Nat.reduceLeDiff, Nat.reduceLT, true_and, and_true, false_and, and_false, qcat_0, qcat_1, qcat_3, qcat_9, Nat.reduceEqDiff, if_true, if_false, ite_self, or_true, true_or, or_false, false_or, forall_const, not_true_eq_false, not_false_eq_true, false_implies, implies_true, qtK0, qtK1, qtK2, qtK3, qtK4, List.getD_cons_zero, List.getD_cons_succ, Int.toNat_natCast, ne_eq, qcK, hbF, bsetF, bclrF, f4, f5, q1, q4, b3, b4, x98, c98, bi_t, bi_f, w2]
                  exact hq
                · have c3 : F 32 k = 0 := by omega
                  rw [c3] at hq q4
                  simp only [YK, c172, t172, tgK, lyK, rkK, wK, rfK, hr, qRes_eq, qNon_eq, qup_ap, vup_ap, vcpy_ap, kc8_0, kc8_1, kc8_2, lc_lt, lc_gt, lc_eq, Option.toList_some, Option.toList_none, List.cons_append, List.nil_append, lay_len, lay_sz, Nat.reduceAdd, Nat.reduceSub, Nat.reduceMul, Int.reduceToNat, Int.reduceLE, Int.reduceLT, Int.reduceEq, Int.reduceAdd, Int.reduceSub, Int.reduceMul, Int.reduceNeg, Nat.reduceLeDiff, Nat.reduceLT, true_and, and_true, false_and, and_false, qcat_0, qcat_1, qcat_3, qcat_9, Nat.reduceEqDiff, if_true, if_false, ite_self, or_true, true_or, or_false, false_or, forall_const, not_true_eq_false, not_false_eq_true, false_implies, implies_true, qtK0, qtK1, qtK2, qtK3, qtK4, List.getD_cons_zero, List.getD_cons_succ, Int.toNat_natCast, ne_eq, qcK, hbF, bsetF, bclrF, f4, f5, q1, q4, b3, b4, x98, c98, bi_t, bi_f, w2]
                  exact hq
              | false =>
                rw [hso, Bool.false_and] at hq
                simp only [YK, c172, t172, tgK, lyK, rkK, wK, rfK, hr, qRes_eq, qNon_eq, qup_ap, vup_ap, vcpy_ap, kc8_0, kc8_1, kc8_2, lc_lt, lc_gt, lc_eq, Option.toList_some, Option.toList_none, List.cons_append, List.nil_append, lay_len, lay_sz, Nat.reduceAdd, Nat.reduceSub, Nat.reduceMul, Int.reduceToNat, Int.reduceLE, Int.reduceLT, Int.reduceEq, Int.reduceAdd, Int.reduceSub, Int.reduceMul, Int.reduceNeg, Nat.reduceLeDiff, Nat.reduceLT, true_and, and_true, false_and, and_false, qcat_0, qcat_1, qcat_3, qcat_9, Nat.reduceEqDiff, if_true, if_false, ite_self, or_true, true_or, or_false, false_or, forall_const, not_true_eq_false, not_false_eq_true, false_implies, implies_true, qtK0, qtK1, qtK2, qtK3, qtK4, List.getD_cons_zero, List.getD_cons_succ, Int.toNat_natCast, ne_eq, qcK, hbF, bsetF, bclrF, f4, f5, q1, q4, b3, b4, x98, c98, bi_t, bi_f, w2]
                exact hq
            · have hq := hi2 (0, 0)
              rw [b01_f c98] at hq
              cases hso : soT F S.1 k with
              | true =>
                rw [hso] at hq
                by_cases c2 : F 32 k = 1
                · rw [c2] at hq q4
                  simp only [YK, c172, t172, tgK, lyK, rkK, wK, rfK, hr, qRes_eq, qNon_eq, qup_ap, vup_ap, vcpy_ap, kc8_0, kc8_1, kc8_2, lc_lt, lc_gt, lc_eq, Option.toList_some, Option.toList_none, List.cons_append, List.nil_append, lay_len, lay_sz, Nat.reduceAdd, Nat.reduceSub, Nat.reduceMul, Int.reduceToNat, Int.reduceLE, Int.reduceLT, Int.reduceEq, Int.reduceAdd, Int.reduceSub, Int.reduceMul, Int.reduceNeg, Nat.reduceLeDiff, Nat.reduceLT, true_and, and_true, false_and, and_false, qcat_0, qcat_1, qcat_3, qcat_9, Nat.reduceEqDiff, if_true, if_false, ite_self, or_true, true_or, or_false, false_or, forall_const, not_true_eq_false, not_false_eq_true, false_implies, implies_true, qtK0, qtK1, qtK2, qtK3, qtK4, List.getD_cons_zero, List.getD_cons_succ, Int.toNat_natCast, ne_eq, qcK, hbF, bsetF, bclrF, f4, f5, q1, q4, b3, b4, x98, c98, bi_t, bi_f, w2]
                  exact hq
                · have c3 : F 32 k = 0 := by omega
                  rw [c3] at hq q4
                  simp only [YK, c172, t172, tgK, lyK, rkK, wK, rfK, hr, qRes_eq, qNon_eq, qup_ap, vup_ap, vcpy_ap, kc8_0, kc8_1, kc8_2, lc_lt, lc_gt, lc_eq, Option.toList_some, Option.toList_none, List.cons_append, List.nil_append, lay_len, lay_sz, Nat.reduceAdd, Nat.reduceSub, Nat.reduceMul, Int.reduceToNat, Int.reduceLE, Int.reduceLT, Int.reduceEq, Int.reduceAdd, Int.reduceSub, Int.reduceMul, Int.reduceNeg, Nat.reduceLeDiff, Nat.reduceLT, true_and, and_true, false_and, and_false, qcat_0, qcat_1, qcat_3, qcat_9, Nat.reduceEqDiff, if_true, if_false, ite_self, or_true, true_or, or_false, false_or, forall_const, not_true_eq_false, not_false_eq_true, false_implies, implies_true, qtK0, qtK1, qtK2, qtK3, qtK4, List.getD_cons_zero, List.getD_cons_succ, Int.toNat_natCast, ne_eq, qcK, hbF, bsetF, bclrF, f4, f5, q1, q4, b3, b4, x98, c98, bi_t, bi_f, w2]
                  exact hq
              | false =>
                rw [hso, Bool.false_and] at hq
                simp only [YK, c172, t172, tgK, lyK, rkK, wK, rfK, hr, qRes_eq, qNon_eq, qup_ap, vup_ap, vcpy_ap, kc8_0, kc8_1, kc8_2, lc_lt, lc_gt, lc_eq, Option.toList_some, Option.toList_none, List.cons_append, List.nil_append, lay_len, lay_sz, Nat.reduceAdd, Nat.reduceSub, Nat.reduceMul, Int.reduceToNat, Int.reduceLE, Int.reduceLT, Int.reduceEq, Int.reduceAdd, Int.reduceSub, Int.reduceMul, Int.reduceNeg, Nat.reduceLeDiff, Nat.reduceLT, true_and, and_true, false_and, and_false, qcat_0, qcat_1, qcat_3, qcat_9, Nat.reduceEqDiff, if_true, if_false, ite_self, or_true, true_or, or_false, false_or, forall_const, not_true_eq_false, not_false_eq_true, false_implies, implies_true, qtK0, qtK1, qtK2, qtK3, qtK4, List.getD_cons_zero, List.getD_cons_succ, Int.toNat_natCast, ne_eq, qcK, hbF, bsetF, bclrF, f4, f5, q1, q4, b3, b4, x98, c98, bi_t, bi_f, w2]
                exact hq
          · rw [b01_f (by omega)]
            have c98 : ¬ S.1 98 a = 2 := by rw [hz a (by omega) (by omega)]; decide
            have hq := hi2 (0, 0)
            rw [b01_f c98] at hq
            cases hso : soT F S.1 k with
            | true =>
              rw [hso] at hq
              by_cases c2 : F 32 k = 1
              · rw [c2] at hq q4
                simp only [YK, c172, t172, tgK, lyK, rkK, wK, rfK, hr, qRes_eq, qNon_eq, qup_ap, vup_ap, vcpy_ap, kc8_0, kc8_1, kc8_2, lc_lt, lc_gt, lc_eq, Option.toList_some, Option.toList_none, List.cons_append, List.nil_append, lay_len, lay_sz, Nat.reduceAdd, Nat.reduceSub, Nat.reduceMul, Int.reduceToNat, Int.reduceLE, Int.reduceLT, Int.reduceEq, Int.reduceAdd, Int.reduceSub, Int.reduceMul, Int.reduceNeg, Nat.reduceLeDiff, Nat.reduceLT, true_and, and_true, false_and, and_false, qcat_0, qcat_1, qcat_3, qcat_9, Nat.reduceEqDiff, if_true, if_false, ite_self, or_true, true_or, or_false, false_or, forall_const, not_true_eq_false, not_false_eq_true, false_implies, implies_true, qtK0, qtK1, qtK2, qtK3, qtK4, List.getD_cons_zero, List.getD_cons_succ, Int.toNat_natCast, ne_eq, qcK, hbF, bsetF, bclrF, f4, f5, q1, q4, b3, b4, bi_t, bi_f, w2]
                exact hq
              · have c3 : F 32 k = 0 := by omega
                rw [c3] at hq q4
                simp only [YK, c172, t172, tgK, lyK, rkK, wK, rfK, hr, qRes_eq, qNon_eq, qup_ap, vup_ap, vcpy_ap, kc8_0, kc8_1, kc8_2, lc_lt, lc_gt, lc_eq, Option.toList_some, Option.toList_none, List.cons_append, List.nil_append, lay_len, lay_sz, Nat.reduceAdd, Nat.reduceSub, Nat.reduceMul, Int.reduceToNat, Int.reduceLE, Int.reduceLT, Int.reduceEq, Int.reduceAdd, Int.reduceSub, Int.reduceMul, Int.reduceNeg, Nat.reduceLeDiff, Nat.reduceLT, true_and, and_true, false_and, and_false, qcat_0, qcat_1, qcat_3, qcat_9, Nat.reduceEqDiff, if_true, if_false, ite_self, or_true, true_or, or_false, false_or, forall_const, not_true_eq_false, not_false_eq_true, false_implies, implies_true, qtK0, qtK1, qtK2, qtK3, qtK4, List.getD_cons_zero, List.getD_cons_succ, Int.toNat_natCast, ne_eq, qcK, hbF, bsetF, bclrF, f4, f5, q1, q4, b3, b4, bi_t, bi_f, w2]
                exact hq
            | false =>
              rw [hso, Bool.false_and] at hq
              simp only [YK, c172, t172, tgK, lyK, rkK, wK, rfK, hr, qRes_eq, qNon_eq, qup_ap, vup_ap, vcpy_ap, kc8_0, kc8_1, kc8_2, lc_lt, lc_gt, lc_eq, Option.toList_some, Option.toList_none, List.cons_append, List.nil_append, lay_len, lay_sz, Nat.reduceAdd, Nat.reduceSub, Nat.reduceMul, Int.reduceToNat, Int.reduceLE, Int.reduceLT, Int.reduceEq, Int.reduceAdd, Int.reduceSub, Int.reduceMul, Int.reduceNeg, Nat.reduceLeDiff, Nat.reduceLT, true_and, and_true, false_and, and_false, qcat_0, qcat_1, qcat_3, qcat_9, Nat.reduceEqDiff, if_true, if_false, ite_self, or_true, true_or, or_false, false_or, forall_const, not_true_eq_false, not_false_eq_true, false_implies, implies_true, qtK0, qtK1, qtK2, qtK3, qtK4, List.getD_cons_zero, List.getD_cons_succ, Int.toNat_natCast, ne_eq, qcK, hbF, bsetF, bclrF, f4, f5, q1, q4, b3, b4, bi_t, bi_f, w2]
              exact hq
      have hq := hin cn 0 v5 (by omega)
      simp only [YK, c172, t172, tgK, lyK, rkK, wK, rfK, qRes_eq, qNon_eq, qup_ap, vup_ap, vcpy_ap, kc8_0, kc8_1, kc8_2, lc_lt, lc_gt, lc_eq, Option.toList_some, Option.toList_none, List.cons_append, List.nil_append, lay_len, lay_sz, Nat.reduceAdd, Nat.reduceSub, Nat.reduceMul, Int.reduceToNat, Int.reduceLE, Int.reduceLT, Int.reduceEq, Int.reduceAdd, Int.reduceSub, Int.reduceMul, Int.reduceNeg, Nat.reduceLeDiff, Nat.reduceLT, true_and, and_true, false_and, and_false, qcat_0, qcat_1, qcat_3, qcat_9, Nat.reduceEqDiff, if_true, if_false, ite_self, or_true, true_or, or_false, false_or, forall_const, not_true_eq_false, not_false_eq_true, false_implies, implies_true, qtK0, qtK1, qtK2, qtK3, qtK4, List.getD_cons_zero, List.getD_cons_succ, Int.toNat_natCast, ne_eq, qcK, hbF, bsetF, bclrF]
      exact hq
  have hr := Rf_k hR1.1
  simp only [YK, c172, t172, cl150, tgK, lyK, rkK, wK, rfK, hr, qRes_eq, qNon_eq, qup_ap, vup_ap, vcpy_ap, kc8_0, kc8_1, kc8_2, lc_lt, lc_gt, lc_eq, Option.toList_some, Option.toList_none, List.cons_append, List.nil_append, lay_len, lay_sz, Nat.reduceAdd, Nat.reduceSub, Nat.reduceMul, Int.reduceToNat, Int.reduceLE, Int.reduceLT, Int.reduceEq, Int.reduceAdd, Int.reduceSub, Int.reduceMul, Int.reduceNeg, Nat.reduceLeDiff, Nat.reduceLT, true_and, and_true, false_and, and_false, qcat_0, qcat_1, qcat_3, qcat_9, Nat.reduceEqDiff, if_true, if_false, ite_self, or_true, true_or, or_false, false_or, forall_const, not_true_eq_false, not_false_eq_true, false_implies, implies_true, qtK0, qtK1, qtK2, qtK3, qtK4, List.getD_cons_zero, List.getD_cons_succ, Int.toNat_natCast, ne_eq, qcK, hbF, bsetF, bclrF]
  refine r150 hR1.1 ?_
  have hq := hloop n 0 (layH F1) (9, 0) (9, 0) (9, 0) (by omega) (RFr_lay hR1.1 h9)
  simp only [YK, c172, t172, tgK, lyK, rkK, wK, rfK, qRes_eq, qNon_eq, qup_ap, vup_ap, vcpy_ap, kc8_0, kc8_1, kc8_2, lc_lt, lc_gt, lc_eq, Option.toList_some, Option.toList_none, List.cons_append, List.nil_append, lay_len, lay_sz, Nat.reduceAdd, Nat.reduceSub, Nat.reduceMul, Int.reduceToNat, Int.reduceLE, Int.reduceLT, Int.reduceEq, Int.reduceAdd, Int.reduceSub, Int.reduceMul, Int.reduceNeg, Nat.reduceLeDiff, Nat.reduceLT, true_and, and_true, false_and, and_false, qcat_0, qcat_1, qcat_3, qcat_9, Nat.reduceEqDiff, if_true, if_false, ite_self, or_true, true_or, or_false, false_or, forall_const, not_true_eq_false, not_false_eq_true, false_implies, implies_true, qtK0, qtK1, qtK2, qtK3, qtK4, List.getD_cons_zero, List.getD_cons_succ, Int.toNat_natCast, ne_eq, qcK, hbF, bsetF, bclrF]
  exact hq
theorem H_which {L : Nat} {xs : Nat → Int} (hA : FA) (F : Nat → Nat → Int) (hR : Rel F) : qPair (qtab L xs) Rel 0 86 172 [(3, 0), (9, 0), (9, 0)] [(3, 69), (9, 0), (9, 0), (9, 0), (9, 0), (9, 0)] F := by
  apply qPair_of
  obtain ⟨n, ns, na, hd⟩ := DN_of hR
  have hn4 : n ≤ 4 := by have := hR.2.2.1.1; have := hd.1; omega
  obtain ⟨cn, hcn⟩ : ∃ k : Nat, F 30 0 = (k : Int) := ⟨(F 30 0).toNat, by have := hR.2.2.2.2.2.2.1.2.1; omega⟩
  refine k86 hA hR hd hn4 hcn ?_
  intro G hG
  rw [qRes_eq]
  refine r172 hA hR hd hcn (CFr_Rel hR hG) (CFr_69 hG) ?_
  intro G2 hG2
  rw [qRes_eq]
  exact ⟨rfl, hG2⟩
