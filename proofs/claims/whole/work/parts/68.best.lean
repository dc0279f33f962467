/-! runs by a trial policy; the pair best -/
def trF (F : XT) (tp w : Nat → Int) : XT := va_up (va_up (layH F) 90 (fun j => if j < 6 then tp j else F 90 j)) 118 w
theorem trF_c {F : XT} {tp w : Nat → Int} {c : Nat} (h1 : c ≠ 90) (h2 : c ≠ 118) : trF F tp w c = layH F c := by
  funext j
  unfold trF
  rw [vup_ap, if_neg h2, vup_ap, if_neg h1]
theorem trF_90 {F : XT} {tp w : Nat → Int} {j : Nat} : trF F tp w 90 j = if j < 6 then tp j else F 90 j := by
  unfold trF
  rw [vup_ap, if_neg (by decide), vup_ap, if_pos rfl]
theorem trF_118 {F : XT} {tp w : Nat → Int} : trF F tp w 118 = w := by
  funext j
  unfold trF
  rw [vup_ap, if_pos rfl]
def trX (F : XT) (tp w : Nat → Int) : XT := pIni 90 (-9) (trF F tp w)
def TFr (F G : XT) : Prop := Rf G ∧ ∀ c : Nat, fx c → c ≠ 25 → c ≠ 26 → G c = F c
theorem TFr_Rel {F G : XT} (hR : Rel F) (h : TFr F G) : Rel G := Rel_eq hR h.1 (fun c hc => h.2 c (by unfold rlc at hc; unfold fx; omega) (by unfold rlc at hc; omega) (by unfold rlc at hc; omega)) (fun j _ => by rw [h.2 69 (by unfold fx; decide) (by decide) (by decide)])
theorem TFr_69 {F G : XT} (h : TFr F G) : ∀ c : Nat, 69 ≤ c → G c = F c := fun c hc => h.2 c (by unfold fx; omega) (by omega) (by omega)
theorem TFr_ok {F G : XT} {n ns na : Nat} {tp w : Nat → Int} (hR : Rel F) (hd : DN F n ns na) (hG : TFr F G) (h26 : ∀ k : Nat, k < 5 → G 26 k = tp k) (h25 : G 25 1 = tp 5) (hPB : PB tp (tp 5)) : Inv n ns na 0 0 (trX F tp w, L0) ∧ ST n ns na 25 26 10 (-1) G (trX F tp w) := by
  have e9 : ∀ j : Nat, j < 6 → trF F tp w 90 j = tp j := fun j hj => by rw [trF_90, if_pos hj]
  refine run_ok (F := F) (Fc := G) (G := trF F tp w) (p := 25) (s := 26) (u := 10) (y := 90) hR hd ⟨Or.inr ⟨rfl, rfl⟩, Or.inl rfl⟩ (fun c h1 h2 => hG.2 c (by unfold fx; omega) (by omega) (by omega)) (fun c h1 h2 => by rw [trF_c (by omega) (by omega), layH_c (by omega)]) (fun j _ => by rw [trF_c (by decide) (by decide), layH_c (by decide)]) ⟨(Rf_k hG.1).2.1.2.2.2.2.2.2.2.2.2.2.2.2.1, fun k hk => by rw [e9 k (by omega)]; exact h26 k hk, by rw [e9 5 (by decide)]; exact h25⟩ ?_ (fun a ha => by rw [trF_c (by decide) (by decide), hG.2 10 (by unfold fx; decide) (by decide) (by decide)]; exact hours_ok hR hd a ha) (Or.inl ⟨rfl, rfl⟩)
  unfold PB at hPB ⊢
  rw [e9 0 (by decide), e9 1 (by decide), e9 2 (by decide), e9 3 (by decide), e9 4 (by decide), e9 5 (by decide)]
  exact hPB
theorem c_tr {tb : qTb} {F G : XT} {n ns na : Nat} {R : Option qV → qM → Prop} (hA : FA) (hR : Rel F) (hd : DN F n ns na) (hG : TFr F G) (tp w : Nat → Int) (h26 : ∀ k : Nat, k < 5 → G 26 k = tp k) (h25 : G 25 1 = tp 5) (hPB : PB tp (tp 5)) (hk : ∀ G2, CC n na 25 10 (-1) G (pRunT n ns na 80 (trX F tp w, L0)) G2 → TFr F G2 → G2 25 = G 25 → G2 26 = G 26 → R none (LAY, G2)) : qW tb 8 (119, 1262) 0 [(3, 35), (3, 25), (3, 10), (0, -1), (0, 79), (9, 0)] [] (LAY, G) R :=
  k8 (p := 25) (s := 26) (u := 10) hA.1 hA.2.1 hG.1 (pIni_St0 90 (-9) (trF F tp w)) (TFr_ok hR hd hG h26 h25 hPB).2 (TFr_ok (w := w) hR hd hG h26 h25 hPB).1 79 (by decide) (fun G2 h => by
    have h2 := h
    unfold CC at h2
    exact hk G2 h ⟨h2.rf, fun c hc c1 c2 => (h2.2.1 c hc).trans (hG.2 c hc c1 c2)⟩ (h2.2.1 25 (by unfold fx; decide)) (h2.2.1 26 (by unfold fx; decide)))
/-- the reference's memory while policies are tried -/
def TRr (F F1 G : XT) (tp w : Nat → Int) : Prop := Nrm (layH F) G ∧ G 96 = layH F 96 ∧ G 118 = w ∧ (∀ j : Nat, j < 6 → G 90 j = tp j) ∧ (∀ j : Nat, 6 ≤ j → G 90 j = F 90 j) ∧ ∀ c : Nat, c < 69 → G c = F1 c
theorem TRr_Rel {F F1 G : XT} {tp w : Nat → Int} (hR : Rel F1) (h9 : ∀ c : Nat, 69 ≤ c → F1 c = F c) (h : TRr F F1 G tp w) : Rel G := by
  obtain ⟨h1, -, -, -, -, h5⟩ := h
  refine Rel_eq hR h1.1 (fun c hc => ?_) (fun j hj => ?_)
  · by_cases c69 : c < 69
    · exact h5 c c69
    · unfold rlc at hc
      rw [h1.2.1 c (by omega) (by omega) (by omega) (by omega) (by omega), layH_c (by omega), h9 c (by omega)]
  · rw [h1.2.2.1 j (by omega) (by omega), layH_c (by decide), h9 69 (by decide)]
theorem TRr_up {F F1 G : XT} {tp w : Nat → Int} (h : TRr F F1 G tp w) {k : Nat} (hk : k < 6) (v : Int) : TRr F F1 (qup G 90 k v) (fun j => if j = k then v else tp j) w := by
  obtain ⟨h1, h2, h3, h4, h5, h6⟩ := h
  refine ⟨Nrm_up h1 v (by decide), by rw [qup_c (by decide)]; exact h2, by rw [qup_c (by decide)]; exact h3, fun j hj => ?_, fun j hj => ?_, fun c hc => by rw [qup_c (by omega)]; exact h6 c hc⟩
  · show _ = if j = k then v else tp j
    rw [qup_ap, if_pos rfl]
    by_cases c : j = k
    · rw [if_pos c, if_pos c]
    · rw [if_neg c, if_neg c]; exact h4 j hj
  · rw [qup_ap, if_pos rfl, if_neg (by omega)]; exact h5 j hj
theorem TRr_eq {F F1 G : XT} {tp tq w : Nat → Int} (h : TRr F F1 G tp w) (e : ∀ j : Nat, j < 6 → tp j = tq j) : TRr F F1 G tq w := by
  obtain ⟨h1, h2, h3, h4, h5, h6⟩ := h
  exact ⟨h1, h2, h3, fun j hj => (h4 j hj).trans (e j hj), h5, h6⟩
theorem TRr_X {F F1 G : XT} {tp w : Nat → Int} (h : TRr F F1 G tp w) : Nrm (trF F tp w) G ∧ ∀ c : Nat, nl c → trX F tp w c = pIni 90 (-9) G c := by
  obtain ⟨⟨n0, n1, n2, n3, n4, n5⟩, h2, h3, h4, h5, h6⟩ := h
  have hN : Nrm (trF F tp w) G := ⟨n0, fun c a1 a2 a3 a4 a5 => by rw [n1 c a1 a2 a3 a4 a5, trF_c a3 a5], fun j a1 a2 => by rw [n2 j a1 a2, trF_c (by decide) (by decide)], fun j a => by rw [n3 j a, trF_c (by decide) (by decide)], fun c j a1 a2 a3 => by rw [n4 c j a1 a2 a3, trF_c (by omega) (by omega)], fun c j a1 a2 a3 => by rw [n5 c j a1 a2 a3, trF_c (by omega) (by omega)]⟩
  have e90 : G 90 = trF F tp w 90 := by
    funext j
    rw [trF_90]
    by_cases c : j < 6
    · rw [if_pos c]; exact h4 j c
    · rw [if_neg c]; exact h5 j (by omega)
  exact ⟨hN, fun c hc => (pIni_Nrm (v := -9) hN e90 (by rw [h2, trF_c (by decide) (by decide)]) (by rw [h3, trF_118]) (fun j _ => by rw [e90]) c hc).symm⟩
theorem r_tr {tb : qTb} {F F1 G : XT} {n ns na : Nat} {tp w : Nat → Int} {R : Option qV → qM → Prop} (hA : FA) (hG : TRr F F1 G tp w) (hI : Inv n ns na 0 0 (trX F tp w, L0)) (hk : ∀ G2, RR G (pRunT n ns na 80 (trX F tp w, L0)).1 (pRunT n ns na 80 (trX F tp w, L0)).2 G2 → TRr F F1 G2 tp w → R none (LAY, G2)) : qW tb 148 (119, 1262) 0 [(3, 69), (3, 90), (0, -9), (0, 79), (9, 0)] [] (LAY, G) R := by
  obtain ⟨hN, hX⟩ := TRr_X hG
  refine r148 (y := 90) hA.1 hA.2.2.1 hN.1 (Or.inr rfl) (-9) hX hI 79 (by decide) ?_
  intro G2 hRR
  obtain ⟨⟨n0, n1, n2, n3, n4, n5⟩, m2, m3, m4⟩ := Nrm_RR hA.1 hN hX hI (by decide) hRR
  obtain ⟨h1, h2, h3, h4, h5, h6⟩ := hG
  refine hk G2 hRR ⟨⟨n0, fun c a1 a2 a3 a4 a5 => by rw [n1 c a1 a2 a3 a4 a5, trF_c a3 a5], fun j a1 a2 => by rw [n2 j a1 a2, trF_c (by decide) (by decide)], fun j a => by rw [n3 j a, trF_c (by decide) (by decide)], fun c j a1 a2 a3 => by rw [n4 c j a1 a2 a3, trF_c (by omega) (by omega)], fun c j a1 a2 a3 => by rw [n5 c j a1 a2 a3, trF_c (by omega) (by omega)]⟩, m3.trans h2, m4.trans h3, fun j hj => by rw [m2]; exact h4 j hj, fun j hj => by rw [m2]; exact h5 j hj, fun c hc => (hRR.2.1 c hc).trans (h6 c hc)⟩
/-- layTrial -/
def layT (F : XT) : XT := va_up F 90 (fun j => if j < 6 then F 89 j else F 90 j)
theorem lt_step (F : XT) (k : Nat) : qup (va_up F 90 (fun j => if j < k then F 89 j else F 90 j)) 90 k (F 89 k) = va_up F 90 (fun j => if j < k + 1 then F 89 j else F 90 j) := by
  funext c j
  rw [qup_ap, vup_ap, vup_ap]
  by_cases hc : c = 90
  · rw [if_pos hc, if_pos hc, if_pos hc]
    by_cases hj : j = k
    · rw [if_pos hj, if_pos (by omega), hj]
    · rw [if_neg hj]
      by_cases h2 : j < k
      · rw [if_pos h2, if_pos (by omega)]
      · rw [if_neg h2, if_neg (by omega)]
  · rw [if_neg hc, if_neg hc, if_neg hc]
theorem lt_zero (F : XT) : va_up F 90 (fun j => if j < 0 then F 89 j else F 90 j) = F := by
  funext c j
  rw [vup_ap]
  by_cases hc : c = 90
  · rw [if_pos hc, if_neg (by omega), hc]
  · rw [if_neg hc]
theorem r165 {tb : qTb} {F : XT} {R : Option qV → qM → Prop} (hf : Rf F) (hk : R none (LAY, layT F)) : qW tb 165 (119, 1262) 0 [(3, 69), (9, 0)] [] (LAY, F) R := by
  have hr := Rf_k hf
  have hloop : ∀ (m k : Nat), k + m = 6 → qW tb 165 (119, 1262) 2 [(3, 69), (0, (k : Int))] [] (LAY, va_up F 90 (fun j => if j < k then F 89 j else F 90 j)) R := by
    intro m
    induction m with
    | zero =>
      intro k hm
      have ek : k = 6 := by omega
      subst ek
      have e12 : ((6 : Nat) : Int) = 6 := rfl
      unfold layT at hk
      rw [h165_2]
      simp only [YK, c165, t165, tgK, lyK, rkK, wK, rfK, hr, qRes_eq, qNon_eq, qup_ap, vup_ap, vcpy_ap, kc8_0, kc8_1, kc8_2, lc_lt, lc_gt, lc_eq, Option.toList_some, Option.toList_none, List.cons_append, List.nil_append, lay_len, lay_sz, Nat.reduceAdd, Nat.reduceSub, Nat.reduceMul, Int.reduceToNat, Int.reduceLE, Int.reduceLT, Int.reduceEq, Int.reduceAdd, Int.reduceSub, Int.reduceMul, Int.reduceNeg, Nat.reduceLeDiff, Nat.reduceLT, true_and, and_true, false_and, and_false, qcat_0, qcat_1, qcat_3, qcat_9, Nat.reduceEqDiff, if_true, if_false, ite_self, or_true, true_or, or_false, false_or, forall_const, not_true_eq_false, not_false_eq_true, false_implies, implies_true, qtK0, qtK1, qtK2, qtK3, qtK4, List.getD_cons_zero, List.getD_cons_succ, Int.toNat_natCast, ne_eq, qcK, hbF, bsetF, bclrF, e12]
      exact hk
    | succ m ih =>
      intro k hm
      have b1 : ((k : Int) < 6) = True := eq_true (by omega)
      have b2 : (0 ≤ (k : Int)) = True := eq_true (by omega)
      have w1 : w32 ((k : Int) + 1) = ((k + 1 : Nat) : Int) := by rw [w32_id ⟨by omega, by omega⟩]; omega
      have hi := ih (k + 1) (by omega)
      rw [← lt_step] at hi
      rw [h165_2]
      simp only [YK, c165, t165, tgK, lyK, rkK, wK, rfK, hr, qRes_eq, qNon_eq, qup_ap, vup_ap, vcpy_ap, kc8_0, kc8_1, kc8_2, lc_lt, lc_gt, lc_eq, Option.toList_some, Option.toList_none, List.cons_append, List.nil_append, lay_len, lay_sz, Nat.reduceAdd, Nat.reduceSub, Nat.reduceMul, Int.reduceToNat, Int.reduceLE, Int.reduceLT, Int.reduceEq, Int.reduceAdd, Int.reduceSub, Int.reduceMul, Int.reduceNeg, Nat.reduceLeDiff, Nat.reduceLT, true_and, and_true, false_and, and_false, qcat_0, qcat_1, qcat_3, qcat_9, Nat.reduceEqDiff, if_true, if_false, ite_self, or_true, true_or, or_false, false_or, forall_const, not_true_eq_false, not_false_eq_true, false_implies, implies_true, qtK0, qtK1, qtK2, qtK3, qtK4, List.getD_cons_zero, List.getD_cons_succ, Int.toNat_natCast, ne_eq, qcK, hbF, bsetF, bclrF, b1, b2, w1]
      exact hi
  have hq := hloop 6 0 (by omega)
  rw [lt_zero] at hq
  simp only [YK, c165, t165, tgK, lyK, rkK, wK, rfK, hr, qRes_eq, qNon_eq, qup_ap, vup_ap, vcpy_ap, kc8_0, kc8_1, kc8_2, lc_lt, lc_gt, lc_eq, Option.toList_some, Option.toList_none, List.cons_append, List.nil_append, lay_len, lay_sz, Nat.reduceAdd, Nat.reduceSub, Nat.reduceMul, Int.reduceToNat, Int.reduceLE, Int.reduceLT, Int.reduceEq, Int.reduceAdd, Int.reduceSub, Int.reduceMul, Int.reduceNeg, Nat.reduceLeDiff, Nat.reduceLT, true_and, and_true, false_and, and_false, qcat_0, qcat_1, qcat_3, qcat_9, Nat.reduceEqDiff, if_true, if_false, ite_self, or_true, true_or, or_false, false_or, forall_const, not_true_eq_false, not_false_eq_true, false_implies, implies_true, qtK0, qtK1, qtK2, qtK3, qtK4, List.getD_cons_zero, List.getD_cons_succ, Int.toNat_natCast, ne_eq, qcK, hbF, bsetF, bclrF]
  exact hq
theorem layT_Rf {F : XT} (hf : Rf F) : Rf (layT F) := Rf_vup hf _ (by decide)
theorem layT_c {F : XT} {c : Nat} (h : c ≠ 90) : layT F c = F c := by
  funext j
  unfold layT
  rw [vup_ap, if_neg h]
theorem TRr_lay {F F1 : XT} (hf : Rf F1) (h9 : ∀ c : Nat, 69 ≤ c → F1 c = F c) : TRr F F1 (layH (layT F1)) (F 89) (F 118) := by
  have e : ∀ c, 69 ≤ c → c ≠ 90 → layH (layT F1) c = layH F c := fun c hc h90 => by
    funext j
    unfold layH
    rw [vup_ap, vup_ap, layT_c (by omega), layT_c (by decide), layT_c h90, h9 c hc, h9 77 (by decide), h9 96 (by decide)]
  refine ⟨⟨layH_Rf (layT_Rf hf), fun c a1 _ a3 _ _ => e c (by omega) a3, fun j _ _ => by rw [e 69 (by decide) (by decide)], fun j _ => by rw [e 97 (by decide) (by decide)], fun c j a1 _ _ => by rw [e c (by omega) (by omega)], fun c j a1 _ _ => by rw [e c (by omega) (by omega)]⟩, e 96 (by decide) (by decide), by rw [e 118 (by decide) (by decide), layH_c (by decide)], fun j hj => ?_, fun j hj => ?_, fun c hc => by rw [layH_c (by omega), layT_c (by omega)]⟩
  · rw [layH_c (by decide)]
    unfold layT
    rw [vup_ap, if_pos rfl, if_pos hj, h9 89 (by decide)]
  · rw [layH_c (by decide)]
    unfold layT
    rw [vup_ap, if_pos rfl, if_neg (by omega), h9 90 (by decide)]
/-- the policies that are tried -/
def tpB (F : XT) (k : Nat) : Nat → Int := fun j => if j = 0 then 1 + ((k / 12 : Nat) : Int) else if j = 2 then ((k / 4 % 3 : Nat) : Int) else if j = 3 then ((k % 4 : Nat) : Int) else F 89 j
theorem tpB_PB {F : XT} (hR : Rel F) {k : Nat} (hk : k < 48) : PB (tpB F k) (tpB F k 5) := by
  have h := PB89 hR
  unfold PB tpB at *
  simp only [Nat.reduceEqDiff, if_true, if_false]
  omega
def bstS (n ns na : Nat) (F : XT) (k : Nat) : XT × LT := pRunT n ns na 80 (trX F (tpB F k) (F 118), L0)
def bT (n ns na : Nat) (F : XT) (m0 : Int) : Nat → Int × Int × Int
  | 0 => (m0, 0, 0)
  | k + 1 => if (bT n ns na F m0 k).1 < mT (bstS n ns na F k).1 2 na ∨ (mT (bstS n ns na F k).1 2 na = (bT n ns na F m0 k).1 ∧ smT ((bstS n ns na F k).1 115) n < (bT n ns na F m0 k).2.1) then (mT (bstS n ns na F k).1 2 na, smT ((bstS n ns na F k).1 115) n, 100 * (1 + ((k / 12 : Nat) : Int)) + 10 * ((k / 4 % 3 : Nat) : Int) + ((k % 4 : Nat) : Int)) else bT n ns na F m0 k
theorem bT_eq (n ns na : Nat) (F : XT) {m0 m1 : Int} (h0 : m0 < 0) (h1 : m1 < 0) : ∀ k : Nat, 0 < k → bT n ns na F m0 k = bT n ns na F m1 k := by
  intro k
  induction k with
  | zero => intro h; omega
  | succ k ih =>
    intro _
    by_cases c : k = 0
    · subst c
      have hr := (mT_r (bstS n ns na F 0).1 2 na).1
      have q0 : (bT n ns na F m0 0).1 < mT (bstS n ns na F 0).1 2 na := Int.lt_of_lt_of_le h0 hr
      have q1 : (bT n ns na F m1 0).1 < mT (bstS n ns na F 0).1 2 na := Int.lt_of_lt_of_le h1 hr
      show (if (bT n ns na F m0 0).1 < mT (bstS n ns na F 0).1 2 na ∨ (mT (bstS n ns na F 0).1 2 na = (bT n ns na F m0 0).1 ∧ smT ((bstS n ns na F 0).1 115) n < (bT n ns na F m0 0).2.1) then _ else _) = (if (bT n ns na F m1 0).1 < mT (bstS n ns na F 0).1 2 na ∨ (mT (bstS n ns na F 0).1 2 na = (bT n ns na F m1 0).1 ∧ smT ((bstS n ns na F 0).1 115) n < (bT n ns na F m1 0).2.1) then _ else _)
      rw [if_pos (Or.inl q0), if_pos (Or.inl q1)]
    · have e := ih (by omega)
      unfold bT
      rw [e]
def bAns (b : Int × Int × Int) (w : Int) : Int := if w = 0 then b.1 else if w = 1 then b.2.1 else b.2.2
theorem k82 {tb : qTb} {F : XT} {n ns na : Nat} {w : Int} {R : Option qV → qM → Prop} (hL : ∀ j : Nat, (tb 1).2 j = ([1, 0, 0, 0, 0] : List Int).getD j 0) (hL1 : (tb 1).1 = 5) (hM : ∀ j : Nat, (tb 2).2 j = ([4, 8, 2, 3, 2] : List Int).getD j 0) (hM1 : (tb 2).1 = 5) (hA : FA) (hR : Rel F) (hd : DN F n ns na) (hn4 : n ≤ 4) (hna : na ≤ 12) (hw : 0 ≤ w ∧ w ≤ 2) (hk : ∀ G, TFr F G → R (some (0, bAns (bT n ns na F (-1) 48) w)) (LAY, G)) : qW tb 82 (119, 1262) 0 [(3, 0), (0, w), (9, 0), (9, 0), (9, 0), (9, 0), (9, 0), (9, 0), (9, 0), (9, 0)] [] (LAY, F) R := by
  have e5 : ((5 : Nat) : Int) = 5 := rfl
  have hloop : ∀ (q k t h b : Nat) (G : XT) (v8 v9 : qV), k + q = 47 → k = 12 * (t - 1) + 4 * h + b → 1 ≤ t → t ≤ 4 → h ≤ 2 → b ≤ 3 → TFr F G → qW tb 82 (119, 1262) 60 [(3, 0), (0, w), (0, (bT n ns na F (-1) k).1), (0, (bT n ns na F (-1) k).2.1), (0, (bT n ns na F (-1) k).2.2), (0, (t : Int)), (0, (h : Int)), (0, (b : Int)), v8, v9] [] (LAY, G) R := by
    intro q
    induction q with
    | zero =>
      intro k t h b G v8 v9 hq ek t1 t2 h1 b1 hG
      have et : t = 4 := by omega
      have eh : h = 2 := by omega
      have eb : b = 3 := by omega
      have hr := Rf_k hG.1
      have bb : (3 < (b : Int)) = False := eq_false (by omega)
      have wb : w32 ((b : Int) + 1) = ((b + 1 : Nat) : Int) := by rw [w32_id ⟨by omega, by omega⟩]; omega
      have g23 : G 23 1 = F 89 5 := by rw [hG.2 23 (by unfold fx; decide) (by decide) (by decide)]; exact hR.2.2.2.1.2.2.symm
      have g24 : ∀ j : Nat, j < 5 → G 24 j = F 89 j := fun j hj => by rw [hG.2 24 (by unfold fx; decide) (by decide) (by decide)]; exact (hR.2.2.2.1.2.1 j hj).symm
      have kt : (t : Int) = 1 + ((k / 12 : Nat) : Int) := by omega
      have kh : (h : Int) = ((k / 4 % 3 : Nat) : Int) := by omega
      have kb : (b : Int) = ((k % 4 : Nat) : Int) := by omega
      have hG1 : TFr F (qup (qup (qup (qup (va_up G 26 (va_cpy (G 24) (G 26) 0 0 5)) 25 1 (G 23 1)) 26 0 (t : Int)) 26 2 (h : Int)) 26 3 (b : Int)) := ⟨((((Rf_vup hG.1 _ (by decide)).up (by decide)).upA 0 _ (by decide)).upA 2 _ (by decide)).upA 3 _ (by decide), fun c hc c1 c2 => by
        rw [qup_c c2, qup_c c2, qup_c c2, qup_c c1]
        funext j
        rw [vup_ap, if_neg c2]
        exact congrFun (hG.2 c hc c1 c2) j⟩
      refine (fun hnext => ?_ : (∀ G3 v8 v9, TFr F G3 → qW tb 82 (119, 1262) 60 [(3, 0), (0, w), (0, (bT n ns na F (-1) (k + 1)).1), (0, (bT n ns na F (-1) (k + 1)).2.1), (0, (bT n ns na F (-1) (k + 1)).2.2), (0, (t : Int)), (0, (h : Int)), (0, ((b + 1 : Nat) : Int)), v8, v9] [] (LAY, G3) R) → _) ?_
      · rw [h82_60]
        simp only [YK, c82, t82, c93, t93, c56, t56, cl93, cl56, cl8, tgK, lyK, rkK, wK, rfK, hr, qRes_eq, qNon_eq, qup_ap, vup_ap, vcpy_ap, kc8_0, kc8_1, kc8_2, lc_lt, lc_gt, lc_eq, Option.toList_some, Option.toList_none, List.cons_append, List.nil_append, lay_len, lay_sz, Nat.reduceAdd, Nat.reduceSub, Nat.reduceMul, Int.reduceToNat, Int.reduceLE, Int.reduceLT, Int.reduceEq, Int.reduceAdd, Int.reduceSub, Int.reduceMul, Int.reduceNeg, Nat.reduceLeDiff, Nat.reduceLT, true_and, and_true, false_and, and_false, qcat_0, qcat_1, qcat_3, qcat_9, Nat.reduceEqDiff, if_true, if_false, ite_self, or_true, true_or, or_false, false_or, forall_const, not_true_eq_false, not_false_eq_true, false_implies, implies_true, qtK0, qtK1, qtK2, qtK3, qtK4, List.getD_cons_zero, List.getD_cons_succ, Int.toNat_natCast, ne_eq, qcK, hbF, bsetF, bclrF, hL, hL1, hM, hM1, e5, bb, y_cpyC]
        refine c_tr hA hR hd hG1 (tpB F k) (F 118) (fun j hj => ?_) ?_ (tpB_PB hR (by omega)) ?_
        · simp only [qup_ap, vup_ap, vcpy_ap, if_true, if_false, Nat.reduceEqDiff]
          unfold tpB
          have hj5 : j = 0 ∨ j = 1 ∨ j = 2 ∨ j = 3 ∨ j = 4 := by omega
          rcases hj5 with rfl | rfl | rfl | rfl | rfl
          · simp only [if_true, if_false, Nat.reduceEqDiff, kt]
          · simp only [if_true, if_false, Nat.reduceEqDiff]; exact g24 1 (by decide)
          · simp only [if_true, if_false, Nat.reduceEqDiff, kh]
          · simp only [if_true, if_false, Nat.reduceEqDiff, kb]
          · simp only [if_true, if_false, Nat.reduceEqDiff]; exact g24 4 (by decide)
        · simp only [qup_ap, if_true, if_false, Nat.reduceEqDiff]
          unfold tpB
          simp only [if_true, if_false, Nat.reduceEqDiff]
          exact g23
        · clear hr
          intro G2 hC hG2 _ _
          have hr := Rf_k hG2.1
          have hC2 := hC
          unfold CC at hC2
          have c3 : ∀ j, (qup (qup (qup (qup (va_up G 26 (va_cpy (G 24) (G 26) 0 0 5)) 25 1 (G 23 1)) 26 0 (t : Int)) 26 2 (h : Int)) 26 3 (b : Int)) 3 j = F 3 j := fun j => congrFun (hG1.2 3 (by unfold fx; decide) (by decide) (by decide)) j
          simp only [YK, c82, t82, c93, t93, cl26, tgK, lyK, rkK, wK, rfK, hr, qRes_eq, qNon_eq, qup_ap, vup_ap, vcpy_ap, kc8_0, kc8_1, kc8_2, lc_lt, lc_gt, lc_eq, Option.toList_some, Option.toList_none, List.cons_append, List.nil_append, lay_len, lay_sz, Nat.reduceAdd, Nat.reduceSub, Nat.reduceMul, Int.reduceToNat, Int.reduceLE, Int.reduceLT, Int.reduceEq, Int.reduceAdd, Int.reduceSub, Int.reduceMul, Int.reduceNeg, Nat.reduceLeDiff, Nat.reduceLT, true_and, and_true, false_and, and_false, qcat_0, qcat_1, qcat_3, qcat_9, Nat.reduceEqDiff, if_true, if_false, ite_self, or_true, true_or, or_false, false_or, forall_const, not_true_eq_false, not_false_eq_true, false_implies, implies_true, qtK0, qtK1, qtK2, qtK3, qtK4, List.getD_cons_zero, List.getD_cons_succ, Int.toNat_natCast, ne_eq, qcK, hbF, bsetF, bclrF]
          refine k26 hC2 2 na (by rw [c3]; exact hd.2.2) hna ?_
          simp only [YK, c82, t82, cl27, tgK, lyK, rkK, wK, rfK, hr, qRes_eq, qNon_eq, qup_ap, vup_ap, vcpy_ap, kc8_0, kc8_1, kc8_2, lc_lt, lc_gt, lc_eq, Option.toList_some, Option.toList_none, List.cons_append, List.nil_append, lay_len, lay_sz, Nat.reduceAdd, Nat.reduceSub, Nat.reduceMul, Int.reduceToNat, Int.reduceLE, Int.reduceLT, Int.reduceEq, Int.reduceAdd, Int.reduceSub, Int.reduceMul, Int.reduceNeg, Nat.reduceLeDiff, Nat.reduceLT, true_and, and_true, false_and, and_false, qcat_0, qcat_1, qcat_3, qcat_9, Nat.reduceEqDiff, if_true, if_false, ite_self, or_true, true_or, or_false, false_or, forall_const, not_true_eq_false, not_false_eq_true, false_implies, implies_true, qtK0, qtK1, qtK2, qtK3, qtK4, List.getD_cons_zero, List.getD_cons_succ, Int.toNat_natCast, ne_eq, qcK, hbF, bsetF, bclrF]
          refine k27 hC2 n (by rw [c3]; exact hd.1) hn4 ?_
          have hn2 := hnext G2 (0, mT (bstS n ns na F k).1 2 na) (0, smT ((bstS n ns na F k).1 115) n) hG2
          unfold bT at hn2
          have eS : pRunT n ns na 80 (trX F (tpB F k) (F 118), L0) = bstS n ns na F k := rfl
          rw [eS]
          generalize bstS n ns na F k = S at *
          generalize bT n ns na F (-1) k = B at *
          have w1 : w32 ((t : Int) * 100) = (t : Int) * 100 := w32_id ⟨by omega, by omega⟩
          have w2 : w32 ((h : Int) * 10) = (h : Int) * 10 := w32_id ⟨by omega, by omega⟩
          have w3 : w32 ((t : Int) * 100 + (h : Int) * 10) = (t : Int) * 100 + (h : Int) * 10 := w32_id ⟨by omega, by omega⟩
          have w4 : w32 ((t : Int) * 100 + (h : Int) * 10 + (b : Int)) = 100 * (1 + ((k / 12 : Nat) : Int)) + 10 * ((k / 4 % 3 : Nat) : Int) + ((k % 4 : Nat) : Int) := by rw [w32_id ⟨by omega, by omega⟩]; omega
          by_cases c1 : B.1 < mT S.1 2 na
          · rw [if_pos (Or.inl c1)] at hn2
            simp only [YK, c82, t82, tgK, lyK, rkK, wK, rfK, qRes_eq, qNon_eq, qup_ap, vup_ap, vcpy_ap, kc8_0, kc8_1, kc8_2, lc_lt, lc_gt, lc_eq, Option.toList_some, Option.toList_none, List.cons_append, List.nil_append, lay_len, lay_sz, Nat.reduceAdd, Nat.reduceSub, Nat.reduceMul, Int.reduceToNat, Int.reduceLE, Int.reduceLT, Int.reduceEq, Int.reduceAdd, Int.reduceSub, Int.reduceMul, Int.reduceNeg, Nat.reduceLeDiff, Nat.reduceLT, true_and, and_true, false_and, and_false, qcat_0, qcat_1, qcat_3, qcat_9, Nat.reduceEqDiff, if_true, if_false, ite_self, or_true, true_or, or_false, false_or, forall_const, not_true_eq_false, not_false_eq_true, false_implies, implies_true, qtK0, qtK1, qtK2, qtK3, qtK4, List.getD_cons_zero, List.getD_cons_succ, Int.toNat_natCast, ne_eq, qcK, hbF, bsetF, bclrF, c1, w1, w2, w3, w4, wb]
            exact hn2
          · by_cases c2 : mT S.1 2 na = B.1
            · by_cases c3 : smT (S.1 115) n < B.2.1
              · rw [if_pos (Or.inr ⟨c2, c3⟩)] at hn2
                have c1' : (B.1 < B.1) = False := eq_false (by omega)
                rw [c2] at hn2 ⊢
                simp only [YK, c82, t82, tgK, lyK, rkK, wK, rfK, qRes_eq, qNon_eq, qup_ap, vup_ap, vcpy_ap, kc8_0, kc8_1, kc8_2, lc_lt, lc_gt, lc_eq, Option.toList_some, Option.toList_none, List.cons_append, List.nil_append, lay_len, lay_sz, Nat.reduceAdd, Nat.reduceSub, Nat.reduceMul, Int.reduceToNat, Int.reduceLE, Int.reduceLT, Int.reduceEq, Int.reduceAdd, Int.reduceSub, Int.reduceMul, Int.reduceNeg, Nat.reduceLeDiff, Nat.reduceLT, true_and, and_true, false_and, and_false, qcat_0, qcat_1, qcat_3, qcat_9, Nat.reduceEqDiff, if_true, if_false, ite_self, or_true, true_or, or_false, false_or, forall_const, not_true_eq_false, not_false_eq_true, false_implies, implies_true, qtK0, qtK1, qtK2, qtK3, qtK4, List.getD_cons_zero, List.getD_cons_succ, Int.toNat_natCast, ne_eq, qcK, hbF, bsetF, bclrF, c1', c3, w1, w2, w3, w4, wb]
                exact hn2
              · rw [if_neg (by omega)] at hn2
                have c1' : (B.1 < B.1) = False := eq_false (by omega)
                rw [c2] at hn2 ⊢
                simp only [YK, c82, t82, tgK, lyK, rkK, wK, rfK, qRes_eq, qNon_eq, qup_ap, vup_ap, vcpy_ap, kc8_0, kc8_1, kc8_2, lc_lt, lc_gt, lc_eq, Option.toList_some, Option.toList_none, List.cons_append, List.nil_append, lay_len, lay_sz, Nat.reduceAdd, Nat.reduceSub, Nat.reduceMul, Int.reduceToNat, Int.reduceLE, Int.reduceLT, Int.reduceEq, Int.reduceAdd, Int.reduceSub, Int.reduceMul, Int.reduceNeg, Nat.reduceLeDiff, Nat.reduceLT, true_and, and_true, false_and, and_false, qcat_0, qcat_1, qcat_3, qcat_9, Nat.reduceEqDiff, if_true, if_false, ite_self, or_true, true_or, or_false, false_or, forall_const, not_true_eq_false, not_false_eq_true, false_implies, implies_true, qtK0, qtK1, qtK2, qtK3, qtK4, List.getD_cons_zero, List.getD_cons_succ, Int.toNat_natCast, ne_eq, qcK, hbF, bsetF, bclrF, c1', c3, w1, w2, w3, w4, wb]
                exact hn2
            · rw [if_neg (by omega)] at hn2
              simp only [YK, c82, t82, tgK, lyK, rkK, wK, rfK, qRes_eq, qNon_eq, qup_ap, vup_ap, vcpy_ap, kc8_0, kc8_1, kc8_2, lc_lt, lc_gt, lc_eq, Option.toList_some, Option.toList_none, List.cons_append, List.nil_append, lay_len, lay_sz, Nat.reduceAdd, Nat.reduceSub, Nat.reduceMul, Int.reduceToNat, Int.reduceLE, Int.reduceLT, Int.reduceEq, Int.reduceAdd, Int.reduceSub, Int.reduceMul, Int.reduceNeg, Nat.reduceLeDiff, Nat.reduceLT, true_and, and_true, false_and, and_false, qcat_0, qcat_1, qcat_3, qcat_9, Nat.reduceEqDiff, if_true, if_false, ite_self, or_true, true_or, or_false, false_or, forall_const, not_true_eq_false, not_false_eq_true, false_implies, implies_true, qtK0, qtK1, qtK2, qtK3, qtK4, List.getD_cons_zero, List.getD_cons_succ, Int.toNat_natCast, ne_eq, qcK, hbF, bsetF, bclrF, c1, c2, wb]
              exact hn2
      · intro G3 v8 v9 hG3
        subst et eh eb
        have e4 : ((3 + 1 : Nat) : Int) = 4 := rfl
        have e4b : ((4 : Nat) : Int) = 4 := rfl
        have e22 : ((2 : Nat) : Int) = 2 := rfl
        have e47 : k = 47 := by omega
        subst e47
        have hq2 := hk G3 hG3
        unfold bAns at hq2
        rw [h82_60]
        simp only [YK, c82, t82, tgK, lyK, rkK, wK, rfK, qRes_eq, qNon_eq, qup_ap, vup_ap, vcpy_ap, kc8_0, kc8_1, kc8_2, lc_lt, lc_gt, lc_eq, Option.toList_some, Option.toList_none, List.cons_append, List.nil_append, lay_len, lay_sz, Nat.reduceAdd, Nat.reduceSub, Nat.reduceMul, Int.reduceToNat, Int.reduceLE, Int.reduceLT, Int.reduceEq, Int.reduceAdd, Int.reduceSub, Int.reduceMul, Int.reduceNeg, Nat.reduceLeDiff, Nat.reduceLT, true_and, and_true, false_and, and_false, qcat_0, qcat_1, qcat_3, qcat_9, Nat.reduceEqDiff, if_true, if_false, ite_self, or_true, true_or, or_false, false_or, forall_const, not_true_eq_false, not_false_eq_true, false_implies, implies_true, qtK0, qtK1, qtK2, qtK3, qtK4, List.getD_cons_zero, List.getD_cons_succ, Int.toNat_natCast, ne_eq, qcK, hbF, bsetF, bclrF, hL, hL1, hM, hM1, e5, e4, e4b, e22]
        rw [h82_43]
        simp only [YK, c82, t82, tgK, lyK, rkK, wK, rfK, qRes_eq, qNon_eq, qup_ap, vup_ap, vcpy_ap, kc8_0, kc8_1, kc8_2, lc_lt, lc_gt, lc_eq, Option.toList_some, Option.toList_none, List.cons_append, List.nil_append, lay_len, lay_sz, Nat.reduceAdd, Nat.reduceSub, Nat.reduceMul, Int.reduceToNat, Int.reduceLE, Int.reduceLT, Int.reduceEq, Int.reduceAdd, Int.reduceSub, Int.reduceMul, Int.reduceNeg, Nat.reduceLeDiff, Nat.reduceLT, true_and, and_true, false_and, and_false, qcat_0, qcat_1, qcat_3, qcat_9, Nat.reduceEqDiff, if_true, if_false, ite_self, or_true, true_or, or_false, false_or, forall_const, not_true_eq_false, not_false_eq_true, false_implies, implies_true, qtK0, qtK1, qtK2, qtK3, qtK4, List.getD_cons_zero, List.getD_cons_succ, Int.toNat_natCast, ne_eq, qcK, hbF, bsetF, bclrF, hL, hL1, hM, hM1, e5, e4, e4b, e22]
        rw [h82_26]
        simp only [YK, c82, t82, tgK, lyK, rkK, wK, rfK, qRes_eq, qNon_eq, qup_ap, vup_ap, vcpy_ap, kc8_0, kc8_1, kc8_2, lc_lt, lc_gt, lc_eq, Option.toList_some, Option.toList_none, List.cons_append, List.nil_append, lay_len, lay_sz, Nat.reduceAdd, Nat.reduceSub, Nat.reduceMul, Int.reduceToNat, Int.reduceLE, Int.reduceLT, Int.reduceEq, Int.reduceAdd, Int.reduceSub, Int.reduceMul, Int.reduceNeg, Nat.reduceLeDiff, Nat.reduceLT, true_and, and_true, false_and, and_false, qcat_0, qcat_1, qcat_3, qcat_9, Nat.reduceEqDiff, if_true, if_false, ite_self, or_true, true_or, or_false, false_or, forall_const, not_true_eq_false, not_false_eq_true, false_implies, implies_true, qtK0, qtK1, qtK2, qtK3, qtK4, List.getD_cons_zero, List.getD_cons_succ, Int.toNat_natCast, ne_eq, qcK, hbF, bsetF, bclrF, hL, hL1, hM, hM1, e5, e4, e4b, e22]
        refine ⟨fun c0 => ?_, fun c0 => ⟨fun c1 => ?_, fun c1 => ?_⟩⟩
        · rw [if_pos c0] at hq2; exact hq2
        · rw [if_neg c0, if_pos c1] at hq2; exact hq2
        · rw [if_neg c0, if_neg c1] at hq2; exact hq2
    | succ q ih =>
      intro k t h b G v8 v9 hq ek t1 t2 h1 b1 hG
      have hr := Rf_k hG.1
      have bb : (3 < (b : Int)) = False := eq_false (by omega)
      have wb : w32 ((b : Int) + 1) = ((b + 1 : Nat) : Int) := by rw [w32_id ⟨by omega, by omega⟩]; omega
      have g23 : G 23 1 = F 89 5 := by rw [hG.2 23 (by unfold fx; decide) (by decide) (by decide)]; exact hR.2.2.2.1.2.2.symm
      have g24 : ∀ j : Nat, j < 5 → G 24 j = F 89 j := fun j hj => by rw [hG.2 24 (by unfold fx; decide) (by decide) (by decide)]; exact (hR.2.2.2.1.2.1 j hj).symm
      have kt : (t : Int) = 1 + ((k / 12 : Nat) : Int) := by omega
      have kh : (h : Int) = ((k / 4 % 3 : Nat) : Int) := by omega
      have kb : (b : Int) = ((k % 4 : Nat) : Int) := by omega
      have hG1 : TFr F (qup (qup (qup (qup (va_up G 26 (va_cpy (G 24) (G 26) 0 0 5)) 25 1 (G 23 1)) 26 0 (t : Int)) 26 2 (h : Int)) 26 3 (b : Int)) := ⟨((((Rf_vup hG.1 _ (by decide)).up (by decide)).upA 0 _ (by decide)).upA 2 _ (by decide)).upA 3 _ (by decide), fun c hc c1 c2 => by
        rw [qup_c c2, qup_c c2, qup_c c2, qup_c c1]
        funext j
        rw [vup_ap, if_neg c2]
        exact congrFun (hG.2 c hc c1 c2) j⟩
      refine (fun hnext => ?_ : (∀ G3 v8 v9, TFr F G3 → qW tb 82 (119, 1262) 60 [(3, 0), (0, w), (0, (bT n ns na F (-1) (k + 1)).1), (0, (bT n ns na F (-1) (k + 1)).2.1), (0, (bT n ns na F (-1) (k + 1)).2.2), (0, (t : Int)), (0, (h : Int)), (0, ((b + 1 : Nat) : Int)), v8, v9] [] (LAY, G3) R) → _) ?_
      · rw [h82_60]
        simp only [YK, c82, t82, c93, t93, c56, t56, cl93, cl56, cl8, tgK, lyK, rkK, wK, rfK, hr, qRes_eq, qNon_eq, qup_ap, vup_ap, vcpy_ap, kc8_0, kc8_1, kc8_2, lc_lt, lc_gt, lc_eq, Option.toList_some, Option.toList_none, List.cons_append, List.nil_append, lay_len, lay_sz, Nat.reduceAdd, Nat.reduceSub, Nat.reduceMul, Int.reduceToNat, Int.reduceLE, Int.reduceLT, Int.reduceEq, Int.reduceAdd, Int.reduceSub, Int.reduceMul, Int.reduceNeg, Nat.reduceLeDiff, Nat.reduceLT, true_and, and_true, false_and, and_false, qcat_0, qcat_1, qcat_3, qcat_9, Nat.reduceEqDiff, if_true, if_false, ite_self, or_true, true_or, or_false, false_or, forall_const, not_true_eq_false, not_false_eq_true, false_implies, implies_true, qtK0, qtK1, qtK2, qtK3, qtK4, List.getD_cons_zero, List.getD_cons_succ, Int.toNat_natCast, ne_eq, qcK, hbF, bsetF, bclrF, hL, hL1, hM, hM1, e5, bb, y_cpyC]
        refine c_tr hA hR hd hG1 (tpB F k) (F 118) (fun j hj => ?_) ?_ (tpB_PB hR (by omega)) ?_
        · simp only [qup_ap, vup_ap, vcpy_ap, if_true, if_false, Nat.reduceEqDiff]
          unfold tpB
          have hj5 : j = 0 ∨ j = 1 ∨ j = 2 ∨ j = 3 ∨ j = 4 := by omega
          rcases hj5 with rfl | rfl | rfl | rfl | rfl
          · simp only [if_true, if_false, Nat.reduceEqDiff, kt]
          · simp only [if_true, if_false, Nat.reduceEqDiff]; exact g24 1 (by decide)
          · simp only [if_true, if_false, Nat.reduceEqDiff, kh]
          · simp only [if_true, if_false, Nat.reduceEqDiff, kb]
          · simp only [if_true, if_false, Nat.reduceEqDiff]; exact g24 4 (by decide)
        · simp only [qup_ap, if_true, if_false, Nat.reduceEqDiff]
          unfold tpB
          simp only [if_true, if_false, Nat.reduceEqDiff]
          exact g23
        · clear hr
          intro G2 hC hG2 _ _
          have hr := Rf_k hG2.1
          have hC2 := hC
          unfold CC at hC2
          have c3 : ∀ j, (qup (qup (qup (qup (va_up G 26 (va_cpy (G 24) (G 26) 0 0 5)) 25 1 (G 23 1)) 26 0 (t : Int)) 26 2 (h : Int)) 26 3 (b : Int)) 3 j = F 3 j := fun j => congrFun (hG1.2 3 (by unfold fx; decide) (by decide) (by decide)) j
          simp only [YK, c82, t82, c93, t93, cl26, tgK, lyK, rkK, wK, rfK, hr, qRes_eq, qNon_eq, qup_ap, vup_ap, vcpy_ap, kc8_0, kc8_1, kc8_2, lc_lt, lc_gt, lc_eq, Option.toList_some, Option.toList_none, List.cons_append, List.nil_append, lay_len, lay_sz, Nat.reduceAdd, Nat.reduceSub, Nat.reduceMul, Int.reduceToNat, Int.reduceLE, Int.reduceLT, Int.reduceEq, Int.reduceAdd, Int.reduceSub, Int.reduceMul, Int.reduceNeg, Nat.reduceLeDiff, Nat.reduceLT, true_and, and_true, false_and, and_false, qcat_0, qcat_1, qcat_3, qcat_9, Nat.reduceEqDiff, if_true, if_false, ite_self, or_true, true_or, or_false, false_or, forall_const, not_true_eq_false, not_false_eq_true, false_implies, implies_true, qtK0, qtK1, qtK2, qtK3, qtK4, List.getD_cons_zero, List.getD_cons_succ, Int.toNat_natCast, ne_eq, qcK, hbF, bsetF, bclrF]
          refine k26 hC2 2 na (by rw [c3]; exact hd.2.2) hna ?_
          simp only [YK, c82, t82, cl27, tgK, lyK, rkK, wK, rfK, hr, qRes_eq, qNon_eq, qup_ap, vup_ap, vcpy_ap, kc8_0, kc8_1, kc8_2, lc_lt, lc_gt, lc_eq, Option.toList_some, Option.toList_none, List.cons_append, List.nil_append, lay_len, lay_sz, Nat.reduceAdd, Nat.reduceSub, Nat.reduceMul, Int.reduceToNat, Int.reduceLE, Int.reduceLT, Int.reduceEq, Int.reduceAdd, Int.reduceSub, Int.reduceMul, Int.reduceNeg, Nat.reduceLeDiff, Nat.reduceLT, true_and, and_true, false_and, and_false, qcat_0, qcat_1, qcat_3, qcat_9, Nat.reduceEqDiff, if_true, if_false, ite_self, or_true, true_or, or_false, false_or, forall_const, not_true_eq_false, not_false_eq_true, false_implies, implies_true, qtK0, qtK1, qtK2, qtK3, qtK4, List.getD_cons_zero, List.getD_cons_succ, Int.toNat_natCast, ne_eq, qcK, hbF, bsetF, bclrF]
          refine k27 hC2 n (by rw [c3]; exact hd.1) hn4 ?_
          have hn2 := hnext G2 (0, mT (bstS n ns na F k).1 2 na) (0, smT ((bstS n ns na F k).1 115) n) hG2
          unfold bT at hn2
          have eS : pRunT n ns na 80 (trX F (tpB F k) (F 118), L0) = bstS n ns na F k := rfl
          rw [eS]
          generalize bstS n ns na F k = S at *
          generalize bT n ns na F (-1) k = B at *
          have w1 : w32 ((t : Int) * 100) = (t : Int) * 100 := w32_id ⟨by omega, by omega⟩
          have w2 : w32 ((h : Int) * 10) = (h : Int) * 10 := w32_id ⟨by omega, by omega⟩
          have w3 : w32 ((t : Int) * 100 + (h : Int) * 10) = (t : Int) * 100 + (h : Int) * 10 := w32_id ⟨by omega, by omega⟩
          have w4 : w32 ((t : Int) * 100 + (h : Int) * 10 + (b : Int)) = 100 * (1 + ((k / 12 : Nat) : Int)) + 10 * ((k / 4 % 3 : Nat) : Int) + ((k % 4 : Nat) : Int) := by rw [w32_id ⟨by omega, by omega⟩]; omega
          by_cases c1 : B.1 < mT S.1 2 na
          · rw [if_pos (Or.inl c1)] at hn2
            simp only [YK, c82, t82, tgK, lyK, rkK, wK, rfK, qRes_eq, qNon_eq, qup_ap, vup_ap, vcpy_ap, kc8_0, kc8_1, kc8_2, lc_lt, lc_gt, lc_eq, Option.toList_some, Option.toList_none, List.cons_append, List.nil_append, lay_len, lay_sz, Nat.reduceAdd, Nat.reduceSub, Nat.reduceMul, Int.reduceToNat, Int.reduceLE, Int.reduceLT, Int.reduceEq, Int.reduceAdd, Int.reduceSub, Int.reduceMul, Int.reduceNeg, Nat.reduceLeDiff, Nat.reduceLT, true_and, and_true, false_and, and_false, qcat_0, qcat_1, qcat_3, qcat_9, Nat.reduceEqDiff, if_true, if_false, ite_self, or_true, true_or, or_false, false_or, forall_const, not_true_eq_false, not_false_eq_true, false_implies, implies_true, qtK0, qtK1, qtK2, qtK3, qtK4, List.getD_cons_zero, List.getD_cons_succ, Int.toNat_natCast, ne_eq, qcK, hbF, bsetF, bclrF, c1, w1, w2, w3, w4, wb]
            exact hn2
          · by_cases c2 : mT S.1 2 na = B.1
            · by_cases c3 : smT (S.1 115) n < B.2.1
              · rw [if_pos (Or.inr ⟨c2, c3⟩)] at hn2
                have c1' : (B.1 < B.1) = False := eq_false (by omega)
                rw [c2] at hn2 ⊢
                simp only [YK, c82, t82, tgK, lyK, rkK, wK, rfK, qRes_eq, qNon_eq, qup_ap, vup_ap, vcpy_ap, kc8_0, kc8_1, kc8_2, lc_lt, lc_gt, lc_eq, Option.toList_some, Option.toList_none, List.cons_append, List.nil_append, lay_len, lay_sz, Nat.reduceAdd, Nat.reduceSub, Nat.reduceMul, Int.reduceToNat, Int.reduceLE, Int.reduceLT, Int.reduceEq, Int.reduceAdd, Int.reduceSub, Int.reduceMul, Int.reduceNeg, Nat.reduceLeDiff, Nat.reduceLT, true_and, and_true, false_and, and_false, qcat_0, qcat_1, qcat_3, qcat_9, Nat.reduceEqDiff, if_true, if_false, ite_self, or_true, true_or, or_false, false_or, forall_const, not_true_eq_false, not_false_eq_true, false_implies, implies_true, qtK0, qtK1, qtK2, qtK3, qtK4, List.getD_cons_zero, List.getD_cons_succ, Int.toNat_natCast, ne_eq, qcK, hbF, bsetF, bclrF, c1', c3, w1, w2, w3, w4, wb]
                exact hn2
              · rw [if_neg (by omega)] at hn2
                have c1' : (B.1 < B.1) = False := eq_false (by omega)
                rw [c2] at hn2 ⊢
                simp only [YK, c82, t82, tgK, lyK, rkK, wK, rfK, qRes_eq, qNon_eq, qup_ap, vup_ap, vcpy_ap, kc8_0, kc8_1, kc8_2, lc_lt, lc_gt, lc_eq, Option.toList_some, Option.toList_none, List.cons_append, List.nil_append, lay_len, lay_sz, Nat.reduceAdd, Nat.reduceSub, Nat.reduceMul, Int.reduceToNat, Int.reduceLE, Int.reduceLT, Int.reduceEq, Int.reduceAdd, Int.reduceSub, Int.reduceMul, Int.reduceNeg, Nat.reduceLeDiff, Nat.reduceLT, true_and, and_true, false_and, and_false, qcat_0, qcat_1, qcat_3, qcat_9, Nat.reduceEqDiff, if_true, if_false, ite_self, or_true, true_or, or_false, false_or, forall_const, not_true_eq_false, not_false_eq_true, false_implies, implies_true, qtK0, qtK1, qtK2, qtK3, qtK4, List.getD_cons_zero, List.getD_cons_succ, Int.toNat_natCast, ne_eq, qcK, hbF, bsetF, bclrF, c1', c3, w1, w2, w3, w4, wb]
                exact hn2
            · rw [if_neg (by omega)] at hn2
              simp only [YK, c82, t82, tgK, lyK, rkK, wK, rfK, qRes_eq, qNon_eq, qup_ap, vup_ap, vcpy_ap, kc8_0, kc8_1, kc8_2, lc_lt, lc_gt, lc_eq, Option.toList_some, Option.toList_none, List.cons_append, List.nil_append, lay_len, lay_sz, Nat.reduceAdd, Nat.reduceSub, Nat.reduceMul, Int.reduceToNat, Int.reduceLE, Int.reduceLT, Int.reduceEq, Int.reduceAdd, Int.reduceSub, Int.reduceMul, Int.reduceNeg, Nat.reduceLeDiff, Nat.reduceLT, true_and, and_true, false_and, and_false, qcat_0, qcat_1, qcat_3, qcat_9, Nat.reduceEqDiff, if_true, if_false, ite_self, or_true, true_or, or_false, false_or, forall_const, not_true_eq_false, not_false_eq_true, false_implies, implies_true, qtK0, qtK1, qtK2, qtK3, qtK4, List.getD_cons_zero, List.getD_cons_succ, Int.toNat_natCast, ne_eq, qcK, hbF, bsetF, bclrF, c1, c2, wb]
              exact hn2
      · intro G3 v8 v9 hG3
        by_cases cb : b + 1 ≤ 3
        · exact ih (k + 1) t h (b + 1) G3 v8 v9 (by omega) (by omega) t1 t2 h1 cb hG3
        · have eb : ((b + 1 : Nat) : Int) = 4 := by omega
          rw [eb, h82_60]
          by_cases ch : h + 1 ≤ 2
          · have hq2 := ih (k + 1) t (h + 1) 0 G3 v8 v9 (by omega) (by omega) t1 t2 ch (by omega) hG3
            have wh : w32 ((h : Int) + 1) = ((h + 1 : Nat) : Int) := by rw [w32_id ⟨by omega, by omega⟩]; omega
            have bh : (2 < ((h + 1 : Nat) : Int)) = False := eq_false (by omega)
            simp only [YK, c82, t82, tgK, lyK, rkK, wK, rfK, qRes_eq, qNon_eq, qup_ap, vup_ap, vcpy_ap, kc8_0, kc8_1, kc8_2, lc_lt, lc_gt, lc_eq, Option.toList_some, Option.toList_none, List.cons_append, List.nil_append, lay_len, lay_sz, Nat.reduceAdd, Nat.reduceSub, Nat.reduceMul, Int.reduceToNat, Int.reduceLE, Int.reduceLT, Int.reduceEq, Int.reduceAdd, Int.reduceSub, Int.reduceMul, Int.reduceNeg, Nat.reduceLeDiff, Nat.reduceLT, true_and, and_true, false_and, and_false, qcat_0, qcat_1, qcat_3, qcat_9, Nat.reduceEqDiff, if_true, if_false, ite_self, or_true, true_or, or_false, false_or, forall_const, not_true_eq_false, not_false_eq_true, false_implies, implies_true, qtK0, qtK1, qtK2, qtK3, qtK4, List.getD_cons_zero, List.getD_cons_succ, Int.toNat_natCast, ne_eq, qcK, hbF, bsetF, bclrF, hL, hL1, hM, hM1, e5, wh, bh]
            rw [h82_43]
            simp only [YK, c82, t82, tgK, lyK, rkK, wK, rfK, qRes_eq, qNon_eq, qup_ap, vup_ap, vcpy_ap, kc8_0, kc8_1, kc8_2, lc_lt, lc_gt, lc_eq, Option.toList_some, Option.toList_none, List.cons_append, List.nil_append, lay_len, lay_sz, Nat.reduceAdd, Nat.reduceSub, Nat.reduceMul, Int.reduceToNat, Int.reduceLE, Int.reduceLT, Int.reduceEq, Int.reduceAdd, Int.reduceSub, Int.reduceMul, Int.reduceNeg, Nat.reduceLeDiff, Nat.reduceLT, true_and, and_true, false_and, and_false, qcat_0, qcat_1, qcat_3, qcat_9, Nat.reduceEqDiff, if_true, if_false, ite_self, or_true, true_or, or_false, false_or, forall_const, not_true_eq_false, not_false_eq_true, false_implies, implies_true, qtK0, qtK1, qtK2, qtK3, qtK4, List.getD_cons_zero, List.getD_cons_succ, Int.toNat_natCast, ne_eq, qcK, hbF, bsetF, bclrF, hL, hL1, hM, hM1, e5, wh, bh]
            exact hq2
          · have hq2 := ih (k + 1) (t + 1) 0 0 G3 v8 v9 (by omega) (by omega) (by omega) (by omega) (by omega) (by omega) hG3
            have eh : h = 2 := by omega
            subst eh
            have wt : w32 ((t : Int) + 1) = ((t + 1 : Nat) : Int) := by rw [w32_id ⟨by omega, by omega⟩]; omega
            have bt2 : (4 < ((t + 1 : Nat) : Int)) = False := eq_false (by omega)
            have e22 : ((2 : Nat) : Int) = 2 := rfl
            simp only [YK, c82, t82, tgK, lyK, rkK, wK, rfK, qRes_eq, qNon_eq, qup_ap, vup_ap, vcpy_ap, kc8_0, kc8_1, kc8_2, lc_lt, lc_gt, lc_eq, Option.toList_some, Option.toList_none, List.cons_append, List.nil_append, lay_len, lay_sz, Nat.reduceAdd, Nat.reduceSub, Nat.reduceMul, Int.reduceToNat, Int.reduceLE, Int.reduceLT, Int.reduceEq, Int.reduceAdd, Int.reduceSub, Int.reduceMul, Int.reduceNeg, Nat.reduceLeDiff, Nat.reduceLT, true_and, and_true, false_and, and_false, qcat_0, qcat_1, qcat_3, qcat_9, Nat.reduceEqDiff, if_true, if_false, ite_self, or_true, true_or, or_false, false_or, forall_const, not_true_eq_false, not_false_eq_true, false_implies, implies_true, qtK0, qtK1, qtK2, qtK3, qtK4, List.getD_cons_zero, List.getD_cons_succ, Int.toNat_natCast, ne_eq, qcK, hbF, bsetF, bclrF, hL, hL1, hM, hM1, e5, wt, bt2, e22]
            rw [h82_43]
            simp only [YK, c82, t82, tgK, lyK, rkK, wK, rfK, qRes_eq, qNon_eq, qup_ap, vup_ap, vcpy_ap, kc8_0, kc8_1, kc8_2, lc_lt, lc_gt, lc_eq, Option.toList_some, Option.toList_none, List.cons_append, List.nil_append, lay_len, lay_sz, Nat.reduceAdd, Nat.reduceSub, Nat.reduceMul, Int.reduceToNat, Int.reduceLE, Int.reduceLT, Int.reduceEq, Int.reduceAdd, Int.reduceSub, Int.reduceMul, Int.reduceNeg, Nat.reduceLeDiff, Nat.reduceLT, true_and, and_true, false_and, and_false, qcat_0, qcat_1, qcat_3, qcat_9, Nat.reduceEqDiff, if_true, if_false, ite_self, or_true, true_or, or_false, false_or, forall_const, not_true_eq_false, not_false_eq_true, false_implies, implies_true, qtK0, qtK1, qtK2, qtK3, qtK4, List.getD_cons_zero, List.getD_cons_succ, Int.toNat_natCast, ne_eq, qcK, hbF, bsetF, bclrF, hL, hL1, hM, hM1, e5, wt, bt2, e22]
            rw [h82_26]
            simp only [YK, c82, t82, tgK, lyK, rkK, wK, rfK, qRes_eq, qNon_eq, qup_ap, vup_ap, vcpy_ap, kc8_0, kc8_1, kc8_2, lc_lt, lc_gt, lc_eq, Option.toList_some, Option.toList_none, List.cons_append, List.nil_append, lay_len, lay_sz, Nat.reduceAdd, Nat.reduceSub, Nat.reduceMul, Int.reduceToNat, Int.reduceLE, Int.reduceLT, Int.reduceEq, Int.reduceAdd, Int.reduceSub, Int.reduceMul, Int.reduceNeg, Nat.reduceLeDiff, Nat.reduceLT, true_and, and_true, false_and, and_false, qcat_0, qcat_1, qcat_3, qcat_9, Nat.reduceEqDiff, if_true, if_false, ite_self, or_true, true_or, or_false, false_or, forall_const, not_true_eq_false, not_false_eq_true, false_implies, implies_true, qtK0, qtK1, qtK2, qtK3, qtK4, List.getD_cons_zero, List.getD_cons_succ, Int.toNat_natCast, ne_eq, qcK, hbF, bsetF, bclrF, hL, hL1, hM, hM1, e5, wt, bt2, e22]
            rw [h82_43]
            simp only [YK, c82, t82, tgK, lyK, rkK, wK, rfK, qRes_eq, qNon_eq, qup_ap, vup_ap, vcpy_ap, kc8_0, kc8_1, kc8_2, lc_lt, lc_gt, lc_eq, Option.toList_some, Option.toList_none, List.cons_append, List.nil_append, lay_len, lay_sz, Nat.reduceAdd, Nat.reduceSub, Nat.reduceMul, Int.reduceToNat, Int.reduceLE, Int.reduceLT, Int.reduceEq, Int.reduceAdd, Int.reduceSub, Int.reduceMul, Int.reduceNeg, Nat.reduceLeDiff, Nat.reduceLT, true_and, and_true, false_and, and_false, qcat_0, qcat_1, qcat_3, qcat_9, Nat.reduceEqDiff, if_true, if_false, ite_self, or_true, true_or, or_false, false_or, forall_const, not_true_eq_false, not_false_eq_true, false_implies, implies_true, qtK0, qtK1, qtK2, qtK3, qtK4, List.getD_cons_zero, List.getD_cons_succ, Int.toNat_natCast, ne_eq, qcK, hbF, bsetF, bclrF, hL, hL1, hM, hM1, e5, wt, bt2, e22]
            exact hq2
  have d1 : (w < 0) = False := eq_false (by omega)
  have d2 : (2 < w) = False := eq_false (by omega)
  have hq := hloop 47 0 1 0 0 F (9, 0) (9, 0) (by omega) (by omega) (by omega) (by omega) (by omega) (by omega) ⟨hR.1, fun _ _ _ _ => rfl⟩
  simp only [YK, c82, t82, tgK, lyK, rkK, wK, rfK, qRes_eq, qNon_eq, qup_ap, vup_ap, vcpy_ap, kc8_0, kc8_1, kc8_2, lc_lt, lc_gt, lc_eq, Option.toList_some, Option.toList_none, List.cons_append, List.nil_append, lay_len, lay_sz, Nat.reduceAdd, Nat.reduceSub, Nat.reduceMul, Int.reduceToNat, Int.reduceLE, Int.reduceLT, Int.reduceEq, Int.reduceAdd, Int.reduceSub, Int.reduceMul, Int.reduceNeg, Nat.reduceLeDiff, Nat.reduceLT, true_and, and_true, false_and, and_false, qcat_0, qcat_1, qcat_3, qcat_9, Nat.reduceEqDiff, if_true, if_false, ite_self, or_true, true_or, or_false, false_or, forall_const, not_true_eq_false, not_false_eq_true, false_implies, implies_true, qtK0, qtK1, qtK2, qtK3, qtK4, List.getD_cons_zero, List.getD_cons_succ, Int.toNat_natCast, ne_eq, qcK, hbF, bsetF, bclrF, hL, hL1, hM, hM1, e5, d1, d2]
  rw [h82_26]
  simp only [YK, c82, t82, tgK, lyK, rkK, wK, rfK, qRes_eq, qNon_eq, qup_ap, vup_ap, vcpy_ap, kc8_0, kc8_1, kc8_2, lc_lt, lc_gt, lc_eq, Option.toList_some, Option.toList_none, List.cons_append, List.nil_append, lay_len, lay_sz, Nat.reduceAdd, Nat.reduceSub, Nat.reduceMul, Int.reduceToNat, Int.reduceLE, Int.reduceLT, Int.reduceEq, Int.reduceAdd, Int.reduceSub, Int.reduceMul, Int.reduceNeg, Nat.reduceLeDiff, Nat.reduceLT, true_and, and_true, false_and, and_false, qcat_0, qcat_1, qcat_3, qcat_9, Nat.reduceEqDiff, if_true, if_false, ite_self, or_true, true_or, or_false, false_or, forall_const, not_true_eq_false, not_false_eq_true, false_implies, implies_true, qtK0, qtK1, qtK2, qtK3, qtK4, List.getD_cons_zero, List.getD_cons_succ, Int.toNat_natCast, ne_eq, qcK, hbF, bsetF, bclrF, hL, hL1, hM, hM1, e5, d1, d2]
  rw [h82_43]
  simp only [YK, c82, t82, tgK, lyK, rkK, wK, rfK, qRes_eq, qNon_eq, qup_ap, vup_ap, vcpy_ap, kc8_0, kc8_1, kc8_2, lc_lt, lc_gt, lc_eq, Option.toList_some, Option.toList_none, List.cons_append, List.nil_append, lay_len, lay_sz, Nat.reduceAdd, Nat.reduceSub, Nat.reduceMul, Int.reduceToNat, Int.reduceLE, Int.reduceLT, Int.reduceEq, Int.reduceAdd, Int.reduceSub, Int.reduceMul, Int.reduceNeg, Nat.reduceLeDiff, Nat.reduceLT, true_and, and_true, false_and, and_false, qcat_0, qcat_1, qcat_3, qcat_9, Nat.reduceEqDiff, if_true, if_false, ite_self, or_true, true_or, or_false, false_or, forall_const, not_true_eq_false, not_false_eq_true, false_implies, implies_true, qtK0, qtK1, qtK2, qtK3, qtK4, List.getD_cons_zero, List.getD_cons_succ, Int.toNat_natCast, ne_eq, qcK, hbF, bsetF, bclrF, hL, hL1, hM, hM1, e5, d1, d2]
  exact hq
