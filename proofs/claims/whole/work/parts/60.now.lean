/-! what a run leaves as it is; a run by the policy that is now -/
def KP (X Y : XT) : Prop := (∀ c : Nat, (c < 69 ∨ (69 < c ∧ c < 98) ∨ (102 < c ∧ c < 108) ∨ 117 < c) → Y c = X c) ∧ ∀ j : Nat, (j < 62 ∨ 67 < j) → Y 69 j = X 69 j
theorem KP.rfl {X : XT} : KP X X := ⟨fun _ _ => Eq.refl _, fun _ _ => Eq.refl _⟩
theorem KP.trans {X Y Z : XT} (h1 : KP X Y) (h2 : KP Y Z) : KP X Z := ⟨fun c hc => (h2.1 c hc).trans (h1.1 c hc), fun j hj => (h2.2 j hj).trans (h1.2 j hj)⟩
theorem KP.up {X : XT} {c : Nat} (j : Nat) (v : Int) (hc : (98 ≤ c ∧ c ≤ 102) ∨ (108 ≤ c ∧ c ≤ 117)) : KP X (qup X c j v) := ⟨fun c2 h2 => qup_c (by omega), fun j2 _ => by rw [qup_c (by omega)]⟩
theorem KP.u9 {X : XT} {j : Nat} (v : Int) (hj : 62 ≤ j ∧ j ≤ 67) : KP X (qup X 69 j v) := ⟨fun c2 h2 => qup_c (by omega), fun j2 h2 => by rw [qup_ap, if_pos (Eq.refl _), if_neg (by omega)]⟩
theorem KP_send {n : Nat} {S : XT × LT} {a t : Int} : KP S.1 (pSend n S a t).1 := ⟨fun c hc => pSend_c (by omega) (by omega), fun j hj => pSend_69 (by omega) (by omega)⟩
theorem KP_end {n ns : Nat} {S : XT × LT} {h : Nat} {a t : Int} : KP S.1 (pEndOne n ns (pPop S h) h a t).1 := by
  rw [pEndOne_1]
  refine ⟨fun c hc => ?_, fun j hj => ?_⟩
  · rw [pNote_c (by omega) (by omega) (by omega) (by omega) (by omega) (by omega), pEY_c (by omega) (by omega) (by omega) (by omega) (by omega) (by omega) (by omega)]
    rfl
  · rw [pNote_c (by omega) (by omega) (by omega) (by omega) (by omega) (by omega), pEY_69 (by omega)]
    rfl
theorem KP_itr {f : Nat → XT × LT → XT × LT} (hf : ∀ i S, KP S.1 (f i S).1) : ∀ (k : Nat) (S : XT × LT), KP S.1 (itr f k S).1 := by
  intro k
  induction k with
  | zero => intro S; exact KP.rfl
  | succ k ih => intro S; exact (ih S).trans (hf k _)
theorem KP_endsH {n ns h : Nat} {t : Int} : ∀ (f : Nat) (S : XT × LT), KP S.1 (pEndsH n ns h t f S).1 := by
  intro f
  induction f with
  | zero => intro S; exact KP.rfl
  | succ f ih =>
    intro S
    unfold pEndsH
    split
    · exact KP_end.trans (ih _)
    · exact KP.rfl
theorem KP_begH {h : Nat} {t : Int} : ∀ (f : Nat) (S : XT × LT), KP S.1 (pBegH h t f S).1 := by
  intro f
  induction f with
  | zero => intro S; exact KP.rfl
  | succ f ih =>
    intro S
    unfold pBegH
    split
    · exact ih (pBeg1 S h t)
    · exact KP.rfl
theorem KP_tick {n ns na : Nat} {t : Int} {S : XT × LT} : KP S.1 (pTick n ns na t S).1 := by
  have h1 : ∀ S : XT × LT, KP S.1 (pEnds n ns t S).1 := fun S => KP_itr (f := fun h S => pEndsH n ns h t 3 S) (fun h S => KP_endsH 3 S) n S
  have h2 : ∀ S : XT × LT, KP S.1 (pLims n na t S).1 := fun S => KP_itr (f := pLim n t) (fun a S => by
    unfold pLim
    split
    · exact (KP.up a 4 (by omega)).trans (KP.up a t (by omega))
    · exact KP.rfl) na S
  have h3 : ∀ S : XT × LT, KP S.1 (pComs n na t S).1 := fun S => KP_itr (f := pCom n t) (fun a S => by
    unfold pCom
    split
    · exact (((KP.up a 1 (by omega)).trans (KP.u9 _ (by omega))).trans (KP.up a 1 (by omega))).trans (KP_send (S := (_, S.2)))
    · exact KP.rfl) na S
  have h4 : ∀ S : XT × LT, KP S.1 (pAgns n na t S).1 := fun S => KP_itr (f := pAgn n t) (fun a S => by
    unfold pAgn
    split
    · split
      · exact (((KP.u9 _ (by omega)).trans (KP.up a _ (by omega))).trans (KP.u9 _ (by omega))).trans (KP_send (S := (_, S.2)))
      · exact (KP.up a 3 (by omega)).trans (KP.up a t (by omega))
    · exact KP.rfl) na S
  have h5 : ∀ S : XT × LT, KP S.1 (pHeds n na t S).1 := fun S => by
    unfold pHeds
    split
    · refine KP_itr (f := pHed n t) (fun a S => ?_) na _
      unfold pHed
      split
      · exact (((KP.u9 _ (by omega)).trans (KP.up a 1 (by omega))).trans (KP.u9 _ (by omega))).trans (KP_send (S := (_, S.2)))
      · exact KP.rfl
    · exact KP.rfl
  have h6 : ∀ S : XT × LT, KP S.1 (pBegs n t S).1 := fun S => KP_itr (f := fun h S => pBegH h t 3 S) (fun h S => KP_begH 3 S) n S
  exact ((((((h1 S).trans (h2 _)).trans (h3 _)).trans (h4 _)).trans (h5 _)).trans (h6 _))
theorem KP_run {n ns na : Nat} {S : XT × LT} : ∀ k : Nat, KP S.1 (pRunT n ns na k S).1 := by
  intro k
  induction k with
  | zero => exact KP.rfl
  | succ k ih => exact ih.trans KP_tick
def rlc (c : Nat) : Prop := c < 2 ∨ (3 ≤ c ∧ c ≤ 12) ∨ c = 23 ∨ c = 24 ∨ (27 ≤ c ∧ c ≤ 34) ∨ (65 ≤ c ∧ c ≤ 68) ∨ (70 ≤ c ∧ c ≤ 79) ∨ c = 89 ∨ (91 ≤ c ∧ c ≤ 95)
theorem Rel_eq {F G : XT} (h : Rel F) (hf : Rf G) (h1 : ∀ c : Nat, rlc c → G c = F c) (h2 : ∀ j : Nat, j < 41 → G 69 j = F 69 j) : Rel G := by
  obtain ⟨-, hT, hD, hP, hO, hK, hS, hG⟩ := h
  have q : ∀ c : Nat, rlc c → G c = F c := h1
  have q0 := q 0 (by unfold rlc; decide)
  have q1 := q 1 (by unfold rlc; decide)
  have q3 := q 3 (by unfold rlc; decide)
  have q4 := q 4 (by unfold rlc; decide)
  have q5 := q 5 (by unfold rlc; decide)
  have q6 := q 6 (by unfold rlc; decide)
  have q7 := q 7 (by unfold rlc; decide)
  have q8 := q 8 (by unfold rlc; decide)
  have q9 := q 9 (by unfold rlc; decide)
  have q10 := q 10 (by unfold rlc; decide)
  have q11 := q 11 (by unfold rlc; decide)
  have q12 := q 12 (by unfold rlc; decide)
  have q23 := q 23 (by unfold rlc; decide)
  have q24 := q 24 (by unfold rlc; decide)
  have q27 := q 27 (by unfold rlc; decide)
  have q28 := q 28 (by unfold rlc; decide)
  have q29 := q 29 (by unfold rlc; decide)
  have q30 := q 30 (by unfold rlc; decide)
  have q31 := q 31 (by unfold rlc; decide)
  have q32 := q 32 (by unfold rlc; decide)
  have q33 := q 33 (by unfold rlc; decide)
  have q34 := q 34 (by unfold rlc; decide)
  have q65 := q 65 (by unfold rlc; decide)
  have q66 := q 66 (by unfold rlc; decide)
  have q67 := q 67 (by unfold rlc; decide)
  have q68 := q 68 (by unfold rlc; decide)
  have q70 := q 70 (by unfold rlc; decide)
  have q71 := q 71 (by unfold rlc; decide)
  have q72 := q 72 (by unfold rlc; decide)
  have q73 := q 73 (by unfold rlc; decide)
  have q74 := q 74 (by unfold rlc; decide)
  have q75 := q 75 (by unfold rlc; decide)
  have q76 := q 76 (by unfold rlc; decide)
  have q77 := q 77 (by unfold rlc; decide)
  have q78 := q 78 (by unfold rlc; decide)
  have q79 := q 79 (by unfold rlc; decide)
  have q89 := q 89 (by unfold rlc; decide)
  have q91 := q 91 (by unfold rlc; decide)
  have q92 := q 92 (by unfold rlc; decide)
  have q93 := q 93 (by unfold rlc; decide)
  have q94 := q 94 (by unfold rlc; decide)
  have q95 := q 95 (by unfold rlc; decide)
  have u1 := h2 1 (by decide)
  have u2 := h2 2 (by decide)
  have u3 := h2 3 (by decide)
  have u4 := h2 4 (by decide)
  have u31 := h2 31 (by decide)
  have u32 := h2 32 (by decide)
  have u37 := h2 37 (by decide)
  have u38 := h2 38 (by decide)
  refine ⟨hf, ?_, ?_, ?_, ?_, ?_, ?_, ?_⟩
  · unfold RT at hT ⊢; rw [u1, q0, q70, q1]; exact hT
  · unfold RD at hD ⊢; rw [u2, u3, u4, q3, q4, q5, q6, q7, q8, q9, q10, q11, q12, q71, q72, q73, q74, q75, q76, q77, q78, q79]; exact hD
  · unfold RP at hP ⊢; rw [q23, q24, q89]; exact hP
  · unfold RO drow at hO ⊢; rw [u31, u32, q27, q28, q29, q89, q91]; exact hO
  · unfold RK at hK ⊢; rw [q93, q34, q66, q65, q92, q68, q67]; exact hK
  · unfold RS at hS ⊢; rw [u37, q30, q31, q32, q94, q95]; exact hS
  · unfold RG at hG ⊢; rw [u38, q0]; exact hG
/-- the hours that are told, laid -/
def layH (F : XT) : XT := va_up F 96 (fun j => if j < 12 then F 77 j else F 96 j)
theorem layH_c {F : XT} {c : Nat} (h : c ≠ 96) : layH F c = F c := by
  funext j
  unfold layH
  rw [vup_ap, if_neg h]
theorem layH_96 {F : XT} {j : Nat} (h : j < 12) : layH F 96 j = F 77 j := by
  unfold layH
  rw [vup_ap, if_pos rfl, if_pos h]
theorem layH_Rf {F : XT} (hf : Rf F) : Rf (layH F) := Rf_vup hf _ (by decide)
theorem lh_step (F : XT) (k : Nat) : qup (va_up F 96 (fun j => if j < k then F 77 j else F 96 j)) 96 k (F 77 k) = va_up F 96 (fun j => if j < k + 1 then F 77 j else F 96 j) := by
  funext c j
  rw [qup_ap, vup_ap, vup_ap]
  by_cases hc : c = 96
  · rw [if_pos hc, if_pos hc, if_pos hc]
    by_cases hj : j = k
    · rw [if_pos hj, if_pos (by omega), hj]
    · rw [if_neg hj]
      by_cases h2 : j < k
      · rw [if_pos h2, if_pos (by omega)]
      · rw [if_neg h2, if_neg (by omega)]
  · rw [if_neg hc, if_neg hc, if_neg hc]
theorem lh_zero (F : XT) : va_up F 96 (fun j => if j < 0 then F 77 j else F 96 j) = F := by
  funext c j
  rw [vup_ap]
  by_cases hc : c = 96
  · rw [if_pos hc, if_neg (by omega), hc]
  · rw [if_neg hc]
theorem r150 {tb : qTb} {F : XT} {R : Option qV → qM → Prop} (hf : Rf F) (hk : R none (LAY, layH F)) : qW tb 150 (119, 1262) 0 [(3, 69), (9, 0)] [] (LAY, F) R := by
  have hr := Rf_k hf
  have hloop : ∀ (m k : Nat), k + m = 12 → qW tb 150 (119, 1262) 2 [(3, 69), (0, (k : Int))] [] (LAY, va_up F 96 (fun j => if j < k then F 77 j else F 96 j)) R := by
    intro m
    induction m with
    | zero =>
      intro k hm
      have ek : k = 12 := by omega
      subst ek
      have e12 : ((12 : Nat) : Int) = 12 := rfl
      unfold layH at hk
      rw [h150_2]
      simp only [YK, c150, t150, tgK, lyK, rkK, wK, rfK, hr, qRes_eq, qNon_eq, qup_ap, vup_ap, vcpy_ap, kc8_0, kc8_1, kc8_2, lc_lt, lc_gt, lc_eq, Option.toList_some, Option.toList_none, List.cons_append, List.nil_append, lay_len, lay_sz, Nat.reduceAdd, Nat.reduceSub, Nat.reduceMul, Int.reduceToNat, Int.reduceLE, Int.reduceLT, Int.reduceEq, Int.reduceAdd, Int.reduceSub, Int.reduceMul, Int.reduceNeg, Nat.reduceLeDiff, Nat.reduceLT, true_and, and_true, false_and, and_false, qcat_0, qcat_1, qcat_3, qcat_9, Nat.reduceEqDiff, if_true, if_false, ite_self, or_true, true_or, or_false, false_or, forall_const, not_true_eq_false, not_false_eq_true, false_implies, implies_true, qtK0, qtK1, qtK2, qtK3, qtK4, List.getD_cons_zero, List.getD_cons_succ, Int.toNat_natCast, ne_eq, qcK, e12]
      exact hk
    | succ m ih =>
      intro k hm
      have b1 : ((k : Int) < 12) = True := eq_true (by omega)
      have b2 : (0 ≤ (k : Int)) = True := eq_true (by omega)
      have w1 : w32 ((k : Int) + 1) = ((k + 1 : Nat) : Int) := by rw [w32_id ⟨by omega, by omega⟩]; omega
      have hi := ih (k + 1) (by omega)
      rw [← lh_step] at hi
      rw [h150_2]
      simp only [YK, c150, t150, tgK, lyK, rkK, wK, rfK, hr, qRes_eq, qNon_eq, qup_ap, vup_ap, vcpy_ap, kc8_0, kc8_1, kc8_2, lc_lt, lc_gt, lc_eq, Option.toList_some, Option.toList_none, List.cons_append, List.nil_append, lay_len, lay_sz, Nat.reduceAdd, Nat.reduceSub, Nat.reduceMul, Int.reduceToNat, Int.reduceLE, Int.reduceLT, Int.reduceEq, Int.reduceAdd, Int.reduceSub, Int.reduceMul, Int.reduceNeg, Nat.reduceLeDiff, Nat.reduceLT, true_and, and_true, false_and, and_false, qcat_0, qcat_1, qcat_3, qcat_9, Nat.reduceEqDiff, if_true, if_false, ite_self, or_true, true_or, or_false, false_or, forall_const, not_true_eq_false, not_false_eq_true, false_implies, implies_true, qtK0, qtK1, qtK2, qtK3, qtK4, List.getD_cons_zero, List.getD_cons_succ, Int.toNat_natCast, ne_eq, qcK, b1, b2, w1]
      exact hi
  have hq := hloop 12 0 (by omega)
  rw [lh_zero] at hq
  simp only [YK, c150, t150, tgK, lyK, rkK, wK, rfK, hr, qRes_eq, qNon_eq, qup_ap, vup_ap, vcpy_ap, kc8_0, kc8_1, kc8_2, lc_lt, lc_gt, lc_eq, Option.toList_some, Option.toList_none, List.cons_append, List.nil_append, lay_len, lay_sz, Nat.reduceAdd, Nat.reduceSub, Nat.reduceMul, Int.reduceToNat, Int.reduceLE, Int.reduceLT, Int.reduceEq, Int.reduceAdd, Int.reduceSub, Int.reduceMul, Int.reduceNeg, Nat.reduceLeDiff, Nat.reduceLT, true_and, and_true, false_and, and_false, qcat_0, qcat_1, qcat_3, qcat_9, Nat.reduceEqDiff, if_true, if_false, ite_self, or_true, true_or, or_false, false_or, forall_const, not_true_eq_false, not_false_eq_true, false_implies, implies_true, qtK0, qtK1, qtK2, qtK3, qtK4, List.getD_cons_zero, List.getD_cons_succ, Int.toNat_natCast, ne_eq, qcK]
  exact hq
/-- how many hosts, spans, asks the day has -/
def DN (F : XT) (n ns na : Nat) : Prop := F 3 0 = (n : Int) ∧ F 3 1 = (ns : Int) ∧ F 3 2 = (na : Int)
theorem DN_of {F : XT} (h : Rel F) : ∃ n ns na : Nat, DN F n ns na := by
  obtain ⟨-, -, hD, -⟩ := h
  exact ⟨(F 3 0).toNat, (F 3 1).toNat, (F 3 2).toNat, by have := hD.1; omega, by have := hD.2.2.1; omega, by have := hD.2.1; omega⟩
/-- a run may begin -/
theorem run_ok {F Fc G : XT} {n ns na p s u y : Nat} {sp v : Int} (hR : Rel F) (hd : DN F n ns na) (hp : PSH p s u) (hFc : ∀ c : Nat, 3 ≤ c → c ≤ 12 → Fc c = F c) (hG : ∀ c : Nat, 70 ≤ c → c ≤ 79 → G c = F c) (hG9 : ∀ j : Nat, j < 5 → G 69 j = F 69 j) (hps : Fc p 0 = (s : Int) ∧ (∀ k : Nat, k < 5 → Fc s k = G y k) ∧ Fc p 1 = G y 5) (hPB : PB (G y) (G y 5)) (hu : ∀ a : Nat, a < na → Fc u a = G 96 a ∧ 0 ≤ G 96 a ∧ G 96 a ≤ 40) (hv : (v = -9 ∧ sp = -1) ∨ (0 ≤ v ∧ sp = v)) : Inv n ns na 0 0 (pIni y v G, L0) ∧ ST n ns na p s u sp Fc (pIni y v G) := by
  obtain ⟨-, -, hD, -⟩ := hR
  obtain ⟨⟨d1, d2, d3⟩, ⟨d4, d5, d6⟩, ⟨d7, d8, d9⟩, d10, d11, d12⟩ := hD
  obtain ⟨g1, g2, g3⟩ := hd
  have hc : ∀ c : Nat, 70 ≤ c → c ≤ 79 → pIni y v G c = F c := fun c h1 h2 => by rw [pIni_c (by omega) (by omega), hG c h1 h2]
  have h9 : ∀ j : Nat, j < 5 → pIni y v G 69 j = F 69 j := fun j hj => by rw [pIni_69 (by omega) (by omega), hG9 j hj]
  have h96 : pIni y v G 96 = G 96 := pIni_c (by omega) (by omega)
  have hCB : CB n ns na (pIni y v G) := by
    refine ⟨⟨by rw [h9 2 (by decide), d1, g1], by omega⟩, ⟨by rw [h9 4 (by decide), d7, g2], by omega⟩, ⟨by rw [h9 3 (by decide), d4, g3], by omega⟩, ?_, ?_, ?_⟩
    · intro h hh
      rw [hc 71 (by decide) (by decide), hc 72 (by decide) (by decide), hc 73 (by decide) (by decide)]
      have := d10 h (by omega)
      omega
    · intro a ha
      rw [h96, hc 78 (by decide) (by decide), hc 79 (by decide) (by decide)]
      have := d12 a (by omega)
      have := hu a ha
      omega
    · unfold PB at hPB ⊢
      rw [pIni_97 (by decide), pIni_97 (by decide), pIni_97 (by decide), pIni_97 (by decide), pIni_97 (by decide), pIni_97 (by decide)]
      exact hPB
  obtain ⟨x1, x2, x3⟩ := pIni_St0 y v G
  refine ⟨⟨hCB, ?_, ?_, ?_, ?_⟩, ?_⟩
  · intro h hh
    refine ⟨fun c hc => absurd hc (by unfold L0; simp), fun c hc => absurd hc (by unfold L0; simp), by unfold L0; simp, by unfold L0; simp, fun c hc => absurd hc (by unfold L0; simp), rfl, by unfold L0; simp, fun _ => ⟨rfl, rfl⟩⟩
  · intro a ha
    have hna := hCB.2.2.1.2
    have e := (x1 a (by omega)).1
    have := hCB.2.2.2.2.1 a ha
    dsimp only
    rw [e]
    refine ⟨by decide, fun _ => ⟨by omega, fun h => by omega⟩, fun h => absurd rfl h⟩
  · intro h hh
    refine ⟨fun i j _ hj => absurd hj (by unfold L0; simp), fun j hj => absurd hj (by unfold L0; simp)⟩
  · refine ⟨?_, ?_⟩
    · dsimp only
      rw [x2.2.1]
      unfold LnOK
      decide
    · intro h hh
      obtain ⟨y1, y2, y3, y4, -⟩ := x3 h hh
      dsimp only
      rw [y1, y2, y3, y4]
      exact ⟨by decide, by decide, Or.inl rfl, fun _ => Or.inl rfl, fun _ => rfl⟩
  · refine ⟨hp, ⟨by rw [hFc 3 (by decide) (by decide), g1], hCB.1.2⟩, ⟨by rw [hFc 3 (by decide) (by decide), g2], hCB.2.1.2⟩, ⟨by rw [hFc 3 (by decide) (by decide), g3], hCB.2.2.1.2⟩, ?_, ?_, ?_, ?_, ?_⟩
    · intro h hh
      rw [hc 71 (by decide) (by decide), hc 72 (by decide) (by decide), hc 73 (by decide) (by decide), hFc 4 (by decide) (by decide), hFc 5 (by decide) (by decide), hFc 6 (by decide) (by decide)]
      have := d10 h (by omega)
      omega
    · intro k hk
      rw [hc 74 (by decide) (by decide), hc 75 (by decide) (by decide), hc 76 (by decide) (by decide), hFc 7 (by decide) (by decide), hFc 8 (by decide) (by decide), hFc 9 (by decide) (by decide)]
      have := d11 k (by omega)
      omega
    · intro a ha
      rw [h96, hc 78 (by decide) (by decide), hc 79 (by decide) (by decide), hFc 11 (by decide) (by decide), hFc 12 (by decide) (by decide)]
      have := d12 a (by omega)
      have := (hu a ha).1
      omega
    · refine ⟨hps.1, fun k hk => ?_, ?_⟩
      · rw [pIni_97 (by omega)]; exact hps.2.1 k hk
      · rw [pIni_97 (by decide)]; exact hps.2.2
    · rw [pIni_41]; exact hv
/-- after a run of the reference -/
theorem Rel_RR {F G F2 X : XT} {y : Nat} {v : Int} {L : LT} {Y : XT} (hR : Rel F) (hG : ∀ c : Nat, rlc c → G c = F c) (hG9 : ∀ j : Nat, j < 41 → G 69 j = F 69 j) (hX : ∀ c : Nat, nl c → X c = pIni y v G c) (hK : KP X Y) (hRR : RR G Y L F2) : Rel F2 := by
  obtain ⟨r1, r2, r3, -⟩ := hRR
  refine Rel_eq hR r1 ?_ ?_
  · intro c hc
    have hc2 := hc
    unfold rlc at hc2
    rw [← hG c hc]
    by_cases c69 : c < 69
    · exact r2 c c69
    · rw [r3 c (by unfold nl; omega), hK.1 c (by omega), hX c (by unfold nl; omega), pIni_c (by omega) (by omega)]
  · intro j hj
    rw [r3 69 (by unfold nl; decide), hK.2 j (by omega), hX 69 (by unfold nl; decide), pIni_69 (by omega) (by omega), hG9 j hj]
