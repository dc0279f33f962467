/-! the class: all works that end at a tick -/
theorem k12 {tb : qTb} {n ns na p s u : Nat} {sp : Int} {C X F : XT} {L : LT} {e b : Int} {R : Option qV → qM → Prop} (hR : CR p u sp C X L e b F) (hST : ST n ns na p s u sp C X) (h a : Nat) (hh : h < n) (ha : a < na) (t : Int) (ht : 0 ≤ t ∧ t ≤ 80) (hw : 0 < (L 1 h).length) (hae : (L 1 h).getD 0 0 = (a : Int)) (hRI : RI n na (X, L)) (hN : NB X h (pSp X ns (h : Int) t)) (hFG : X 98 a = 1 → pSp X ns (h : Int) t = false → FG (X 69 63) (w32 (t - X 96 a)))
    (hk : ∀ F2 e2, (doneNow ns X h (a : Int) t → e2 = w32 (e + 1)) → (¬ doneNow ns X h (a : Int) t → e2 = e) → CR p u sp C (pEndOne n ns (pPop (X, L) h) h (a : Int) t).1 (pEndOne n ns (pPop (X, L) h) h (a : Int) t).2 e2 (w32 (b - 1)) F2 → R none (LAY, F2)) : qW tb 12 (119, 1262) 0 [(3, 35), (0, (h : Int)), (0, t), (9, 0), (9, 0), (9, 0)] [] (LAY, F) R := by
  have hST0 := hST
  have hr := Rf_k hR.rf
  have hx := hR.k
  unfold CD at hx
  obtain ⟨hPS, ⟨t1, t1b⟩, ⟨t2, t2b⟩, ⟨t3, t3b⟩, t4, t5, t6, ⟨t7, t8, t9⟩, t10⟩ := hST
  have hp0 := psK hPS
  have hps := hR.ps hPS
  have hh4 : h < 4 := by omega
  have hg := hR.h hh4
  have hc0 := hcK0 hh4
  have hc1 := hcK1 h
  have hc3 := hcK3 hh4
  have b1 : (0 ≤ (h : Int) ∧ (h : Int) < 4) = True := eq_true (by omega)
  have hRIp := RI_pop hRI h hh4
  have hI : ∀ g : Nat, g < 4 → HI (lset (lset L 1 h ((L 1 h).eraseIdx 0)) 2 h ((L 2 h).eraseIdx 0)) g := fun g hg => HI_of hRIp t3b hg
  have hdn : doneNow ns X h (a : Int) t ↔ (X 98 a = 1 ∧ pSp X ns (h : Int) t = false) := by unfold doneNow; rw [Int.toNat_natCast]
  have p98 : pE1 X ns h t 98 = X 98 := pE1_c (by decide) (by decide)
  have p96 : pE1 X ns h t 96 = X 96 := pE1_c (by decide) (by decide)
  have p69 : pE1 X ns h t 69 = X 69 := pE1_c (by decide) (by decide)
  have p115 : pE1 X ns h t 115 = X 115 := pE1_c (by decide) (by decide)
  have hSTp : ST n ns na p s u sp C (pE1 X ns h t) := ST_up (ST_up hST0 113 h (by decide) _) 114 h (by decide) _
  have hNp : NB (pE1 X ns h t) h (pSp X ns (h : Int) t) := NB_eq hN (fun c hc => pE1_c (by omega) (by omega))
  have hfin : ∀ F5, CR p u sp C (pE1 X ns h t) (lset (lset L 1 h ((L 1 h).eraseIdx 0)) 2 h ((L 2 h).eraseIdx 0)) e (w32 (b - 1)) F5 → qW tb 12 (119, 1262) 56 [(3, 35), (0, (h : Int)), (0, t), (3, ((hO h : Nat) : Int)), (0, (a : Int)), (0, bi (pSp X ns (h : Int) t))] [] (LAY, F5) R := by
    intro F5 hR5
    refine k12y hR5 hSTp h a hh4 ha t ht hI (pSp X ns (h : Int) t) hNp ?_ ?_ ?_ ?_
    · rw [p98, p96, p69]; exact hFG
    · rw [p98, p115]
      intro c F6 hR6
      refine hk F6 e (fun q => absurd (hdn.mp q).1 c) (fun _ => rfl) ?_
      rw [pEndOne_a (S := pPop (X, L) h) c]
      exact hR6
    · rw [p98]
      intro c c2 F6 hR6
      refine hk F6 e (fun q => absurd (hdn.mp q).2 (by rw [c2]; decide)) (fun _ => rfl) ?_
      rw [pEndOne_b (S := pPop (X, L) h) c c2]
      exact hR6
    · rw [p98, p96, p69]
      intro c c2 F6 hR6
      refine hk F6 (w32 (e + 1)) (fun _ => rfl) (fun q => absurd (hdn.mpr ⟨c, c2⟩) q) ?_
      rw [pEndOne_c (S := pPop (X, L) h) c c2]
      exact hR6
  simp only [YK, d12a, t12, cl43, tgK, lyK, rkK, wK, rfK, hr, qRes_eq, qNon_eq, qup_ap, vup_ap, vcpy_ap, kc8_0, kc8_1, kc8_2, lc_lt, lc_gt, lc_eq, Option.toList_some, Option.toList_none, List.cons_append, List.nil_append, lay_len, lay_sz, Nat.reduceAdd, Nat.reduceSub, Nat.reduceMul, Int.reduceToNat, Int.reduceLE, Int.reduceLT, Int.reduceEq, Int.reduceAdd, Int.reduceSub, Int.reduceMul, Int.reduceNeg, Nat.reduceLeDiff, Nat.reduceLT, true_and, and_true, false_and, and_false, qcat_0, qcat_1, qcat_3, qcat_9, Nat.reduceEqDiff, if_true, if_false, ite_self, or_true, true_or, or_false, false_or, forall_const, not_true_eq_false, not_false_eq_true, false_implies, implies_true, qtK0, qtK1, qtK2, qtK3, qtK4, List.getD_cons_zero, List.getD_cons_succ, hx, Int.toNat_natCast, ne_eq, qcK, hbF, bsetF, bclrF, hp0, hps, t1, t2, t3, t7, hg, hc0, hc1, b1]
  refine k43 hR h hh4 hw (HI_of hRI t3b hh4) ?_
  rw [hae]
  clear hr hx hg hps
  intro F2 hR2
  have hr := Rf_k hR2.rf
  have hx := hR2.k
  unfold CD at hx
  have hps := hR2.ps hPS
  have hg := hR2.h hh4
  have h114 := (hR2.2.2.2.2.2 h hh4).2.2.2.2.1.2.2.2.2
  simp only [YK, d12a, t12, cl13, tgK, lyK, rkK, wK, rfK, hr, qRes_eq, qNon_eq, qup_ap, vup_ap, vcpy_ap, kc8_0, kc8_1, kc8_2, lc_lt, lc_gt, lc_eq, Option.toList_some, Option.toList_none, List.cons_append, List.nil_append, lay_len, lay_sz, Nat.reduceAdd, Nat.reduceSub, Nat.reduceMul, Int.reduceToNat, Int.reduceLE, Int.reduceLT, Int.reduceEq, Int.reduceAdd, Int.reduceSub, Int.reduceMul, Int.reduceNeg, Nat.reduceLeDiff, Nat.reduceLT, true_and, and_true, false_and, and_false, qcat_0, qcat_1, qcat_3, qcat_9, Nat.reduceEqDiff, if_true, if_false, ite_self, or_true, true_or, or_false, false_or, forall_const, not_true_eq_false, not_false_eq_true, false_implies, implies_true, qtK0, qtK1, qtK2, qtK3, qtK4, List.getD_cons_zero, List.getD_cons_succ, hx, Int.toNat_natCast, ne_eq, qcK, hbF, bsetF, bclrF, hp0, hps, t1, t2, t3, t7, hg, hc0, hc1, b1]
  refine k13 hR2 hST0 h hh4 t ?_
  have hR4 := (hR2.b (w32 (b - 1))).cnt hh4 7 113 (by omega) (w32 (X 113 h + 1)) (w32_rng _)
  cases hbd : pSp X ns (h : Int) t with
  | true =>
    have hq := hfin (qup (qup (qup F2 35 17 (w32 (b - 1))) (hO h) 7 (w32 (X 113 h + 1))) (hO h) 8 (w32 (X 114 h + 1))) (by
      have := hR4.cnt hh4 8 114 (by omega) (w32 (X 114 h + 1)) (w32_rng _)
      unfold pE1
      rw [hbd, bi_t]
      exact this)
    rw [hbd, bi_t] at hq
    rw [bi_t]
    simp only [YK, d12a, t12, tgK, lyK, rkK, wK, rfK, hr, qRes_eq, qNon_eq, qup_ap, vup_ap, vcpy_ap, kc8_0, kc8_1, kc8_2, lc_lt, lc_gt, lc_eq, Option.toList_some, Option.toList_none, List.cons_append, List.nil_append, lay_len, lay_sz, Nat.reduceAdd, Nat.reduceSub, Nat.reduceMul, Int.reduceToNat, Int.reduceLE, Int.reduceLT, Int.reduceEq, Int.reduceAdd, Int.reduceSub, Int.reduceMul, Int.reduceNeg, Nat.reduceLeDiff, Nat.reduceLT, true_and, and_true, false_and, and_false, qcat_0, qcat_1, qcat_3, qcat_9, Nat.reduceEqDiff, if_true, if_false, ite_self, or_true, true_or, or_false, false_or, forall_const, not_true_eq_false, not_false_eq_true, false_implies, implies_true, qtK0, qtK1, qtK2, qtK3, qtK4, List.getD_cons_zero, List.getD_cons_succ, hx, Int.toNat_natCast, ne_eq, qcK, hbF, bsetF, bclrF, hp0, hps, t1, t2, t3, t7, hg, hc0, hc1, hc3]
    exact hq
  | false =>
    have hq := hfin (qup (qup F2 35 17 (w32 (b - 1))) (hO h) 7 (w32 (X 113 h + 1))) (by
      unfold pE1
      rw [hbd, bi_f, Int.add_zero, w32_id h114]
      have e1 : qup X 113 h (w32 (X 113 h + 1)) 114 h = X 114 h := by rw [qup_c (by decide)]
      rw [← e1, qup_id]
      exact hR4)
    rw [hbd, bi_f] at hq
    rw [bi_f]
    simp only [YK, d12a, t12, tgK, lyK, rkK, wK, rfK, hr, qRes_eq, qNon_eq, qup_ap, vup_ap, vcpy_ap, kc8_0, kc8_1, kc8_2, lc_lt, lc_gt, lc_eq, Option.toList_some, Option.toList_none, List.cons_append, List.nil_append, lay_len, lay_sz, Nat.reduceAdd, Nat.reduceSub, Nat.reduceMul, Int.reduceToNat, Int.reduceLE, Int.reduceLT, Int.reduceEq, Int.reduceAdd, Int.reduceSub, Int.reduceMul, Int.reduceNeg, Nat.reduceLeDiff, Nat.reduceLT, true_and, and_true, false_and, and_false, qcat_0, qcat_1, qcat_3, qcat_9, Nat.reduceEqDiff, if_true, if_false, ite_self, or_true, true_or, or_false, false_or, forall_const, not_true_eq_false, not_false_eq_true, false_implies, implies_true, qtK0, qtK1, qtK2, qtK3, qtK4, List.getD_cons_zero, List.getD_cons_succ, hx, Int.toNat_natCast, ne_eq, qcK, hbF, bsetF, bclrF, hp0, hps, t1, t2, t3, t7, hg, hc0, hc1, hc3]
    exact hq
/-! what has ended and what is worked at, counted -/
def endC (X : XT) : Nat → Int
  | 0 => 0
  | k + 1 => endC X k + b01 (2 ≤ X 98 k)
def wkC (L : LT) : Nat → Int
  | 0 => 0
  | k + 1 => wkC L k + ((L 1 k).length : Int)
theorem endC_same {X Y : XT} : ∀ k : Nat, (∀ a : Nat, a < k → (2 ≤ Y 98 a ↔ 2 ≤ X 98 a)) → endC Y k = endC X k := by
  intro k
  induction k with
  | zero => intro _; rfl
  | succ k ih =>
    intro h
    unfold endC
    rw [ih (fun a ha => h a (by omega)), b01_eq (h k (by omega))]
theorem endC_up {X Y : XT} {a : Nat} (h1 : ¬ 2 ≤ X 98 a) (h2 : 2 ≤ Y 98 a) : ∀ k : Nat, a < k → (∀ c : Nat, c < k → c ≠ a → (2 ≤ Y 98 c ↔ 2 ≤ X 98 c)) → endC Y k = endC X k + 1 := by
  intro k
  induction k with
  | zero => intro h; omega
  | succ k ih =>
    intro hk h
    unfold endC
    by_cases c : a = k
    · subst c
      rw [endC_same a (fun c hc => h c (by omega) (by omega)), b01_t h2, b01_f h1]; omega
    · rw [ih (by omega) (fun c hc hn => h c (by omega) hn), b01_eq (h k (by omega) (fun q => c q.symm))]; omega
theorem endC_r (X : XT) : ∀ k : Nat, 0 ≤ endC X k ∧ endC X k ≤ (k : Int) := by
  intro k
  induction k with
  | zero => exact ⟨Int.le_refl _, Int.le_refl _⟩
  | succ k ih =>
    unfold endC
    have := b01_r (p := 2 ≤ X 98 k)
    omega
theorem endC_all {X : XT} : ∀ k : Nat, (k : Int) ≤ endC X k → ∀ a : Nat, a < k → 2 ≤ X 98 a := by
  intro k
  induction k with
  | zero => intro _ a ha; omega
  | succ k ih =>
    intro h a ha
    unfold endC at h
    have hr := endC_r X k
    by_cases c : 2 ≤ X 98 k
    · rw [b01_t c] at h
      by_cases hk : a = k
      · rw [hk]; exact c
      · exact ih (by omega) a (by omega)
    · rw [b01_f c] at h; omega
theorem wkC_same {L M : LT} : ∀ k : Nat, (∀ h : Nat, h < k → (M 1 h).length = (L 1 h).length) → wkC M k = wkC L k := by
  intro k
  induction k with
  | zero => intro _; rfl
  | succ k ih =>
    intro h
    unfold wkC
    rw [ih (fun a ha => h a (by omega)), h k (by omega)]
theorem wkC_ch {L M : LT} {h : Nat} {d : Int} (h1 : ((M 1 h).length : Int) = ((L 1 h).length : Int) + d) : ∀ k : Nat, h < k → (∀ g : Nat, g < k → g ≠ h → (M 1 g).length = (L 1 g).length) → wkC M k = wkC L k + d := by
  intro k
  induction k with
  | zero => intro h; omega
  | succ k ih =>
    intro hk hs
    unfold wkC
    by_cases c : h = k
    · subst c
      rw [wkC_same h (fun g hg => hs g (by omega) (by omega)), h1]; omega
    · rw [ih (by omega) (fun g hg hn => hs g (by omega) hn), hs k (by omega) (fun q => c q.symm)]; omega
theorem wkC_r {L : LT} : ∀ k : Nat, (∀ h : Nat, h < k → (L 1 h).length ≤ 3) → 0 ≤ wkC L k ∧ wkC L k ≤ 3 * (k : Int) := by
  intro k
  induction k with
  | zero => intro _; exact ⟨Int.le_refl _, Int.le_refl _⟩
  | succ k ih =>
    intro h
    unfold wkC
    have := ih (fun g hg => h g (by omega))
    have := h k (by omega)
    omega
theorem wkC_none {L : LT} : ∀ k : Nat, wkC L k = 0 → (∀ h : Nat, h < k → (L 1 h).length ≤ 3) → ∀ h : Nat, h < k → (L 1 h).length = 0 := by
  intro k
  induction k with
  | zero => intro _ _ h hh; omega
  | succ k ih =>
    intro h0 h3 h hh
    unfold wkC at h0
    have := wkC_r k (fun g hg => h3 g (by omega))
    by_cases c : h = k
    · rw [c]; omega
    · exact ih (by omega) (fun g hg => h3 g (by omega)) h (by omega)
/-- the class's cells stand for a state, what has ended and what is worked at being counted rightly -/
def CC (n na p u : Nat) (sp : Int) (C : XT) (S : XT × LT) (F : XT) : Prop := CR p u sp C S.1 S.2 (endC S.1 na) (wkC S.2 n) F
def CI (n ns na k : Nat) (t : Int) (p s u : Nat) (sp : Int) (C : XT) (S : XT × LT) : Prop := Inv n ns na k t S ∧ ST n ns na p s u sp C S.1
/-- asks from a0 on that come at a tick have not come yet -/
def NZ (na a0 : Nat) (t : Int) (X : XT) : Prop := ∀ a : Nat, a0 ≤ a → a < na → X 96 a = t → X 98 a = 0
theorem ST_endOne {n ns na p s u : Nat} {sp : Int} {C : XT} {S : XT × LT} (hS : ST n ns na p s u sp C S.1) (h : Nat) (a t : Int) : ST n ns na p s u sp C (pEndOne n ns (pPop S h) h a t).1 := by
  rw [pEndOne_1]
  have q : ∀ c, c < 98 → c ≠ 69 → pNote (pEY n ns (pPop S h) h a t) h (pSp (pPop S h).1 ns (h : Int) t) t c = S.1 c := fun c hc h69 => by
    rw [pNote_c (by omega) (by omega) (by omega) (by omega) (by omega) (by omega), pEY_c (by omega) (by omega) (by omega) (by omega) (by omega) (by omega) h69]
    rfl
  refine ST_eq hS ?_ (q _ (by decide) (by decide)) (q _ (by decide) (by decide)) (q _ (by decide) (by decide)) (q _ (by decide) (by decide)) (q _ (by decide) (by decide)) (q _ (by decide) (by decide)) (q _ (by decide) (by decide)) (q _ (by decide) (by decide)) (q _ (by decide) (by decide)) (q _ (by decide) (by decide))
  rw [pNote_c (by decide) (by decide) (by decide) (by decide) (by decide) (by decide), pEY_69 (by decide)]
  rfl
theorem pEndOne_98 {n ns : Nat} {S : XT × LT} {h : Nat} {a t : Int} (j : Nat) : (doneNow ns S.1 h a t → (pEndOne n ns (pPop S h) h a t).1 98 j = if j = a.toNat then 2 else S.1 98 j) ∧ (¬ doneNow ns S.1 h a t → (pEndOne n ns (pPop S h) h a t).1 98 j = S.1 98 j) := by
  rw [pEndOne_1, pNote_c (by decide) (by decide) (by decide) (by decide) (by decide) (by decide)]
  exact pEY_98 (S := pPop S h) j
theorem pEndOne_96 {n ns : Nat} {S : XT × LT} {h : Nat} {a t : Int} : (pEndOne n ns (pPop S h) h a t).1 96 = S.1 96 := by
  rw [pEndOne_1, pNote_c (by decide) (by decide) (by decide) (by decide) (by decide) (by decide), pEY_c (by decide) (by decide) (by decide) (by decide) (by decide) (by decide) (by decide)]
  rfl
theorem NZ_endOne {na a0 n ns : Nat} {t : Int} {S : XT × LT} (hz : NZ na a0 t S.1) (h : Nat) (a : Int) : NZ na a0 t (pEndOne n ns (pPop S h) h a t).1 := by
  intro j h1 h2 h3
  rw [pEndOne_96] at h3
  have hj := hz j h1 h2 h3
  obtain ⟨q1, q2⟩ := pEndOne_98 (n := n) (ns := ns) (S := S) (h := h) (a := a) (t := t) j
  by_cases c : doneNow ns S.1 h a t
  · rw [q1 c]
    by_cases c2 : j = a.toNat
    · have := c.1; rw [← c2] at this; omega
    · rw [if_neg c2]; exact hj
  · rw [q2 c]; exact hj
/-- what floats and the breaker must be like for a work's end -/
theorem NB_of {n ns na : Nat} {t : Int} {S : XT × LT} (hF : FLT) (hF2 : FLT2) (ht : 0 ≤ t ∧ t ≤ 79) (hI : Inv n ns na 0 t S) {h : Nat} (hh : h < 4) (hw : 0 < (S.2 1 h).length) (bad : Bool) : NB S.1 h bad := by
  obtain ⟨hC, hRI, hT, hW, hB⟩ := hI
  obtain ⟨b1, b2, b3, b4, b5⟩ := hB.2 h hh
  have hp := hC.2.2.2.2.2
  have hl := (hRI h hh).2.2.2.2.2.2.1
  have hrr := rtm_r (X := S.1) hl
  have hbi : bi bad = 0 ∨ bi bad = 1 := by cases bad <;> simp [bi]
  refine ⟨?_, hp.2.2.2.1, b1, b2, b5, ?_⟩
  · unfold OB
    rcases b3 with b3 | b3
    · exact Or.inl b3
    · exact Or.inr ⟨b3.1, b3.2.1, by omega⟩
  · intro h3
    have q := b4 h3
    exact ⟨hF2.1 _ _ _ q hrr.1 hrr.2 hbi, hF2.2.1 _ _ (hF.1 _ _ _ q hrr.1 hrr.2 hbi).2 (by split <;> omega) (by split <;> omega)⟩
theorem pPop_1 (S : XT × LT) (h g : Nat) : (pPop S h).2 1 g = if g = h then (S.2 1 h).eraseIdx 0 else S.2 1 g := by
  unfold pPop
  dsimp only
  rw [lset_ne (Or.inl (by decide)), lset_ap]
  by_cases c : g = h
  · rw [if_pos ⟨rfl, c⟩, if_pos c]
  · rw [if_neg (fun q => c q.2), if_neg c]
theorem k11h {tb : qTb} {n ns na p s u : Nat} {sp : Int} {C : XT} {R : Option qV → qM → Prop} (hF : FLT) (hF2 : FLT2) (t : Int) (ht : 0 ≤ t ∧ t ≤ 79) (h : Nat) (hh : h < n) : ∀ (f : Nat) (S : XT × LT) (F : XT) (i : Nat), i + f = 3 → CC n na p u sp C S F → CI n ns na 0 t p s u sp C S → NZ na 0 t S.1 → (∀ F2 v, CC n na p u sp C (pEndsH n ns h t f S) F2 → CI n ns na 0 t p s u sp C (pEndsH n ns h t f S) → NZ na 0 t (pEndsH n ns h t f S).1 → qW tb 11 (119, 1262) 2 [(3, 35), (0, t), (0, ((h + 1 : Nat) : Int)), (0, v)] [] (LAY, F2) R) → qW tb 11 (119, 1262) 15 [(3, 35), (0, t), (0, (h : Int)), (0, (i : Int))] [] (LAY, F) R := by
  intro f
  induction f with
  | zero =>
    intro S F i hi hR hI hz hk
    unfold CC at hR
    have hn4 := hI.2.2.1.2
    have hr := Rf_k hR.rf
    have hx := hR.k
    unfold CD at hx
    have ei : i = 3 := by omega
    subst ei
    have e3 : ((3 : Nat) : Int) = 3 := rfl
    have w1 : w32 ((h : Int) + 1) = ((h + 1 : Nat) : Int) := by rw [w32_id ⟨by omega, by omega⟩]; omega
    have hq := hk F 3 hR hI hz
    rw [h11_15]
    simp only [YK, c11, t11, tgK, lyK, rkK, wK, rfK, hr, qRes_eq, qNon_eq, qup_ap, vup_ap, vcpy_ap, kc8_0, kc8_1, kc8_2, lc_lt, lc_gt, lc_eq, Option.toList_some, Option.toList_none, List.cons_append, List.nil_append, lay_len, lay_sz, Nat.reduceAdd, Nat.reduceSub, Nat.reduceMul, Int.reduceToNat, Int.reduceLE, Int.reduceLT, Int.reduceEq, Int.reduceAdd, Int.reduceSub, Int.reduceMul, Int.reduceNeg, Nat.reduceLeDiff, Nat.reduceLT, true_and, and_true, false_and, and_false, qcat_0, qcat_1, qcat_3, qcat_9, Nat.reduceEqDiff, if_true, if_false, ite_self, or_true, true_or, or_false, false_or, forall_const, not_true_eq_false, not_false_eq_true, false_implies, implies_true, qtK0, qtK1, qtK2, qtK3, qtK4, List.getD_cons_zero, List.getD_cons_succ, hx, Int.toNat_natCast, ne_eq, qcK, hbF, bsetF, bclrF, e3, w1]
    exact hq
  | succ f ih =>
    intro S F i hi hR hI hz hk
    have hR0 := hR
    unfold CC at hR
    obtain ⟨hInv, hST⟩ := hI
    have hn4 := hST.2.1.2
    have hna := hST.2.2.2.1.2
    have hh4 : h < 4 := by omega
    have hr := Rf_k hR.rf
    have hx := hR.k
    unfold CD at hx
    have hg := hR.h hh4
    have hc0 := hcK0 hh4
    have hc1 := hcK1 h
    have b1 : (0 ≤ (h : Int) ∧ (h : Int) < 4) = True := eq_true (by omega)
    have b2 : ((i : Int) < 3) = True := eq_true (by omega)
    have w1 : w32 ((h : Int) + 1) = ((h + 1 : Nat) : Int) := by rw [w32_id ⟨by omega, by omega⟩]; omega
    have w2 : w32 ((i : Int) + 1) = ((i + 1 : Nat) : Int) := by rw [w32_id ⟨by omega, by omega⟩]; omega
    rw [h11_15]
    simp only [YK, c11, t11, cl42, tgK, lyK, rkK, wK, rfK, hr, qRes_eq, qNon_eq, qup_ap, vup_ap, vcpy_ap, kc8_0, kc8_1, kc8_2, lc_lt, lc_gt, lc_eq, Option.toList_some, Option.toList_none, List.cons_append, List.nil_append, lay_len, lay_sz, Nat.reduceAdd, Nat.reduceSub, Nat.reduceMul, Int.reduceToNat, Int.reduceLE, Int.reduceLT, Int.reduceEq, Int.reduceAdd, Int.reduceSub, Int.reduceMul, Int.reduceNeg, Nat.reduceLeDiff, Nat.reduceLT, true_and, and_true, false_and, and_false, qcat_0, qcat_1, qcat_3, qcat_9, Nat.reduceEqDiff, if_true, if_false, ite_self, or_true, true_or, or_false, false_or, forall_const, not_true_eq_false, not_false_eq_true, false_implies, implies_true, qtK0, qtK1, qtK2, qtK3, qtK4, List.getD_cons_zero, List.getD_cons_succ, hx, Int.toNat_natCast, ne_eq, qcK, hbF, bsetF, bclrF, hg, hc0, hc1, b1, b2]
    refine k42 hR h hh4 t ?_
    unfold pEndsH at hk
    by_cases c : endsB S.2 h t = true
    · rw [if_pos c] at hk
      rw [c, bi_t]
      have hRI := hInv.2.1
      obtain ⟨r1, r2, r3, r4, r5, r6, r7, r8⟩ := hRI h hh4
      have hw : 0 < (S.2 1 h).length := by
        simp only [endsB, Bool.and_eq_true, decide_eq_true_eq] at c
        omega
      have hmem := getD_mem hw
      have har := r2 _ hmem
      obtain ⟨a, hae⟩ : ∃ a : Nat, (S.2 1 h).getD 0 0 = (a : Int) := ⟨((S.2 1 h).getD 0 0).toNat, by omega⟩
      have hInv2 := (Inv_end hF ht hInv hh c).2.1
      rw [hae] at hk har hInv2
      have hta := hInv.2.2.1 a (by omega)
      have hha := hInv.1.2.2.2.2.1 a (by omega)
      have hec := endC_r S.1 na
      have hwc := wkC_r (L := S.2) n (fun g hg => (hRI g (by omega)).2.2.2.2.2.2.1)
      simp only [YK, c11, t11, cl12, tgK, lyK, rkK, wK, rfK, hr, qRes_eq, qNon_eq, qup_ap, vup_ap, vcpy_ap, kc8_0, kc8_1, kc8_2, lc_lt, lc_gt, lc_eq, Option.toList_some, Option.toList_none, List.cons_append, List.nil_append, lay_len, lay_sz, Nat.reduceAdd, Nat.reduceSub, Nat.reduceMul, Int.reduceToNat, Int.reduceLE, Int.reduceLT, Int.reduceEq, Int.reduceAdd, Int.reduceSub, Int.reduceMul, Int.reduceNeg, Nat.reduceLeDiff, Nat.reduceLT, true_and, and_true, false_and, and_false, qcat_0, qcat_1, qcat_3, qcat_9, Nat.reduceEqDiff, if_true, if_false, ite_self, or_true, true_or, or_false, false_or, forall_const, not_true_eq_false, not_false_eq_true, false_implies, implies_true, qtK0, qtK1, qtK2, qtK3, qtK4, List.getD_cons_zero, List.getD_cons_succ, hx, Int.toNat_natCast, ne_eq, qcK, hbF, bsetF, bclrF, hc0, hc1, b1]
      refine k12 hR hST h a hh (by omega) t (by omega) hw hae hRI (NB_of hF hF2 ht hInv hh4 hw _) (fun q _ => hF2.2.2.1 _ _ hInv.2.2.2.2.1 (by have := (hta.2.2 (by omega)).2 (Or.inl rfl); rw [w32_id ⟨by omega, by omega⟩]; omega) (by rw [w32_id ⟨by omega, by omega⟩]; omega)) ?_
      intro F2 e2 he1 he2 hR2
      have hl1 : ∀ g, (pEndOne n ns (pPop S h) h (a : Int) t).2 1 g = (pPop S h).2 1 g := fun g => congrFun (pEndOne_L2 (i := 1) (by decide)) g
      have hpp1 : (pPop S h).2 1 h = (S.2 1 h).eraseIdx 0 := by rw [pPop_1, if_pos rfl]
      have hpp2 : ∀ g, g ≠ h → (pPop S h).2 1 g = S.2 1 g := fun g hg => by rw [pPop_1, if_neg hg]
      have ew : w32 (wkC S.2 n - 1) = wkC (pEndOne n ns (pPop S h) h (a : Int) t).2 n := by
        rw [wkC_ch (L := S.2) (M := (pEndOne n ns (pPop S h) h (a : Int) t).2) (h := h) (d := -1) (by rw [hl1, hpp1, List.length_eraseIdx_of_lt hw]; omega) n hh (fun g _ hn => by rw [hl1, hpp2 g hn]), w32_id ⟨by omega, by omega⟩]; rfl
      have ee : e2 = endC (pEndOne n ns (pPop S h) h (a : Int) t).1 na := by
        by_cases cd : doneNow ns S.1 h (a : Int) t
        · rw [he1 cd]
          have c98 := cd.1
          rw [Int.toNat_natCast] at c98
          rw [endC_up (X := S.1) (Y := (pEndOne n ns (pPop S h) h (a : Int) t).1) (a := a) (by omega) (by rw [(pEndOne_98 a).1 cd, Int.toNat_natCast, if_pos rfl]; decide) na (by omega) (fun c2 _ hn => by rw [(pEndOne_98 c2).1 cd, Int.toNat_natCast, if_neg hn]), w32_id ⟨by omega, by omega⟩]
        · rw [he2 cd]
          exact (endC_same na (fun c2 _ => by rw [(pEndOne_98 c2).2 cd])).symm
      rw [ee, ew] at hR2
      have hq := ih (pEndOne n ns (pPop S h) h (a : Int) t) F2 (i + 1) (by omega) hR2 ⟨hInv2, ST_endOne hST h _ t⟩ (NZ_endOne hz h _) hk
      simp only [YK, c11, t11, tgK, lyK, rkK, wK, rfK, qRes_eq, qNon_eq, qup_ap, vup_ap, vcpy_ap, kc8_0, kc8_1, kc8_2, lc_lt, lc_gt, lc_eq, Option.toList_some, Option.toList_none, List.cons_append, List.nil_append, lay_len, lay_sz, Nat.reduceAdd, Nat.reduceSub, Nat.reduceMul, Int.reduceToNat, Int.reduceLE, Int.reduceLT, Int.reduceEq, Int.reduceAdd, Int.reduceSub, Int.reduceMul, Int.reduceNeg, Nat.reduceLeDiff, Nat.reduceLT, true_and, and_true, false_and, and_false, qcat_0, qcat_1, qcat_3, qcat_9, Nat.reduceEqDiff, if_true, if_false, ite_self, or_true, true_or, or_false, false_or, forall_const, not_true_eq_false, not_false_eq_true, false_implies, implies_true, qtK0, qtK1, qtK2, qtK3, qtK4, List.getD_cons_zero, List.getD_cons_succ, Int.toNat_natCast, ne_eq, qcK, hbF, bsetF, bclrF, w1, w2]
      exact hq
    · rw [if_neg c] at hk
      have c' : endsB S.2 h t = false := by simpa using c
      rw [c', bi_f]
      have hq := hk F (i : Int) hR0 ⟨hInv, hST⟩ hz
      simp only [YK, c11, t11, tgK, lyK, rkK, wK, rfK, qRes_eq, qNon_eq, qup_ap, vup_ap, vcpy_ap, kc8_0, kc8_1, kc8_2, lc_lt, lc_gt, lc_eq, Option.toList_some, Option.toList_none, List.cons_append, List.nil_append, lay_len, lay_sz, Nat.reduceAdd, Nat.reduceSub, Nat.reduceMul, Int.reduceToNat, Int.reduceLE, Int.reduceLT, Int.reduceEq, Int.reduceAdd, Int.reduceSub, Int.reduceMul, Int.reduceNeg, Nat.reduceLeDiff, Nat.reduceLT, true_and, and_true, false_and, and_false, qcat_0, qcat_1, qcat_3, qcat_9, Nat.reduceEqDiff, if_true, if_false, ite_self, or_true, true_or, or_false, false_or, forall_const, not_true_eq_false, not_false_eq_true, false_implies, implies_true, qtK0, qtK1, qtK2, qtK3, qtK4, List.getD_cons_zero, List.getD_cons_succ, Int.toNat_natCast, ne_eq, qcK, hbF, bsetF, bclrF, w1, w2]
      exact hq
theorem k11 {tb : qTb} {n ns na p s u : Nat} {sp : Int} {C : XT} {R : Option qV → qM → Prop} (hF : FLT) (hF2 : FLT2) (t : Int) (ht : 0 ≤ t ∧ t ≤ 79) {S : XT × LT} {F : XT} (hR : CC n na p u sp C S F) (hI : CI n ns na 0 t p s u sp C S) (hz : NZ na 0 t S.1) (hk : ∀ F2, CC n na p u sp C (pEnds n ns t S) F2 → CI n ns na 1 t p s u sp C (pEnds n ns t S) → NZ na 0 t (pEnds n ns t S).1 → R none (LAY, F2)) : qW tb 11 (119, 1262) 0 [(3, 35), (0, t), (9, 0), (9, 0)] [] (LAY, F) R := by
  have hloop : ∀ (m h : Nat) (F : XT) (v : qV), h + m = n → CC n na p u sp C (itr (fun h S => pEndsH n ns h t 3 S) h S) F → CI n ns na 0 t p s u sp C (itr (fun h S => pEndsH n ns h t 3 S) h S) → NZ na 0 t (itr (fun h S => pEndsH n ns h t 3 S) h S).1 → qW tb 11 (119, 1262) 2 [(3, 35), (0, t), (0, (h : Int)), v] [] (LAY, F) R := by
    intro m
    induction m with
    | zero =>
      intro h F v hm hR hI2 hz
      have hR0 := hR
      unfold CC at hR
      have hr := Rf_k hR.rf
      have hx := hR.k
      unfold CD at hx
      have t1 := hI2.2.2.1.1
      have eh : h = n := by omega
      subst eh
      have b1 : ((h : Int) < (h : Int)) = False := eq_false (by omega)
      have hq := hk F hR0 ⟨Inv_ends hF ht hI.1, hI2.2⟩ hz
      rw [h11_2]
      simp only [YK, c11, t11, tgK, lyK, rkK, wK, rfK, hr, qRes_eq, qNon_eq, qup_ap, vup_ap, vcpy_ap, kc8_0, kc8_1, kc8_2, lc_lt, lc_gt, lc_eq, Option.toList_some, Option.toList_none, List.cons_append, List.nil_append, lay_len, lay_sz, Nat.reduceAdd, Nat.reduceSub, Nat.reduceMul, Int.reduceToNat, Int.reduceLE, Int.reduceLT, Int.reduceEq, Int.reduceAdd, Int.reduceSub, Int.reduceMul, Int.reduceNeg, Nat.reduceLeDiff, Nat.reduceLT, true_and, and_true, false_and, and_false, qcat_0, qcat_1, qcat_3, qcat_9, Nat.reduceEqDiff, if_true, if_false, ite_self, or_true, true_or, or_false, false_or, forall_const, not_true_eq_false, not_false_eq_true, false_implies, implies_true, qtK0, qtK1, qtK2, qtK3, qtK4, List.getD_cons_zero, List.getD_cons_succ, hx, Int.toNat_natCast, ne_eq, qcK, hbF, bsetF, bclrF, t1, b1]
      exact hq
    | succ m ih =>
      intro h F v hm hR hI2 hz
      have hR0 := hR
      unfold CC at hR
      have hr := Rf_k hR.rf
      have hx := hR.k
      unfold CD at hx
      have t1 := hI2.2.2.1.1
      have b1 : ((h : Int) < (n : Int)) = True := eq_true (by omega)
      rw [h11_2]
      simp only [YK, c11, t11, tgK, lyK, rkK, wK, rfK, hr, qRes_eq, qNon_eq, qup_ap, vup_ap, vcpy_ap, kc8_0, kc8_1, kc8_2, lc_lt, lc_gt, lc_eq, Option.toList_some, Option.toList_none, List.cons_append, List.nil_append, lay_len, lay_sz, Nat.reduceAdd, Nat.reduceSub, Nat.reduceMul, Int.reduceToNat, Int.reduceLE, Int.reduceLT, Int.reduceEq, Int.reduceAdd, Int.reduceSub, Int.reduceMul, Int.reduceNeg, Nat.reduceLeDiff, Nat.reduceLT, true_and, and_true, false_and, and_false, qcat_0, qcat_1, qcat_3, qcat_9, Nat.reduceEqDiff, if_true, if_false, ite_self, or_true, true_or, or_false, false_or, forall_const, not_true_eq_false, not_false_eq_true, false_implies, implies_true, qtK0, qtK1, qtK2, qtK3, qtK4, List.getD_cons_zero, List.getD_cons_succ, hx, Int.toNat_natCast, ne_eq, qcK, hbF, bsetF, bclrF, t1, b1]
      refine k11h hF hF2 t ht h (by omega) 3 _ F 0 (by omega) hR0 hI2 hz ?_
      intro F2 v hR2 hI3 hz2
      exact ih (h + 1) F2 (0, v) (by omega) hR2 hI3 hz2
  have hR0 := hR
  unfold CC at hR
  have hr := Rf_k hR.rf
  have hx := hR.k
  unfold CD at hx
  simp only [YK, c11, t11, tgK, lyK, rkK, wK, rfK, hr, qRes_eq, qNon_eq, qup_ap, vup_ap, vcpy_ap, kc8_0, kc8_1, kc8_2, lc_lt, lc_gt, lc_eq, Option.toList_some, Option.toList_none, List.cons_append, List.nil_append, lay_len, lay_sz, Nat.reduceAdd, Nat.reduceSub, Nat.reduceMul, Int.reduceToNat, Int.reduceLE, Int.reduceLT, Int.reduceEq, Int.reduceAdd, Int.reduceSub, Int.reduceMul, Int.reduceNeg, Nat.reduceLeDiff, Nat.reduceLT, true_and, and_true, false_and, and_false, qcat_0, qcat_1, qcat_3, qcat_9, Nat.reduceEqDiff, if_true, if_false, ite_self, or_true, true_or, or_false, false_or, forall_const, not_true_eq_false, not_false_eq_true, false_implies, implies_true, qtK0, qtK1, qtK2, qtK3, qtK4, List.getD_cons_zero, List.getD_cons_succ, hx, Int.toNat_natCast, ne_eq, qcK, hbF, bsetF, bclrF]
  exact hloop n 0 F _ (by omega) hR0 hI hz
