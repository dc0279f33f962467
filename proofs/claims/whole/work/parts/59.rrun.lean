/-! the reference: a run -/
def hz (k : Nat) (G : XT) : XT := fun c j => if c = 104 then (if j < k then 0 else G c j) else if c = 107 then (if j < k then 0 else G c j) else if c = 109 then (if j < k then 1 else G c j) else if c = 108 then (if j < k then 0 else G c j) else if c = 110 then (if j < k then 0 else G c j) else if c = 111 then (if j < k then 0 else G c j) else if c = 112 then (if j < k then 0 else G c j) else if c = 113 then (if j < k then 0 else G c j) else if c = 114 then (if j < k then 0 else G c j) else if c = 115 then (if j < k then 0 else G c j) else if c = 116 then (if j < k then 0 else G c j) else if c = 117 then (if j < k then 0 else G c j) else G c j
def az (k : Nat) (G : XT) : XT := fun c j => if c = 98 then (if j < k then 0 else G c j) else if c = 99 then (if j < k then -9 else G c j) else if c = 100 then (if j < k then -9 else G c j) else if c = 101 then (if j < k then 0 else G c j) else if c = 102 then (if j < k then 0 else G c j) else G c j
theorem hz_step (G : XT) (k : Nat) : (qup (qup (qup (qup (qup (qup (qup (qup (qup (qup (qup (qup (hz k G) 104 k 0) 107 k 0) 109 k 1) 108 k 0) 110 k 0) 111 k 0) 112 k 0) 113 k 0) 114 k 0) 115 k 0) 116 k 0) 117 k 0) = hz (k + 1) G := by
  funext c j
  simp only [qup_ap]
  unfold hz
  have hj : j = k ∨ j < k ∨ k + 1 ≤ j := by omega
  have hc : c = 104 ∨ c = 107 ∨ c = 109 ∨ c = 108 ∨ c = 110 ∨ c = 111 ∨ c = 112 ∨ c = 113 ∨ c = 114 ∨ c = 115 ∨ c = 116 ∨ c = 117 ∨ (¬ c = 104 ∧ ¬ c = 107 ∧ ¬ c = 109 ∧ ¬ c = 108 ∧ ¬ c = 110 ∧ ¬ c = 111 ∧ ¬ c = 112 ∧ ¬ c = 113 ∧ ¬ c = 114 ∧ ¬ c = 115 ∧ ¬ c = 116 ∧ ¬ c = 117) := by omega
  rcases hj with rfl | hj | hj
  · have b1 : (j < j) = False := eq_false (by omega)
    have b2 : (j < j + 1) = True := eq_true (by omega)
    rcases hc with rfl | rfl | rfl | rfl | rfl | rfl | rfl | rfl | rfl | rfl | rfl | rfl | hc
    · simp only [b1, b2, if_true, if_false, Nat.reduceEqDiff]
    · simp only [b1, b2, if_true, if_false, Nat.reduceEqDiff]
    · simp only [b1, b2, if_true, if_false, Nat.reduceEqDiff]
    · simp only [b1, b2, if_true, if_false, Nat.reduceEqDiff]
    · simp only [b1, b2, if_true, if_false, Nat.reduceEqDiff]
    · simp only [b1, b2, if_true, if_false, Nat.reduceEqDiff]
    · simp only [b1, b2, if_true, if_false, Nat.reduceEqDiff]
    · simp only [b1, b2, if_true, if_false, Nat.reduceEqDiff]
    · simp only [b1, b2, if_true, if_false, Nat.reduceEqDiff]
    · simp only [b1, b2, if_true, if_false, Nat.reduceEqDiff]
    · simp only [b1, b2, if_true, if_false, Nat.reduceEqDiff]
    · simp only [b1, b2, if_true, if_false, Nat.reduceEqDiff]
    · simp only [hc, if_false]
  · have b1 : (j < k) = True := eq_true hj
    have b2 : (j < k + 1) = True := eq_true (by omega)
    have b3 : (j = k) = False := eq_false (by omega)
    rcases hc with rfl | rfl | rfl | rfl | rfl | rfl | rfl | rfl | rfl | rfl | rfl | rfl | hc
    · simp only [b1, b2, b3, if_true, if_false, Nat.reduceEqDiff]
    · simp only [b1, b2, b3, if_true, if_false, Nat.reduceEqDiff]
    · simp only [b1, b2, b3, if_true, if_false, Nat.reduceEqDiff]
    · simp only [b1, b2, b3, if_true, if_false, Nat.reduceEqDiff]
    · simp only [b1, b2, b3, if_true, if_false, Nat.reduceEqDiff]
    · simp only [b1, b2, b3, if_true, if_false, Nat.reduceEqDiff]
    · simp only [b1, b2, b3, if_true, if_false, Nat.reduceEqDiff]
    · simp only [b1, b2, b3, if_true, if_false, Nat.reduceEqDiff]
    · simp only [b1, b2, b3, if_true, if_false, Nat.reduceEqDiff]
    · simp only [b1, b2, b3, if_true, if_false, Nat.reduceEqDiff]
    · simp only [b1, b2, b3, if_true, if_false, Nat.reduceEqDiff]
    · simp only [b1, b2, b3, if_true, if_false, Nat.reduceEqDiff]
    · simp only [hc, if_false]
  · have b1 : (j < k) = False := eq_false (by omega)
    have b2 : (j < k + 1) = False := eq_false (by omega)
    have b3 : (j = k) = False := eq_false (by omega)
    rcases hc with rfl | rfl | rfl | rfl | rfl | rfl | rfl | rfl | rfl | rfl | rfl | rfl | hc
    · simp only [b1, b2, b3, if_true, if_false, Nat.reduceEqDiff]
    · simp only [b1, b2, b3, if_true, if_false, Nat.reduceEqDiff]
    · simp only [b1, b2, b3, if_true, if_false, Nat.reduceEqDiff]
    · simp only [b1, b2, b3, if_true, if_false, Nat.reduceEqDiff]
    · simp only [b1, b2, b3, if_true, if_false, Nat.reduceEqDiff]
    · simp only [b1, b2, b3, if_true, if_false, Nat.reduceEqDiff]
    · simp only [b1, b2, b3, if_true, if_false, Nat.reduceEqDiff]
    · simp only [b1, b2, b3, if_true, if_false, Nat.reduceEqDiff]
    · simp only [b1, b2, b3, if_true, if_false, Nat.reduceEqDiff]
    · simp only [b1, b2, b3, if_true, if_false, Nat.reduceEqDiff]
    · simp only [b1, b2, b3, if_true, if_false, Nat.reduceEqDiff]
    · simp only [b1, b2, b3, if_true, if_false, Nat.reduceEqDiff]
    · simp only [hc, if_false]
theorem hz_zero (G : XT) : hz 0 G = G := by
  funext c j
  unfold hz
  simp only [Nat.not_lt_zero, if_false, ite_self]
theorem hz_c {k : Nat} {G : XT} {c : Nat} (h : ¬ c = 104 ∧ ¬ c = 107 ∧ ¬ c = 109 ∧ ¬ c = 108 ∧ ¬ c = 110 ∧ ¬ c = 111 ∧ ¬ c = 112 ∧ ¬ c = 113 ∧ ¬ c = 114 ∧ ¬ c = 115 ∧ ¬ c = 116 ∧ ¬ c = 117) : hz k G c = G c := by
  funext j
  unfold hz
  simp only [h, if_false]
theorem az_step (G : XT) (k : Nat) : (qup (qup (qup (qup (qup (az k G) 98 k 0) 99 k (-9)) 100 k (-9)) 101 k 0) 102 k 0) = az (k + 1) G := by
  funext c j
  simp only [qup_ap]
  unfold az
  have hj : j = k ∨ j < k ∨ k + 1 ≤ j := by omega
  have hc : c = 98 ∨ c = 99 ∨ c = 100 ∨ c = 101 ∨ c = 102 ∨ (¬ c = 98 ∧ ¬ c = 99 ∧ ¬ c = 100 ∧ ¬ c = 101 ∧ ¬ c = 102) := by omega
  rcases hj with rfl | hj | hj
  · have b1 : (j < j) = False := eq_false (by omega)
    have b2 : (j < j + 1) = True := eq_true (by omega)
    rcases hc with rfl | rfl | rfl | rfl | rfl | hc
    · simp only [b1, b2, if_true, if_false, Nat.reduceEqDiff]
    · simp only [b1, b2, if_true, if_false, Nat.reduceEqDiff]
    · simp only [b1, b2, if_true, if_false, Nat.reduceEqDiff]
    · simp only [b1, b2, if_true, if_false, Nat.reduceEqDiff]
    · simp only [b1, b2, if_true, if_false, Nat.reduceEqDiff]
    · simp only [hc, if_false]
  · have b1 : (j < k) = True := eq_true hj
    have b2 : (j < k + 1) = True := eq_true (by omega)
    have b3 : (j = k) = False := eq_false (by omega)
    rcases hc with rfl | rfl | rfl | rfl | rfl | hc
    · simp only [b1, b2, b3, if_true, if_false, Nat.reduceEqDiff]
    · simp only [b1, b2, b3, if_true, if_false, Nat.reduceEqDiff]
    · simp only [b1, b2, b3, if_true, if_false, Nat.reduceEqDiff]
    · simp only [b1, b2, b3, if_true, if_false, Nat.reduceEqDiff]
    · simp only [b1, b2, b3, if_true, if_false, Nat.reduceEqDiff]
    · simp only [hc, if_false]
  · have b1 : (j < k) = False := eq_false (by omega)
    have b2 : (j < k + 1) = False := eq_false (by omega)
    have b3 : (j = k) = False := eq_false (by omega)
    rcases hc with rfl | rfl | rfl | rfl | rfl | hc
    · simp only [b1, b2, b3, if_true, if_false, Nat.reduceEqDiff]
    · simp only [b1, b2, b3, if_true, if_false, Nat.reduceEqDiff]
    · simp only [b1, b2, b3, if_true, if_false, Nat.reduceEqDiff]
    · simp only [b1, b2, b3, if_true, if_false, Nat.reduceEqDiff]
    · simp only [b1, b2, b3, if_true, if_false, Nat.reduceEqDiff]
    · simp only [hc, if_false]
theorem az_zero (G : XT) : az 0 G = G := by
  funext c j
  unfold az
  simp only [Nat.not_lt_zero, if_false, ite_self]
theorem az_c {k : Nat} {G : XT} {c : Nat} (h : ¬ c = 98 ∧ ¬ c = 99 ∧ ¬ c = 100 ∧ ¬ c = 101 ∧ ¬ c = 102) : az k G c = G c := by
  funext j
  unfold az
  simp only [h, if_false]
def ini1 (y : Nat) (v : Int) (F : XT) : XT := qup (va_up F 97 (fun j => if j < 6 then F y j else F 97 j)) 69 41 v
def pIni (y : Nat) (v : Int) (F : XT) : XT := qup (qup (qup (qup (qup (qup (az 12 (hz 4 (ini1 y v F))) 69 62 8) 69 63 1082130432) 69 64 0) 69 65 0) 69 66 0) 69 67 0
theorem pIni_St0 (y : Nat) (v : Int) (F : XT) : St0 (pIni y v F) := by
  refine ⟨?_, ?_, ?_⟩
  · intro a ha
    unfold pIni
    simp only [qup_ap, if_false, Nat.reduceEqDiff]
    unfold az
    simp only [ha, if_true, if_false, Nat.reduceEqDiff, and_self]
  · unfold pIni
    simp only [qup_ap, if_true, if_false, Nat.reduceEqDiff, and_self]
  · intro h hh
    unfold pIni
    simp only [qup_ap, if_false, Nat.reduceEqDiff]
    unfold az hz
    simp only [hh, if_true, if_false, Nat.reduceEqDiff, and_self]
theorem pIni_c {y : Nat} {v : Int} {F : XT} {c : Nat} (h : c < 97 ∨ 117 < c ∨ c = 103 ∨ c = 105 ∨ c = 106) (h69 : c ≠ 69) : pIni y v F c = F c := by
  unfold pIni ini1
  rw [qup_c h69, qup_c h69, qup_c h69, qup_c h69, qup_c h69, qup_c h69, az_c (by omega), hz_c (by omega), qup_c h69]
  funext j
  rw [vup_ap, if_neg (by omega)]
theorem pIni_69 {y : Nat} {v : Int} {F : XT} {j : Nat} (h1 : j ≠ 41) (h2 : j < 62 ∨ 67 < j) : pIni y v F 69 j = F 69 j := by
  unfold pIni ini1
  rw [qup_ap, if_pos rfl, if_neg (by omega), qup_ap, if_pos rfl, if_neg (by omega), qup_ap, if_pos rfl, if_neg (by omega), qup_ap, if_pos rfl, if_neg (by omega), qup_ap, if_pos rfl, if_neg (by omega), qup_ap, if_pos rfl, if_neg (by omega), az_c (by decide), hz_c (by decide), qup_ap, if_pos rfl, if_neg (by omega), vup_ap, if_neg (by decide)]
theorem pIni_41 {y : Nat} {v : Int} {F : XT} : pIni y v F 69 41 = v := by
  unfold pIni ini1
  rw [qup_ap, if_pos rfl, if_neg (by decide), qup_ap, if_pos rfl, if_neg (by decide), qup_ap, if_pos rfl, if_neg (by decide), qup_ap, if_pos rfl, if_neg (by decide), qup_ap, if_pos rfl, if_neg (by decide), qup_ap, if_pos rfl, if_neg (by decide), az_c (by decide), hz_c (by decide), qup_ap, if_pos rfl, if_pos rfl]
theorem pIni_97 {y : Nat} {v : Int} {F : XT} {k : Nat} (hk : k < 6) : pIni y v F 97 k = F y k := by
  unfold pIni ini1
  rw [qup_c (by decide), qup_c (by decide), qup_c (by decide), qup_c (by decide), qup_c (by decide), qup_c (by decide), az_c (by decide), hz_c (by decide), qup_c (by decide), vup_ap, if_pos rfl, if_pos hk]
theorem pIni_w {y : Nat} {v : Int} {F : XT} {h : Nat} (hh : h < 4) : pIni y v F 104 h = 0 ∧ pIni y v F 107 h = 0 := by
  unfold pIni
  simp only [qup_ap, if_false, Nat.reduceEqDiff]
  unfold az hz
  simp only [hh, if_true, if_false, Nat.reduceEqDiff, and_self]
/-- the run's first state needs of the memory the reference's own cells alone -/
theorem pIni_eq {y : Nat} {v : Int} {F G : XT} (hy : 69 ≤ y) (h : ∀ c : Nat, 69 ≤ c → G c = F c) : ∀ c : Nat, 69 ≤ c → pIni y v G c = pIni y v F c := by
  intro c hc
  have e : ∀ c2, 69 ≤ c2 → ini1 y v G c2 = ini1 y v F c2 := by
    intro c2 h2
    funext j
    unfold ini1
    rw [qup_ap, qup_ap, vup_ap, vup_ap, h y hy, h 97 (by decide), h c2 h2]
  have e2 : ∀ c2, 69 ≤ c2 → hz 4 (ini1 y v G) c2 = hz 4 (ini1 y v F) c2 := by
    intro c2 h2
    funext j
    unfold hz
    rw [e c2 h2]
  have e3 : ∀ c2, 69 ≤ c2 → az 12 (hz 4 (ini1 y v G)) c2 = az 12 (hz 4 (ini1 y v F)) c2 := by
    intro c2 h2
    funext j
    unfold az
    rw [e2 c2 h2]
  funext j
  unfold pIni
  simp only [qup_ap, e3 c hc]
theorem pIni_Rf {y : Nat} {v : Int} {F : XT} (hf : Rf F) : Rf (pIni y v F) := by
  intro q hq
  rw [← hf q hq]
  have h1 : ∀ q ∈ RFL, (q.1 < 97 ∨ 117 < q.1) ∧ (q.1 = 69 → q.2.1 ≠ 41 ∧ (q.2.1 < 62 ∨ 67 < q.2.1)) := by decide +kernel
  obtain ⟨h2, h3⟩ := h1 q hq
  by_cases c : q.1 = 69
  · rw [c]; exact pIni_69 (h3 c).1 (h3 c).2
  · rw [pIni_c (by omega) c]
theorem i69 {y : Nat} {v : Int} {F : XT} {j : Nat} : ini1 y v F 69 j = if j = 41 then v else F 69 j := by
  unfold ini1
  simp only [qup_ap, vup_ap, if_true, if_false, Nat.reduceEqDiff]
theorem h69 {k : Nat} {G : XT} : hz k G 69 = G 69 := hz_c (by decide)
theorem cp_step (F : XT) (y k : Nat) : qup (va_up F 97 (fun j => if j < k then F y j else F 97 j)) 97 k (F y k) = va_up F 97 (fun j => if j < k + 1 then F y j else F 97 j) := by
  funext c j
  rw [qup_ap, vup_ap, vup_ap]
  by_cases hc : c = 97
  · rw [if_pos hc, if_pos hc, if_pos hc]
    by_cases hj : j = k
    · rw [if_pos hj, if_pos (by omega), hj]
    · rw [if_neg hj]
      by_cases h2 : j < k
      · rw [if_pos h2, if_pos (by omega)]
      · rw [if_neg h2, if_neg (by omega)]
  · rw [if_neg hc, if_neg hc, if_neg hc]
theorem cp_zero (F : XT) (y : Nat) : va_up F 97 (fun j => if j < 0 then F y j else F 97 j) = F := by
  funext c j
  rw [vup_ap]
  by_cases hc : c = 97
  · rw [if_pos hc, if_neg (by omega), hc]
  · rw [if_neg hc]
/-- what bitsOf answers of four -/
def BO4 : Prop := ∀ (tb : qTb) (F : XT) (R : Option qV → qM → Prop), R (some (0, 1082130432)) (LAY, F) → qW tb 113 (119, 1262) 0 [(1, 4), (9, 0), (0, 0), (9, 0), (9, 0), (9, 0), (9, 0), (9, 0), (9, 0), (9, 0), (9, 0)] [] (LAY, F) R
theorem SendC_of {n ns na k : Nat} {t : Int} {S : XT × LT} (hI : Inv n ns na k t S) : SendC n na S := by
  obtain ⟨hC, hRI, -⟩ := hI
  have hna := hC.2.2.1.2
  refine ⟨hC.1.1, hC.1.2, hC.2.2.1.1, hna, ?_, ?_⟩
  · intro h hh c hc
    have := ((hRI h hh).1 c hc).1
    omega
  · intro h hh
    have := nodup_len (hRI h hh).2.2.1 (fun c hc => ((hRI h hh).1 c hc).1)
    omega
theorem Srt_of {n ns na : Nat} {t : Int} {S : XT × LT} (hI : Inv n ns na 0 t S) {h : Nat} (hh : h < n) : Srt t (S.2 2 h) := by
  obtain ⟨h1, h2⟩ := hI.2.2.2.1 h hh
  intro j hj
  exact ⟨h1 0 j (by omega) hj, (h2 j hj).1⟩
theorem r146' {tb : qTb} {C X F : XT} {L : LT} {R : Option qV → qM → Prop} (hR : RR C X L F) (n na : Nat) (t : Int) (P : XT × LT → Prop) (hPS : P (X, L)) (hP : ∀ a S, a < na → P S → P (pHed n t a S)) (hna : X 69 3 = (na : Int)) (h97 : 0 ≤ X 97 2) (hc : X 97 2 ≠ 0 → ∀ S, P S → SendC n na S ∧ S.1 97 2 = X 97 2 ∧ ∀ a : Nat, a < na → S.1 98 a = 1 → ISOK (w32 (t - S.1 96 a)) (S.1 97 2) (S.1 69 63)) (hk : ∀ F2, RR C (pHeds n na t (X, L)).1 (pHeds n na t (X, L)).2 F2 → P (pHeds n na t (X, L)) → R none (LAY, F2)) : qW tb 146 (119, 1262) 0 [(3, 69), (0, t), (9, 0), (9, 0)] [] (LAY, F) R := by
  by_cases c : X 97 2 = 0
  · have e : pHeds n na t (X, L) = (X, L) := by unfold pHeds; exact if_neg (by dsimp only; omega)
    rw [e] at hk
    have hq := hk F hR hPS
    have hr := Rf_k hR.rf
    have hx := hR.k
    simp only [YK, c146, t146, tgK, lyK, rkK, wK, rfK, hr, qRes_eq, qNon_eq, qup_ap, vup_ap, vcpy_ap, kc8_0, kc8_1, kc8_2, lc_lt, lc_gt, lc_eq, Option.toList_some, Option.toList_none, List.cons_append, List.nil_append, lay_len, lay_sz, Nat.reduceAdd, Nat.reduceSub, Nat.reduceMul, Int.reduceToNat, Int.reduceLE, Int.reduceLT, Int.reduceEq, Int.reduceAdd, Int.reduceSub, Int.reduceMul, Int.reduceNeg, Nat.reduceLeDiff, Nat.reduceLT, true_and, and_true, false_and, and_false, qcat_0, qcat_1, qcat_3, qcat_9, Nat.reduceEqDiff, if_true, if_false, ite_self, or_true, true_or, or_false, false_or, forall_const, not_true_eq_false, not_false_eq_true, false_implies, implies_true, qtK0, qtK1, qtK2, qtK3, qtK4, List.getD_cons_zero, List.getD_cons_succ, hx, Int.toNat_natCast, ne_eq, qcK]
    rw [h146_2]
    by_cases c2 : 0 < (na : Int)
    · simp only [YK, c146, t146, tgK, lyK, rkK, wK, rfK, hr, qRes_eq, qNon_eq, qup_ap, vup_ap, vcpy_ap, kc8_0, kc8_1, kc8_2, lc_lt, lc_gt, lc_eq, Option.toList_some, Option.toList_none, List.cons_append, List.nil_append, lay_len, lay_sz, Nat.reduceAdd, Nat.reduceSub, Nat.reduceMul, Int.reduceToNat, Int.reduceLE, Int.reduceLT, Int.reduceEq, Int.reduceAdd, Int.reduceSub, Int.reduceMul, Int.reduceNeg, Nat.reduceLeDiff, Nat.reduceLT, true_and, and_true, false_and, and_false, qcat_0, qcat_1, qcat_3, qcat_9, Nat.reduceEqDiff, if_true, if_false, ite_self, or_true, true_or, or_false, false_or, forall_const, not_true_eq_false, not_false_eq_true, false_implies, implies_true, qtK0, qtK1, qtK2, qtK3, qtK4, List.getD_cons_zero, List.getD_cons_succ, hx, Int.toNat_natCast, ne_eq, qcK, hna, c, c2]
      exact hq
    · simp only [YK, c146, t146, tgK, lyK, rkK, wK, rfK, hr, qRes_eq, qNon_eq, qup_ap, vup_ap, vcpy_ap, kc8_0, kc8_1, kc8_2, lc_lt, lc_gt, lc_eq, Option.toList_some, Option.toList_none, List.cons_append, List.nil_append, lay_len, lay_sz, Nat.reduceAdd, Nat.reduceSub, Nat.reduceMul, Int.reduceToNat, Int.reduceLE, Int.reduceLT, Int.reduceEq, Int.reduceAdd, Int.reduceSub, Int.reduceMul, Int.reduceNeg, Nat.reduceLeDiff, Nat.reduceLT, true_and, and_true, false_and, and_false, qcat_0, qcat_1, qcat_3, qcat_9, Nat.reduceEqDiff, if_true, if_false, ite_self, or_true, true_or, or_false, false_or, forall_const, not_true_eq_false, not_false_eq_true, false_implies, implies_true, qtK0, qtK1, qtK2, qtK3, qtK4, List.getD_cons_zero, List.getD_cons_succ, hx, Int.toNat_natCast, ne_eq, qcK, hna, c, c2]
      exact hq
  · exact r146 hR n na t P hPS hP (hc c) hk
theorem r148 {tb : qTb} {n ns na : Nat} {F X : XT} {R : Option qV → qM → Prop} (hF : FLT) (hB4 : BO4) (hf : Rf F) (y : Nat) (hy : y = 89 ∨ y = 90) (v : Int) (hX : ∀ c : Nat, nl c → X c = pIni y v F c) (hI : Inv n ns na 0 0 (X, L0)) (last : Nat) (hl : last ≤ 79) (hk : ∀ F2, RR F (pRunT n ns na (last + 1) (X, L0)).1 (pRunT n ns na (last + 1) (X, L0)).2 F2 → R none (LAY, F2)) : qW tb 148 (119, 1262) 0 [(3, 69), (3, (y : Int)), (0, v), (0, (last : Int)), (9, 0)] [] (LAY, F) R := by
  have hr := Rf_k hf
  have yl : qln 1 LAY (y : Int) = 6 := by rcases hy with rfl | rfl <;> decide +kernel
  have y97 : (y = 97) = False := eq_false (by omega)
  have y0 : (0 ≤ (y : Int)) = True := eq_true (by omega)
  have hticks : ∀ (m t : Nat) (G : XT), t + m = last + 1 → RR F (pRunT n ns na t (X, L0)).1 (pRunT n ns na t (X, L0)).2 G → qW tb 148 (119, 1262) 223 [(3, 69), (3, (y : Int)), (0, v), (0, (last : Int)), (0, (t : Int))] [] (LAY, G) R := by
    clear hr
    intro m
    induction m with
    | zero =>
      intro t G hm hR
      have et : t = last + 1 := by omega
      have b1 : ((last : Int) < (t : Int)) = True := eq_true (by omega)
      rw [et] at hR
      have hq := hk G hR
      rw [h148_223]
      simp only [YK, c148, t148, tgK, lyK, rkK, wK, rfK, qRes_eq, qNon_eq, qup_ap, vup_ap, vcpy_ap, kc8_0, kc8_1, kc8_2, lc_lt, lc_gt, lc_eq, Option.toList_some, Option.toList_none, List.cons_append, List.nil_append, lay_len, lay_sz, Nat.reduceAdd, Nat.reduceSub, Nat.reduceMul, Int.reduceToNat, Int.reduceLE, Int.reduceLT, Int.reduceEq, Int.reduceAdd, Int.reduceSub, Int.reduceMul, Int.reduceNeg, Nat.reduceLeDiff, Nat.reduceLT, true_and, and_true, false_and, and_false, qcat_0, qcat_1, qcat_3, qcat_9, Nat.reduceEqDiff, if_true, if_false, ite_self, or_true, true_or, or_false, false_or, forall_const, not_true_eq_false, not_false_eq_true, false_implies, implies_true, qtK0, qtK1, qtK2, qtK3, qtK4, List.getD_cons_zero, List.getD_cons_succ, Int.toNat_natCast, ne_eq, qcK, b1]
      exact hq
    | succ m ih =>
      intro t G hm hR
      have b1 : ((last : Int) < (t : Int)) = False := eq_false (by omega)
      have w1 : w32 ((t : Int) + 1) = ((t + 1 : Nat) : Int) := by rw [w32_id ⟨by omega, by omega⟩]; omega
      have ht : 0 ≤ (t : Int) ∧ (t : Int) ≤ 79 := by omega
      have hIt := Inv_run hF hI t (by omega)
      have hC := hIt.1
      rw [h148_223]
      simp only [YK, c148, t148, cl142, tgK, lyK, rkK, wK, rfK, qRes_eq, qNon_eq, qup_ap, vup_ap, vcpy_ap, kc8_0, kc8_1, kc8_2, lc_lt, lc_gt, lc_eq, Option.toList_some, Option.toList_none, List.cons_append, List.nil_append, lay_len, lay_sz, Nat.reduceAdd, Nat.reduceSub, Nat.reduceMul, Int.reduceToNat, Int.reduceLE, Int.reduceLT, Int.reduceEq, Int.reduceAdd, Int.reduceSub, Int.reduceMul, Int.reduceNeg, Nat.reduceLeDiff, Nat.reduceLT, true_and, and_true, false_and, and_false, qcat_0, qcat_1, qcat_3, qcat_9, Nat.reduceEqDiff, if_true, if_false, ite_self, or_true, true_or, or_false, false_or, forall_const, not_true_eq_false, not_false_eq_true, false_implies, implies_true, qtK0, qtK1, qtK2, qtK3, qtK4, List.getD_cons_zero, List.getD_cons_succ, Int.toNat_natCast, ne_eq, qcK, b1]
      refine r142 hR n ns (t : Int) (fun S => Inv n ns na 0 (t : Int) S) hIt (fun h S hh hS => ⟨hS.1.1.1, hS.1.1.2, Srt_of hS hh, fun c => Inv_end hF ht hS hh c⟩) hC.1.1 hC.1.2 ?_ (fun S hS => hS.1.1.1)
      intro F1 hR1 _
      have h1 := Inv_ends hF ht hIt
      simp only [YK, c148, t148, cl143, tgK, lyK, rkK, wK, rfK, qRes_eq, qNon_eq, qup_ap, vup_ap, vcpy_ap, kc8_0, kc8_1, kc8_2, lc_lt, lc_gt, lc_eq, Option.toList_some, Option.toList_none, List.cons_append, List.nil_append, lay_len, lay_sz, Nat.reduceAdd, Nat.reduceSub, Nat.reduceMul, Int.reduceToNat, Int.reduceLE, Int.reduceLT, Int.reduceEq, Int.reduceAdd, Int.reduceSub, Int.reduceMul, Int.reduceNeg, Nat.reduceLeDiff, Nat.reduceLT, true_and, and_true, false_and, and_false, qcat_0, qcat_1, qcat_3, qcat_9, Nat.reduceEqDiff, if_true, if_false, ite_self, or_true, true_or, or_false, false_or, forall_const, not_true_eq_false, not_false_eq_true, false_implies, implies_true, qtK0, qtK1, qtK2, qtK3, qtK4, List.getD_cons_zero, List.getD_cons_succ, Int.toNat_natCast, ne_eq, qcK]
      refine r143 hR1 n na (t : Int) (fun S => Inv n ns na 1 (t : Int) S) h1 (fun a S ha hS => Inv_lim hS ha) (fun S hS => ⟨hS.1.1.1, hS.1.1.2, hS.1.2.2.1.1, hS.1.2.2.1.2⟩) ?_
      intro F2 hR2 h2
      simp only [YK, c148, t148, cl144, tgK, lyK, rkK, wK, rfK, qRes_eq, qNon_eq, qup_ap, vup_ap, vcpy_ap, kc8_0, kc8_1, kc8_2, lc_lt, lc_gt, lc_eq, Option.toList_some, Option.toList_none, List.cons_append, List.nil_append, lay_len, lay_sz, Nat.reduceAdd, Nat.reduceSub, Nat.reduceMul, Int.reduceToNat, Int.reduceLE, Int.reduceLT, Int.reduceEq, Int.reduceAdd, Int.reduceSub, Int.reduceMul, Int.reduceNeg, Nat.reduceLeDiff, Nat.reduceLT, true_and, and_true, false_and, and_false, qcat_0, qcat_1, qcat_3, qcat_9, Nat.reduceEqDiff, if_true, if_false, ite_self, or_true, true_or, or_false, false_or, forall_const, not_true_eq_false, not_false_eq_true, false_implies, implies_true, qtK0, qtK1, qtK2, qtK3, qtK4, List.getD_cons_zero, List.getD_cons_succ, Int.toNat_natCast, ne_eq, qcK]
      refine r144 hR2 n na (t : Int) (fun S => Inv n ns na 1 (t : Int) S) h2 (fun a S ha hS => Inv_com hS ha) (fun S hS => SendC_of hS) ?_
      intro F3 hR3 _
      have h3 := Inv_coms h2
      simp only [YK, c148, t148, cl145, tgK, lyK, rkK, wK, rfK, qRes_eq, qNon_eq, qup_ap, vup_ap, vcpy_ap, kc8_0, kc8_1, kc8_2, lc_lt, lc_gt, lc_eq, Option.toList_some, Option.toList_none, List.cons_append, List.nil_append, lay_len, lay_sz, Nat.reduceAdd, Nat.reduceSub, Nat.reduceMul, Int.reduceToNat, Int.reduceLE, Int.reduceLT, Int.reduceEq, Int.reduceAdd, Int.reduceSub, Int.reduceMul, Int.reduceNeg, Nat.reduceLeDiff, Nat.reduceLT, true_and, and_true, false_and, and_false, qcat_0, qcat_1, qcat_3, qcat_9, Nat.reduceEqDiff, if_true, if_false, ite_self, or_true, true_or, or_false, false_or, forall_const, not_true_eq_false, not_false_eq_true, false_implies, implies_true, qtK0, qtK1, qtK2, qtK3, qtK4, List.getD_cons_zero, List.getD_cons_succ, Int.toNat_natCast, ne_eq, qcK]
      refine r145 hR3 n na (t : Int) (fun S => Inv n ns na 2 (t : Int) S) h3 (fun a S ha hS => Inv_agn hS ha) (fun S hS => SendC_of hS) ?_
      intro F4 hR4 h4
      simp only [YK, c148, t148, cl146, tgK, lyK, rkK, wK, rfK, qRes_eq, qNon_eq, qup_ap, vup_ap, vcpy_ap, kc8_0, kc8_1, kc8_2, lc_lt, lc_gt, lc_eq, Option.toList_some, Option.toList_none, List.cons_append, List.nil_append, lay_len, lay_sz, Nat.reduceAdd, Nat.reduceSub, Nat.reduceMul, Int.reduceToNat, Int.reduceLE, Int.reduceLT, Int.reduceEq, Int.reduceAdd, Int.reduceSub, Int.reduceMul, Int.reduceNeg, Nat.reduceLeDiff, Nat.reduceLT, true_and, and_true, false_and, and_false, qcat_0, qcat_1, qcat_3, qcat_9, Nat.reduceEqDiff, if_true, if_false, ite_self, or_true, true_or, or_false, false_or, forall_const, not_true_eq_false, not_false_eq_true, false_implies, implies_true, qtK0, qtK1, qtK2, qtK3, qtK4, List.getD_cons_zero, List.getD_cons_succ, Int.toNat_natCast, ne_eq, qcK]
      have hp := h4.1.2.2.2.2.2.2.2.1
      refine r146' hR4 n na (t : Int) (fun S => Inv n ns na 2 (t : Int) S ∧ S.1 97 = (pAgns n na (t : Int) (pComs n na (t : Int) (pLims n na (t : Int) (pEnds n ns (t : Int) (pRunT n ns na t (X, L0)))))).1 97) ⟨h4, rfl⟩ (fun a S ha hS => ⟨Inv_hed hS.1 ha, by
        rw [← hS.2]
        unfold pHed
        split
        · rw [pSend_c (by decide) (by decide)]
          dsimp only
          rw [qup_c (by decide), qup_c (by decide), qup_c (by decide)]
        · rfl⟩) h4.1.2.2.1.1 (by omega) (fun h0 S hS => ⟨SendC_of hS.1, by rw [hS.2], fun a ha h98 => by
          have hta := (hS.1.2.2.1 a ha).2.2 (by omega)
          have hha := hS.1.1.2.2.2.2.1 a ha
          have h97 : S.1 97 2 ≠ 0 := by rw [hS.2]; exact h0
          have hp2 := hS.1.1.2.2.2.2.2.2.2.1
          exact hF.2.2 _ _ _ hS.1.2.2.2.2.1 (by rw [w32_id ⟨by omega, by omega⟩]; omega) (by rw [w32_id ⟨by omega, by omega⟩]; omega) (by omega)⟩) ?_
      intro F5 hR5 h5
      simp only [YK, c148, t148, cl147, tgK, lyK, rkK, wK, rfK, qRes_eq, qNon_eq, qup_ap, vup_ap, vcpy_ap, kc8_0, kc8_1, kc8_2, lc_lt, lc_gt, lc_eq, Option.toList_some, Option.toList_none, List.cons_append, List.nil_append, lay_len, lay_sz, Nat.reduceAdd, Nat.reduceSub, Nat.reduceMul, Int.reduceToNat, Int.reduceLE, Int.reduceLT, Int.reduceEq, Int.reduceAdd, Int.reduceSub, Int.reduceMul, Int.reduceNeg, Nat.reduceLeDiff, Nat.reduceLT, true_and, and_true, false_and, and_false, qcat_0, qcat_1, qcat_3, qcat_9, Nat.reduceEqDiff, if_true, if_false, ite_self, or_true, true_or, or_false, false_or, forall_const, not_true_eq_false, not_false_eq_true, false_implies, implies_true, qtK0, qtK1, qtK2, qtK3, qtK4, List.getD_cons_zero, List.getD_cons_succ, Int.toNat_natCast, ne_eq, qcK]
      refine r147 hR5 n (t : Int) (fun S => Inv n ns na 2 (t : Int) S) h5.1 (fun h S hh hS => Inv_begH ht hh 3 S hS) (fun S hS => ⟨hS.1.1.1, hS.1.1.2, fun h hh => (hS.1.2.2.2.1 h hh).1.2⟩) ?_
      intro F6 hR6 _
      have hq := ih (t + 1) F6 (by omega) hR6
      simp only [YK, c148, t148, tgK, lyK, rkK, wK, rfK, qRes_eq, qNon_eq, qup_ap, vup_ap, vcpy_ap, kc8_0, kc8_1, kc8_2, lc_lt, lc_gt, lc_eq, Option.toList_some, Option.toList_none, List.cons_append, List.nil_append, lay_len, lay_sz, Nat.reduceAdd, Nat.reduceSub, Nat.reduceMul, Int.reduceToNat, Int.reduceLE, Int.reduceLT, Int.reduceEq, Int.reduceAdd, Int.reduceSub, Int.reduceMul, Int.reduceNeg, Nat.reduceLeDiff, Nat.reduceLT, true_and, and_true, false_and, and_false, qcat_0, qcat_1, qcat_3, qcat_9, Nat.reduceEqDiff, if_true, if_false, ite_self, or_true, true_or, or_false, false_or, forall_const, not_true_eq_false, not_false_eq_true, false_implies, implies_true, qtK0, qtK1, qtK2, qtK3, qtK4, List.getD_cons_zero, List.getD_cons_succ, Int.toNat_natCast, ne_eq, qcK, w1]
      exact hq
  have hasks : ∀ (m a : Nat) (w : qV), a + m = 12 → qW tb 148 (119, 1262) 128 [(3, 69), (3, (y : Int)), (0, v), (0, (last : Int)), (0, (a : Int))] [] (LAY, az a (hz 4 (ini1 y v F))) R := by
    intro m
    induction m with
    | zero =>
      intro a w hm
      have ea : a = 12 := by omega
      subst ea
      have e12 : ((12 : Nat) : Int) = 12 := rfl
      have a69 : az 12 (hz 4 (ini1 y v F)) 69 = hz 4 (ini1 y v F) 69 := az_c (by decide)
      rw [h148_128]
      simp only [YK, c148, t148, cl113, tgK, lyK, rkK, wK, rfK, hr, qRes_eq, qNon_eq, qup_ap, vup_ap, vcpy_ap, kc8_0, kc8_1, kc8_2, lc_lt, lc_gt, lc_eq, Option.toList_some, Option.toList_none, List.cons_append, List.nil_append, lay_len, lay_sz, Nat.reduceAdd, Nat.reduceSub, Nat.reduceMul, Int.reduceToNat, Int.reduceLE, Int.reduceLT, Int.reduceEq, Int.reduceAdd, Int.reduceSub, Int.reduceMul, Int.reduceNeg, Nat.reduceLeDiff, Nat.reduceLT, true_and, and_true, false_and, and_false, qcat_0, qcat_1, qcat_3, qcat_9, Nat.reduceEqDiff, if_true, if_false, ite_self, or_true, true_or, or_false, false_or, forall_const, not_true_eq_false, not_false_eq_true, false_implies, implies_true, qtK0, qtK1, qtK2, qtK3, qtK4, List.getD_cons_zero, List.getD_cons_succ, Int.toNat_natCast, ne_eq, qcK, i69, h69, e12, a69]
      refine hB4 _ _ _ ?_
      have hRf : Rf (pIni y v F) := pIni_Rf hf
      have hR0 : RR F X L0 (pIni y v F) := by
        refine ⟨hRf, fun c hc => pIni_c (by omega) (by omega), fun c hc => (hX c hc).symm, fun h hh => ?_⟩
        obtain ⟨w1, w2⟩ := pIni_w (y := y) (v := v) (F := F) hh
        unfold RRh
        refine ⟨fun k hk => absurd hk (by unfold L0; simp), by rw [w1]; rfl, fun k hk => absurd hk (by unfold L0; simp), fun k hk => absurd hk (by unfold L0; simp), by rw [w2]; rfl, by unfold L0; simp, by unfold L0; simp, rfl⟩
      have hq := hticks (last + 1) 0 (pIni y v F) (by omega) hR0
      unfold pIni at hq
      simp only [YK, c148, t148, tgK, lyK, rkK, wK, rfK, hr, qRes_eq, qNon_eq, qup_ap, vup_ap, vcpy_ap, kc8_0, kc8_1, kc8_2, lc_lt, lc_gt, lc_eq, Option.toList_some, Option.toList_none, List.cons_append, List.nil_append, lay_len, lay_sz, Nat.reduceAdd, Nat.reduceSub, Nat.reduceMul, Int.reduceToNat, Int.reduceLE, Int.reduceLT, Int.reduceEq, Int.reduceAdd, Int.reduceSub, Int.reduceMul, Int.reduceNeg, Nat.reduceLeDiff, Nat.reduceLT, true_and, and_true, false_and, and_false, qcat_0, qcat_1, qcat_3, qcat_9, Nat.reduceEqDiff, if_true, if_false, ite_self, or_true, true_or, or_false, false_or, forall_const, not_true_eq_false, not_false_eq_true, false_implies, implies_true, qtK0, qtK1, qtK2, qtK3, qtK4, List.getD_cons_zero, List.getD_cons_succ, Int.toNat_natCast, ne_eq, qcK, i69, h69, a69]
      exact hq
    | succ m ih =>
      intro a w hm
      have b1 : ((a : Int) < 12) = True := eq_true (by omega)
      have b2 : (0 ≤ (a : Int)) = True := eq_true (by omega)
      have w1 : w32 ((a : Int) + 1) = ((a + 1 : Nat) : Int) := by rw [w32_id ⟨by omega, by omega⟩]; omega
      have a69 : az a (hz 4 (ini1 y v F)) 69 = hz 4 (ini1 y v F) 69 := az_c (by decide)
      have hi := ih (a + 1) w (by omega)
      rw [← az_step] at hi
      rw [h148_128]
      simp only [YK, c148, t148, tgK, lyK, rkK, wK, rfK, hr, qRes_eq, qNon_eq, qup_ap, vup_ap, vcpy_ap, kc8_0, kc8_1, kc8_2, lc_lt, lc_gt, lc_eq, Option.toList_some, Option.toList_none, List.cons_append, List.nil_append, lay_len, lay_sz, Nat.reduceAdd, Nat.reduceSub, Nat.reduceMul, Int.reduceToNat, Int.reduceLE, Int.reduceLT, Int.reduceEq, Int.reduceAdd, Int.reduceSub, Int.reduceMul, Int.reduceNeg, Nat.reduceLeDiff, Nat.reduceLT, true_and, and_true, false_and, and_false, qcat_0, qcat_1, qcat_3, qcat_9, Nat.reduceEqDiff, if_true, if_false, ite_self, or_true, true_or, or_false, false_or, forall_const, not_true_eq_false, not_false_eq_true, false_implies, implies_true, qtK0, qtK1, qtK2, qtK3, qtK4, List.getD_cons_zero, List.getD_cons_succ, Int.toNat_natCast, ne_eq, qcK, i69, h69, a69, b1, b2, w1]
      exact hi
  have hhosts : ∀ (m h : Nat), h + m = 4 → qW tb 148 (119, 1262) 35 [(3, 69), (3, (y : Int)), (0, v), (0, (last : Int)), (0, (h : Int))] [] (LAY, hz h (ini1 y v F)) R := by
    intro m
    induction m with
    | zero =>
      intro h hm
      have eh : h = 4 := by omega
      subst eh
      have e4 : ((4 : Nat) : Int) = 4 := rfl
      have hq := hasks 12 0 (9, 0) (by omega)
      rw [az_zero] at hq
      rw [h148_35]
      simp only [YK, c148, t148, tgK, lyK, rkK, wK, rfK, hr, qRes_eq, qNon_eq, qup_ap, vup_ap, vcpy_ap, kc8_0, kc8_1, kc8_2, lc_lt, lc_gt, lc_eq, Option.toList_some, Option.toList_none, List.cons_append, List.nil_append, lay_len, lay_sz, Nat.reduceAdd, Nat.reduceSub, Nat.reduceMul, Int.reduceToNat, Int.reduceLE, Int.reduceLT, Int.reduceEq, Int.reduceAdd, Int.reduceSub, Int.reduceMul, Int.reduceNeg, Nat.reduceLeDiff, Nat.reduceLT, true_and, and_true, false_and, and_false, qcat_0, qcat_1, qcat_3, qcat_9, Nat.reduceEqDiff, if_true, if_false, ite_self, or_true, true_or, or_false, false_or, forall_const, not_true_eq_false, not_false_eq_true, false_implies, implies_true, qtK0, qtK1, qtK2, qtK3, qtK4, List.getD_cons_zero, List.getD_cons_succ, Int.toNat_natCast, ne_eq, qcK, i69, h69, e4]
      exact hq
    | succ m ih =>
      intro h hm
      have b1 : ((h : Int) < 4) = True := eq_true (by omega)
      have b2 : (0 ≤ (h : Int)) = True := eq_true (by omega)
      have w1 : w32 ((h : Int) + 1) = ((h + 1 : Nat) : Int) := by rw [w32_id ⟨by omega, by omega⟩]; omega
      have a69 : hz h (ini1 y v F) 69 = ini1 y v F 69 := hz_c (by decide)
      have hi := ih (h + 1) (by omega)
      rw [← hz_step] at hi
      rw [h148_35]
      simp only [YK, c148, t148, c138, t138, cl138, tgK, lyK, rkK, wK, rfK, hr, qRes_eq, qNon_eq, qup_ap, vup_ap, vcpy_ap, kc8_0, kc8_1, kc8_2, lc_lt, lc_gt, lc_eq, Option.toList_some, Option.toList_none, List.cons_append, List.nil_append, lay_len, lay_sz, Nat.reduceAdd, Nat.reduceSub, Nat.reduceMul, Int.reduceToNat, Int.reduceLE, Int.reduceLT, Int.reduceEq, Int.reduceAdd, Int.reduceSub, Int.reduceMul, Int.reduceNeg, Nat.reduceLeDiff, Nat.reduceLT, true_and, and_true, false_and, and_false, qcat_0, qcat_1, qcat_3, qcat_9, Nat.reduceEqDiff, if_true, if_false, ite_self, or_true, true_or, or_false, false_or, forall_const, not_true_eq_false, not_false_eq_true, false_implies, implies_true, qtK0, qtK1, qtK2, qtK3, qtK4, List.getD_cons_zero, List.getD_cons_succ, Int.toNat_natCast, ne_eq, qcK, i69, h69, a69, b1, b2, w1]
      exact hi
  have hpol : ∀ (m k : Nat), k + m = 6 → qW tb 148 (119, 1262) 3 [(3, 69), (3, (y : Int)), (0, v), (0, (last : Int)), (0, (k : Int))] [] (LAY, va_up F 97 (fun j => if j < k then F y j else F 97 j)) R := by
    intro m
    induction m with
    | zero =>
      intro k hm
      have ek : k = 6 := by omega
      subst ek
      have e6 : ((6 : Nat) : Int) = 6 := rfl
      have hq := hhosts 4 0 (by omega)
      rw [hz_zero] at hq
      unfold ini1 at hq
      rw [h148_3]
      simp only [YK, c148, t148, tgK, lyK, rkK, wK, rfK, hr, qRes_eq, qNon_eq, qup_ap, vup_ap, vcpy_ap, kc8_0, kc8_1, kc8_2, lc_lt, lc_gt, lc_eq, Option.toList_some, Option.toList_none, List.cons_append, List.nil_append, lay_len, lay_sz, Nat.reduceAdd, Nat.reduceSub, Nat.reduceMul, Int.reduceToNat, Int.reduceLE, Int.reduceLT, Int.reduceEq, Int.reduceAdd, Int.reduceSub, Int.reduceMul, Int.reduceNeg, Nat.reduceLeDiff, Nat.reduceLT, true_and, and_true, false_and, and_false, qcat_0, qcat_1, qcat_3, qcat_9, Nat.reduceEqDiff, if_true, if_false, ite_self, or_true, true_or, or_false, false_or, forall_const, not_true_eq_false, not_false_eq_true, false_implies, implies_true, qtK0, qtK1, qtK2, qtK3, qtK4, List.getD_cons_zero, List.getD_cons_succ, Int.toNat_natCast, ne_eq, qcK, i69, h69, e6]
      exact hq
    | succ m ih =>
      intro k hm
      have b1 : ((k : Int) < 6) = True := eq_true (by omega)
      have b2 : (0 ≤ (k : Int)) = True := eq_true (by omega)
      have w1 : w32 ((k : Int) + 1) = ((k + 1 : Nat) : Int) := by rw [w32_id ⟨by omega, by omega⟩]; omega
      have hi := ih (k + 1) (by omega)
      rw [← cp_step] at hi
      rw [h148_3]
      simp only [YK, c148, t148, tgK, lyK, rkK, wK, rfK, hr, qRes_eq, qNon_eq, qup_ap, vup_ap, vcpy_ap, kc8_0, kc8_1, kc8_2, lc_lt, lc_gt, lc_eq, Option.toList_some, Option.toList_none, List.cons_append, List.nil_append, lay_len, lay_sz, Nat.reduceAdd, Nat.reduceSub, Nat.reduceMul, Int.reduceToNat, Int.reduceLE, Int.reduceLT, Int.reduceEq, Int.reduceAdd, Int.reduceSub, Int.reduceMul, Int.reduceNeg, Nat.reduceLeDiff, Nat.reduceLT, true_and, and_true, false_and, and_false, qcat_0, qcat_1, qcat_3, qcat_9, Nat.reduceEqDiff, if_true, if_false, ite_self, or_true, true_or, or_false, false_or, forall_const, not_true_eq_false, not_false_eq_true, false_implies, implies_true, qtK0, qtK1, qtK2, qtK3, qtK4, List.getD_cons_zero, List.getD_cons_succ, Int.toNat_natCast, ne_eq, qcK, i69, h69, yl, y97, y0, b1, b2, w1]
      exact hi
  have hq := hpol 6 0 (by omega)
  rw [cp_zero] at hq
  simp only [YK, c148, t148, tgK, lyK, rkK, wK, rfK, hr, qRes_eq, qNon_eq, qup_ap, vup_ap, vcpy_ap, kc8_0, kc8_1, kc8_2, lc_lt, lc_gt, lc_eq, Option.toList_some, Option.toList_none, List.cons_append, List.nil_append, lay_len, lay_sz, Nat.reduceAdd, Nat.reduceSub, Nat.reduceMul, Int.reduceToNat, Int.reduceLE, Int.reduceLT, Int.reduceEq, Int.reduceAdd, Int.reduceSub, Int.reduceMul, Int.reduceNeg, Nat.reduceLeDiff, Nat.reduceLT, true_and, and_true, false_and, and_false, qcat_0, qcat_1, qcat_3, qcat_9, Nat.reduceEqDiff, if_true, if_false, ite_self, or_true, true_or, or_false, false_or, forall_const, not_true_eq_false, not_false_eq_true, false_implies, implies_true, qtK0, qtK1, qtK2, qtK3, qtK4, List.getD_cons_zero, List.getD_cons_succ, Int.toNat_natCast, ne_eq, qcK, i69, h69]
  exact hq
