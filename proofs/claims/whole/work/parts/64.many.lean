/-! many runs, one after another -/
/-- a run writes of asks and hosts those of the day alone -/
def JK (n na : Nat) (X Y : XT) : Prop := (∀ c j : Nat, 98 ≤ c → c ≤ 102 → na ≤ j → Y c j = X c j) ∧ ∀ c j : Nat, 108 ≤ c → c ≤ 117 → n ≤ j → Y c j = X c j
theorem JK.rfl {n na : Nat} {X : XT} : JK n na X X := ⟨fun _ _ _ _ _ => Eq.refl _, fun _ _ _ _ _ => Eq.refl _⟩
theorem JK.trans {n na : Nat} {X Y Z : XT} (h1 : JK n na X Y) (h2 : JK n na Y Z) : JK n na X Z := ⟨fun c j a b d => (h2.1 c j a b d).trans (h1.1 c j a b d), fun c j a b d => (h2.2 c j a b d).trans (h1.2 c j a b d)⟩
theorem JK.ua {n na : Nat} {X : XT} {c a : Nat} (v : Int) (hc : 98 ≤ c ∧ c ≤ 102) (ha : a < na) : JK n na X (qup X c a v) := ⟨fun c2 j _ _ hj => by rw [qup_ap, if_neg (by omega : ¬ j = a), ite_self], fun c2 j h1 _ _ => by rw [qup_c (by omega)]⟩
theorem JK.uh {n na : Nat} {X : XT} {c h : Nat} (v : Int) (hc : 108 ≤ c ∧ c ≤ 117) (hh : h < n) : JK n na X (qup X c h v) := ⟨fun c2 j _ h2 _ => by rw [qup_c (by omega)], fun c2 j _ _ hj => by rw [qup_ap, if_neg (by omega : ¬ j = h), ite_self]⟩
theorem JK.u9 {n na : Nat} {X : XT} {j : Nat} (v : Int) : JK n na X (qup X 69 j v) := ⟨fun c2 j _ h2 _ => by rw [qup_c (by omega)], fun c2 j _ _ hj => by rw [qup_c (by omega)]⟩
theorem JK_send {n na : Nat} {S : XT × LT} {a t : Int} : JK n na S.1 (pSend n S a t).1 := by
  unfold pSend
  have hp := pickD_r S.1 S.2 a t n n (Nat.le_refl n)
  split
  · exact JK.u9 _ |>.trans (JK.u9 _)
  · split
    · unfold pShed
      exact (JK.u9 _).trans (JK.uh _ (by omega) (by omega))
    · exact JK.u9 _
theorem JK_note {n na : Nat} {X : XT} {h : Nat} {bad : Bool} {t : Int} (hh : h < n) : JK n na X (pNote X h bad t) := ⟨fun c j h1 h2 _ => by rw [pNote_c (by omega) (by omega) (by omega) (by omega) (by omega) (by omega)], fun c j _ _ hj => pNote_o (by omega)⟩
theorem JK_end {n ns na : Nat} {S : XT × LT} {h : Nat} {a t : Int} (hh : h < n) (ha : 0 ≤ a ∧ a < (na : Int)) : JK n na S.1 (pEndOne n ns (pPop S h) h a t).1 := by
  rw [pEndOne_1]
  refine JK.trans ?_ (JK_note hh)
  have h1 : JK n na S.1 (pE1 (pPop S h).1 ns h t) := (JK.uh _ (by omega) hh).trans (JK.uh _ (by omega) hh)
  unfold pEY
  split
  · split
    · exact h1
    · exact h1.trans (((JK.ua _ (by omega) (by omega)).trans (JK.ua _ (by omega) (by omega))).trans ((JK.ua _ (by omega) (by omega)).trans (JK.u9 _)))
  · exact h1.trans (JK.uh _ (by omega) hh)
theorem JK_itr {n na m : Nat} {f : Nat → XT × LT → XT × LT} {P : XT × LT → Prop} (hf : ∀ i S, i < m → P S → P (f i S) ∧ JK n na S.1 (f i S).1) {S : XT × LT} (hS : P S) : ∀ k : Nat, k ≤ m → P (itr f k S) ∧ JK n na S.1 (itr f k S).1 := by
  intro k
  induction k with
  | zero => intro _; exact ⟨hS, JK.rfl⟩
  | succ k ih =>
    intro hk
    obtain ⟨h1, h2⟩ := ih (by omega)
    obtain ⟨h3, h4⟩ := hf k _ (by omega) h1
    exact ⟨h3, h2.trans h4⟩
theorem JK_endsH {n ns na : Nat} {t : Int} (hF : FLT) (ht : 0 ≤ t ∧ t ≤ 79) {h : Nat} (hh : h < n) : ∀ (f : Nat) (S : XT × LT), Inv n ns na 0 t S → Inv n ns na 0 t (pEndsH n ns h t f S) ∧ JK n na S.1 (pEndsH n ns h t f S).1 := by
  intro f
  induction f with
  | zero => intro S hS; exact ⟨hS, JK.rfl⟩
  | succ f ih =>
    intro S hS
    unfold pEndsH
    by_cases c : endsB S.2 h t = true
    · rw [if_pos c]
      have hn4 := hS.1.1.2
      have hq := (Inv_end hF ht hS hh c).2.1
      obtain ⟨h1, h2⟩ := ih _ hq
      have hw : 0 < (S.2 1 h).length := by
        have := (hS.2.1 h (by omega)).2.2.2.2.2.1
        simp only [endsB, Bool.and_eq_true, decide_eq_true_eq] at c
        omega
      exact ⟨h1, (JK_end hh ((hS.2.1 h (by omega)).2.1 _ (getD_mem hw))).trans h2⟩
    · rw [if_neg c]; exact ⟨hS, JK.rfl⟩
theorem JK_tick {n ns na : Nat} {t : Int} (hF : FLT) (ht : 0 ≤ t ∧ t ≤ 79) {S : XT × LT} (hI : Inv n ns na 0 t S) : JK n na S.1 (pTick n ns na t S).1 := by
  have h1 := (JK_itr (n := n) (na := na) (m := n) (f := fun h S => pEndsH n ns h t 3 S) (P := fun S => Inv n ns na 0 t S) (fun h S hh hS => JK_endsH hF ht hh 3 S hS) hI n (Nat.le_refl n)).2
  have i1 := Inv_ends hF ht hI
  have h2 := JK_itr (n := n) (na := na) (m := na) (f := pLim n t) (P := fun S => Inv n ns na 1 t S) (fun a S ha hS => ⟨Inv_lim hS ha, by
    unfold pLim
    split
    · exact (JK.ua 4 (by omega) ha).trans (JK.ua t (by omega) ha)
    · exact JK.rfl⟩) i1 na (Nat.le_refl na)
  have h3 := (JK_itr (n := n) (na := na) (m := na) (f := pCom n t) (P := fun S => Inv n ns na 1 t S) (fun a S ha hS => ⟨Inv_com hS ha, by
    unfold pCom
    split
    · exact (((JK.ua 1 (by omega) ha).trans (JK.u9 _)).trans (JK.ua 1 (by omega) ha)).trans (JK_send (S := (_, S.2)))
    · exact JK.rfl⟩) h2.1 na (Nat.le_refl na)).2
  have i3 := Inv_coms h2.1
  have h4 := JK_itr (n := n) (na := na) (m := na) (f := pAgn n t) (P := fun S => Inv n ns na 2 t S) (fun a S ha hS => ⟨Inv_agn hS ha, by
    unfold pAgn
    split
    · split
      · exact (((JK.u9 _).trans (JK.ua _ (by omega) ha)).trans (JK.u9 _)).trans (JK_send (S := (_, S.2)))
      · exact (JK.ua 3 (by omega) ha).trans (JK.ua t (by omega) ha)
    · exact JK.rfl⟩) i3 na (Nat.le_refl na)
  have h5 := JK_itr (n := n) (na := na) (m := na) (f := pHed n t) (P := fun S => Inv n ns na 2 t S) (fun a S ha hS => ⟨Inv_hed hS ha, by
    unfold pHed
    split
    · exact (((JK.u9 _).trans (JK.ua 1 (by omega) ha)).trans (JK.u9 _)).trans (JK_send (S := (_, S.2)))
    · exact JK.rfl⟩) h4.1 na (Nat.le_refl na)
  have h5' : JK n na (pAgns n na t (pComs n na t (pLims n na t (pEnds n ns t S)))).1 (pHeds n na t (pAgns n na t (pComs n na t (pLims n na t (pEnds n ns t S))))).1 := by
    unfold pHeds
    split
    · exact h5.2
    · exact JK.rfl
  have hb : ∀ (h f : Nat) (S : XT × LT), (pBegH h t f S).1 = S.1 := by
    intro h f
    induction f with
    | zero => intro S; rfl
    | succ f ih =>
      intro S
      unfold pBegH
      split
      · exact ih (pBeg1 S h t)
      · rfl
  have h6 : ∀ S : XT × LT, JK n na S.1 (pBegs n t S).1 := fun S => (JK_itr (n := n) (na := na) (m := n) (f := fun h S => pBegH h t 3 S) (P := fun _ => True) (fun h S _ _ => ⟨trivial, by rw [hb]; exact JK.rfl⟩) trivial n (Nat.le_refl n)).2
  exact ((((h1.trans h2.2).trans h3).trans h4.2).trans h5').trans (h6 _)
theorem JK_run {n ns na : Nat} (hF : FLT) {S : XT × LT} (hI : Inv n ns na 0 0 S) : ∀ k : Nat, k ≤ 80 → JK n na S.1 (pRunT n ns na k S).1 := by
  intro k
  induction k with
  | zero => intro _; exact JK.rfl
  | succ k ih =>
    intro hk
    exact (ih (by omega)).trans (JK_tick hF (by omega) (Inv_run hF hI k (by omega)))
/-- cells of the reference that are as in F, runs aside -/
def Nrm (F G : XT) : Prop := Rf G ∧ (∀ c : Nat, 69 < c → (c < 97 ∨ 117 < c) → c ≠ 90 → c ≠ 96 → c ≠ 118 → G c = F c) ∧ (∀ j : Nat, j ≠ 41 → (j < 62 ∨ 67 < j) → G 69 j = F 69 j) ∧ (∀ j : Nat, 6 ≤ j → G 97 j = F 97 j) ∧ (∀ c j : Nat, 98 ≤ c → c ≤ 102 → 12 ≤ j → G c j = F c j) ∧ (∀ c j : Nat, 108 ≤ c → c ≤ 117 → 4 ≤ j → G c j = F c j)
theorem Nrm.refl {F : XT} (hf : Rf F) : Nrm F F := ⟨hf, fun _ _ _ _ _ _ => rfl, fun _ _ _ => rfl, fun _ _ => rfl, fun _ _ _ _ _ => rfl, fun _ _ _ _ _ => rfl⟩
theorem Nrm_up {F G : XT} (h : Nrm F G) {c j : Nat} (v : Int) (hc : c = 90 ∨ c = 96 ∨ c = 118) : Nrm F (qup G c j v) := by
  obtain ⟨h0, h1, h2, h3, h4, h5⟩ := h
  refine ⟨h0.upA j v (by rcases hc with rfl | rfl | rfl <;> decide), fun c2 a1 a2 a3 a4 a5 => by rw [qup_c (by omega)]; exact h1 c2 a1 a2 a3 a4 a5, fun j a1 a2 => by rw [qup_c (by omega)]; exact h2 j a1 a2, fun j a => by rw [qup_c (by omega)]; exact h3 j a, fun c2 j a1 a2 a3 => by rw [qup_c (by omega)]; exact h4 c2 j a1 a2 a3, fun c2 j a1 a2 a3 => by rw [qup_c (by omega)]; exact h5 c2 j a1 a2 a3⟩
theorem Nrm_eq {F G H : XT} (h : Nrm F G) (hf : Rf H) (e : ∀ c : Nat, 69 ≤ c → c ≠ 90 → c ≠ 96 → c ≠ 118 → H c = G c) : Nrm F H := by
  obtain ⟨h0, h1, h2, h3, h4, h5⟩ := h
  refine ⟨hf, fun c2 a1 a2 a3 a4 a5 => by rw [e c2 (by omega) a3 a4 a5]; exact h1 c2 a1 a2 a3 a4 a5, fun j a1 a2 => by rw [e 69 (by decide) (by decide) (by decide) (by decide)]; exact h2 j a1 a2, fun j a => by rw [e 97 (by decide) (by decide) (by decide) (by decide)]; exact h3 j a, fun c2 j a1 a2 a3 => by rw [e c2 (by omega) (by omega) (by omega) (by omega)]; exact h4 c2 j a1 a2 a3, fun c2 j a1 a2 a3 => by rw [e c2 (by omega) (by omega) (by omega) (by omega)]; exact h5 c2 j a1 a2 a3⟩
/-- two memories that are alike, runs aside, begin a run alike -/
theorem pIni_Nrm {F G : XT} {y y2 : Nat} {v : Int} (h : Nrm F G) (h90 : G 90 = F 90) (h96 : G 96 = F 96) (h118 : G 118 = F 118) (hy : ∀ j : Nat, j < 6 → G y j = F y2 j) : ∀ c : Nat, nl c → pIni y v G c = pIni y2 v F c := by
  obtain ⟨h0, h1, h2, h3, h4, h5⟩ := h
  intro c hc
  unfold nl at hc
  have hi : ∀ c2 j : Nat, 69 ≤ c2 → (c2 < 98 ∨ 117 < c2) → (c2 = 69 → j < 62 ∨ 67 < j) → ini1 y v G c2 j = ini1 y2 v F c2 j := by
    intro c2 j a1 a2 a3
    unfold ini1
    rw [qup_ap, qup_ap, vup_ap, vup_ap]
    by_cases c9 : c2 = 69
    · rw [if_pos c9, if_pos c9]
      by_cases c41 : j = 41
      · rw [if_pos c41, if_pos c41]
      · rw [if_neg c41, if_neg c41, if_neg (by omega), if_neg (by omega), c9]
        exact h2 j c41 (a3 c9)
    · rw [if_neg c9, if_neg c9]
      by_cases c97 : c2 = 97
      · rw [if_pos c97, if_pos c97]
        by_cases hj : j < 6
        · rw [if_pos hj, if_pos hj]; exact hy j hj
        · rw [if_neg hj, if_neg hj]; exact h3 j (by omega)
      · rw [if_neg c97, if_neg c97]
        by_cases c90 : c2 = 90
        · rw [c90, h90]
        · by_cases c96 : c2 = 96
          · rw [c96, h96]
          · by_cases c118 : c2 = 118
            · rw [c118, h118]
            · rw [h1 c2 (by omega) (by omega) c90 c96 c118]
  have hj : ∀ c2 j : Nat, 98 ≤ c2 → c2 ≤ 117 → ini1 y v G c2 j = G c2 j ∧ ini1 y2 v F c2 j = F c2 j := by
    intro c2 j a1 a2
    unfold ini1
    rw [qup_ap, qup_ap, vup_ap, vup_ap, if_neg (by omega), if_neg (by omega), if_neg (by omega), if_neg (by omega)]
    exact ⟨rfl, rfl⟩
  funext j
  by_cases ca : 98 ≤ c ∧ c ≤ 102
  · have e : ∀ (z : Nat) (H : XT), pIni z v H c j = az 12 (hz 4 (ini1 z v H)) c j := fun z H => by
      unfold pIni
      rw [qup_c (by omega), qup_c (by omega), qup_c (by omega), qup_c (by omega), qup_c (by omega), qup_c (by omega)]
    rw [e, e]
    by_cases hj12 : j < 12
    · have hcs : c = 98 ∨ c = 99 ∨ c = 100 ∨ c = 101 ∨ c = 102 := by omega
      unfold az
      rcases hcs with rfl | rfl | rfl | rfl | rfl <;> simp only [hj12, if_true, if_false, Nat.reduceEqDiff]
    · have ez : ∀ H : XT, az 12 H c j = H c j := fun H => by unfold az; simp only [if_neg hj12, ite_self]
      rw [ez, ez, hz_c (by omega), hz_c (by omega), (hj c j (by omega) (by omega)).1, (hj c j (by omega) (by omega)).2]
      exact h4 c j (by omega) (by omega) (by omega)
  · by_cases cb : 108 ≤ c ∧ c ≤ 117
    · have e : ∀ (z : Nat) (H : XT), pIni z v H c j = hz 4 (ini1 z v H) c j := fun z H => by
        unfold pIni
        rw [qup_c (by omega), qup_c (by omega), qup_c (by omega), qup_c (by omega), qup_c (by omega), qup_c (by omega), az_c (by omega)]
      rw [e, e]
      by_cases hj4 : j < 4
      · have hcs : c = 108 ∨ c = 109 ∨ c = 110 ∨ c = 111 ∨ c = 112 ∨ c = 113 ∨ c = 114 ∨ c = 115 ∨ c = 116 ∨ c = 117 := by omega
        unfold hz
        rcases hcs with rfl | rfl | rfl | rfl | rfl | rfl | rfl | rfl | rfl | rfl <;> simp only [hj4, if_true, if_false, Nat.reduceEqDiff]
      · have ez : ∀ H : XT, hz 4 H c j = H c j := fun H => by unfold hz; simp only [if_neg hj4, ite_self]
        rw [ez, ez, (hj c j (by omega) (by omega)).1, (hj c j (by omega) (by omega)).2]
        exact h5 c j (by omega) (by omega) (by omega)
    · by_cases c9 : c = 69
      · subst c9
        by_cases hjj : j < 62 ∨ 67 < j
        · have e : ∀ (z : Nat) (H : XT), pIni z v H 69 j = ini1 z v H 69 j := fun z H => by
            unfold pIni
            rw [qup_ap, if_pos rfl, if_neg (by omega), qup_ap, if_pos rfl, if_neg (by omega), qup_ap, if_pos rfl, if_neg (by omega), qup_ap, if_pos rfl, if_neg (by omega), qup_ap, if_pos rfl, if_neg (by omega), qup_ap, if_pos rfl, if_neg (by omega), az_c (by decide), hz_c (by decide)]
          rw [e, e]
          exact hi 69 j (by decide) (by decide) (fun _ => hjj)
        · have hjs : j = 62 ∨ j = 63 ∨ j = 64 ∨ j = 65 ∨ j = 66 ∨ j = 67 := by omega
          unfold pIni
          rcases hjs with rfl | rfl | rfl | rfl | rfl | rfl <;> simp only [qup_ap, if_true, if_false, Nat.reduceEqDiff]
      · have e : ∀ (z : Nat) (H : XT), pIni z v H c j = ini1 z v H c j := fun z H => by
          unfold pIni
          rw [qup_c c9, qup_c c9, qup_c c9, qup_c c9, qup_c c9, qup_c c9, az_c (by omega), hz_c (by omega)]
        rw [e, e]
        exact hi c j (by omega) (by omega) (fun h => absurd h c9)
/-- after a run the memory is as it was, the run aside -/
theorem Nrm_RR {F G X F2 C : XT} {L : LT} {n ns na y : Nat} {v : Int} (hF : FLT) (hn : Nrm F G) (hX : ∀ c : Nat, nl c → X c = pIni y v G c) (hI : Inv n ns na 0 0 (X, L0)) {k : Nat} (hk : k ≤ 80) (hRR : RR C (pRunT n ns na k (X, L0)).1 L F2) : Nrm F F2 ∧ F2 90 = G 90 ∧ F2 96 = G 96 ∧ F2 118 = G 118 := by
  obtain ⟨r1, -, r3, -⟩ := hRR
  have hK := KP_run (n := n) (ns := ns) (na := na) (S := (X, L0)) k
  have hJ := JK_run (n := n) (ns := ns) (na := na) hF hI k hk
  have hn4 := hI.1.1.2
  have hna := hI.1.2.2.1.2
  have e : ∀ c : Nat, 69 < c → (c < 97 ∨ 117 < c) → F2 c = G c := fun c h1 h2 => by
    rw [r3 c (by unfold nl; omega), hK.1 c (by omega)]
    dsimp only
    rw [hX c (by unfold nl; omega), pIni_c (by omega) (by omega)]
  obtain ⟨h0, h1, h2, h3, h4, h5⟩ := hn
  refine ⟨⟨r1, fun c a1 a2 a3 a4 a5 => by rw [e c a1 a2]; exact h1 c a1 a2 a3 a4 a5, fun j a1 a2 => ?_, fun j a => ?_, fun c j a1 a2 a3 => ?_, fun c j a1 a2 a3 => ?_⟩, e 90 (by decide) (by decide), e 96 (by decide) (by decide), e 118 (by decide) (by decide)⟩
  · rw [r3 69 (by unfold nl; decide), hK.2 j a2]
    dsimp only
    rw [hX 69 (by unfold nl; decide), pIni_69 a1 a2]
    exact h2 j a1 a2
  · rw [r3 97 (by unfold nl; decide), hK.1 97 (by decide)]
    dsimp only
    rw [hX 97 (by unfold nl; decide), ← h3 j a]
    unfold pIni ini1
    rw [qup_c (by decide), qup_c (by decide), qup_c (by decide), qup_c (by decide), qup_c (by decide), qup_c (by decide), az_c (by decide), hz_c (by decide), qup_c (by decide), vup_ap, if_pos rfl, if_neg (by omega)]
  · rw [r3 c (by unfold nl; omega), hJ.1 c j a1 a2 (by omega)]
    dsimp only
    rw [hX c (by unfold nl; omega), ← h4 c j a1 a2 a3]
    unfold pIni
    rw [qup_c (by omega), qup_c (by omega), qup_c (by omega), qup_c (by omega), qup_c (by omega), qup_c (by omega)]
    have ez : ∀ H : XT, az 12 H c j = H c j := fun H => by unfold az; simp only [if_neg (by omega : ¬ j < 12), ite_self]
    rw [ez, hz_c (by omega)]
    unfold ini1
    rw [qup_c (by omega), vup_ap, if_neg (by omega)]
  · rw [r3 c (by unfold nl; omega), hJ.2 c j a1 a2 (by omega)]
    dsimp only
    rw [hX c (by unfold nl; omega), ← h5 c j a1 a2 a3]
    unfold pIni
    rw [qup_c (by omega), qup_c (by omega), qup_c (by omega), qup_c (by omega), qup_c (by omega), qup_c (by omega), az_c (by omega)]
    have ez : ∀ H : XT, hz 4 H c j = H c j := fun H => by unfold hz; simp only [if_neg (by omega : ¬ j < 4), ite_self]
    rw [ez]
    unfold ini1
    rw [qup_c (by omega), vup_ap, if_neg (by omega)]
theorem Rel_Nrm {F G : XT} (hR : Rel F) (hn : Nrm F G) (hc : ∀ c : Nat, c < 69 → rlc c → G c = F c) : Rel G := by
  refine Rel_eq hR hn.1 (fun c h => ?_) (fun j hj => hn.2.2.1 j (by omega) (by omega))
  by_cases c69 : c < 69
  · exact hc c c69 h
  · unfold rlc at h
    exact hn.2.1 c (by omega) (by omega) (by omega) (by omega) (by omega)
