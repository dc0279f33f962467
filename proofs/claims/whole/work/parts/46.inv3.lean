/-! the other ways of a tick leave all as it must be -/
theorem pEndOne_L2 {n ns : Nat} {S : XT × LT} {h : Nat} {a t : Int} {i : Nat} (hi : i ≠ 0) : (pEndOne n ns S h a t).2 i = S.2 i := by
  have q := pEndOne_2 n ns S h a t
  by_cases c : doneNow ns S.1 h a t
  · rw [q.1 c]; exact funext fun g => dropTo_i hi
  · rw [q.2 c]
theorem pEndsH_L2 {n ns h : Nat} {t : Int} {g : Nat} (hg : g ≠ h) : ∀ (f : Nat) (S : XT × LT), (pEndsH n ns h t f S).2 2 g = S.2 2 g := by
  intro f
  induction f with
  | zero => intro S; rfl
  | succ f ih =>
    intro S
    unfold pEndsH
    split
    · rw [ih, pEndOne_L2 (by decide)]
      unfold pPop
      dsimp only
      rw [lset_ne (Or.inr hg), lset_ne (Or.inr hg)]
    · rfl
theorem Inv_endsH {n ns na : Nat} {t : Int} (hF : FLT) (ht : 0 ≤ t ∧ t ≤ 79) {h : Nat} (hh : h < n) : ∀ (f : Nat) (S : XT × LT), Inv n ns na 0 t S → Inv n ns na 0 t (pEndsH n ns h t f S) ∧ ((S.2 1 h).length ≤ f → ∀ j : Nat, j < ((pEndsH n ns h t f S).2 2 h).length → t < ((pEndsH n ns h t f S).2 2 h).getD j 0) := by
  intro f
  induction f with
  | zero =>
    intro S hI
    refine ⟨hI, ?_⟩
    intro hl j hj
    have r6 := (hI.2.1 h (by have := hI.1.1.2; omega)).2.2.2.2.2.1
    unfold pEndsH at hj
    exact absurd hj (by omega)
  | succ f ih =>
    intro S hI
    unfold pEndsH
    by_cases c : endsB S.2 h t = true
    · rw [if_pos c]
      obtain ⟨q1, q2, q3⟩ := Inv_end hF ht hI hh c
      obtain ⟨i1, i2⟩ := ih _ q2
      exact ⟨i1, fun hl => i2 (by omega)⟩
    · rw [if_neg c]
      refine ⟨hI, ?_⟩
      intro _ j hj
      simp only [endsB, Bool.and_eq_true, decide_eq_true_eq] at c
      have hw := hI.2.2.2.1 h hh
      have h1 := hw.1 0 j (by omega) hj
      have h2 := (hw.2 0 (by omega)).1
      have h3 : ¬ (S.2 2 h).getD 0 0 = t := fun q => c ⟨by omega, q⟩
      omega
theorem Inv_ends {n ns na : Nat} {t : Int} (hF : FLT) (ht : 0 ≤ t ∧ t ≤ 79) {S : XT × LT} (hI : Inv n ns na 0 t S) : Inv n ns na 1 t (pEnds n ns t S) := by
  have key : ∀ k, k ≤ n → Inv n ns na 0 t (itr (fun h S => pEndsH n ns h t 3 S) k S) ∧ ∀ h : Nat, h < k → ∀ j : Nat, j < ((itr (fun h S => pEndsH n ns h t 3 S) k S).2 2 h).length → t < ((itr (fun h S => pEndsH n ns h t 3 S) k S).2 2 h).getD j 0 := by
    intro k
    induction k with
    | zero => intro _; exact ⟨hI, fun h hh => absurd hh (by omega)⟩
    | succ k ih =>
      intro hk
      obtain ⟨i1, i2⟩ := ih (by omega)
      obtain ⟨e1, e2⟩ := Inv_endsH (h := k) hF ht (by omega) 3 _ i1
      refine ⟨e1, ?_⟩
      intro h hh j hj
      unfold itr at hj ⊢
      by_cases hhk : h = k
      · subst hhk
        exact e2 (i1.2.1 h (by have := hI.1.1.2; omega)).2.2.2.2.2.2.1 j hj
      · rw [pEndsH_L2 hhk] at hj ⊢
        exact i2 h (by omega) j hj
  obtain ⟨i1, i2⟩ := key n (Nat.le_refl _)
  unfold pEnds
  generalize itr (fun h S => pEndsH n ns h t 3 S) n S = S2 at i1 i2
  obtain ⟨hC, hRI, hT, hW, hB⟩ := i1
  refine ⟨hC, hRI, ?_, ?_, ?_⟩
  · intro a ha
    obtain ⟨t1, t2, t3⟩ := hT a ha
    exact ⟨t1, fun q => ⟨(t2 q).1, fun q2 => absurd q2 (by decide)⟩, fun q => ⟨(t3 q).1, fun _ => (t3 q).2 (Or.inl rfl)⟩⟩
  · intro h hh
    obtain ⟨w1, w2⟩ := hW h hh
    exact ⟨w1, fun j hj => ⟨(w2 j hj).1, fun _ => i2 h hh j hj, (w2 j hj).2.2⟩⟩
  · exact ⟨hB.1, fun h hh => hB.2 h hh⟩
theorem Inv_lim {n ns na : Nat} {t : Int} {S : XT × LT} (hI : Inv n ns na 1 t S) {a : Nat} (ha : a < na) : Inv n ns na 1 t (pLim n t a S) := by
  unfold pLim
  by_cases c : S.1 98 a = 1 ∧ w32 (S.1 96 a + S.1 79 a) ≤ t
  · rw [if_pos c]
    obtain ⟨hC, hRI, hT, hW, hB⟩ := hI
    refine ⟨CB_eq hC rfl rfl rfl rfl rfl rfl rfl rfl rfl rfl, ?_, ?_, ?_, ?_⟩
    · exact RI_drop hRI (a : Int) 0 _ (fun j hj => by rw [qup_c (by decide), qup_ap, if_pos rfl, if_neg (by rw [Int.toNat_natCast] at hj; exact hj)]) (by omega)
    · intro b hb
      have e : (qup (qup S.1 98 a 4) 99 a t) 98 b = if b = a then 4 else S.1 98 b := by rw [qup_c (by decide), qup_ap, if_pos rfl]
      dsimp only
      rw [e]
      obtain ⟨t1, t2, t3⟩ := hT b hb
      by_cases hba : b = a
      · rw [if_pos hba]
        have t3a := (t3 (by rw [hba]; omega)).1
        have hlt : S.1 96 b < t := by
          have hx := hC.2.2.2.2.1 a ha
          have hw := c.2
          rw [w32_id ⟨by omega, by omega⟩] at hw
          rw [hba]
          omega
        exact ⟨by omega, fun q => absurd q (by decide), fun _ => ⟨t3a, fun _ => hlt⟩⟩
      · rw [if_neg hba]
        exact ⟨t1, t2, t3⟩
    · intro h hh
      have e : dropTo (a : Int) S.2 n 2 h = S.2 2 h := dropTo_i (by decide)
      dsimp only
      rw [e]
      exact hW h hh
    · refine ⟨hB.1, fun h hh => ?_⟩
      have e : dropTo (a : Int) S.2 n 1 h = S.2 1 h := dropTo_i (by decide)
      dsimp only
      rw [e]
      obtain ⟨v1, v2, v3, v4, v5⟩ := hB.2 h hh
      have hna := hC.2.2.1.2
      have hu := rtm_up (X := S.1) (Y := qup (qup S.1 98 a 4) 99 a t) (a := a) (fun j hj => by rw [qup_c (by decide), qup_ap, if_pos rfl, if_neg hj]) (by omega) (by rw [qup_c (by decide), qup_ap, if_pos rfl, if_pos rfl]; decide) (by omega) (hRI h hh).2.2.2.1 (fun b hb => ((hRI h hh).2.1 b hb).1)
      exact ⟨v1, v2, v3, fun q => RtOK_mono (v4 q) (by omega), v5⟩
  · rw [if_neg c]; exact hI
theorem pickD_may (X : XT) (L : LT) (a t : Int) (n : Nat) : ∀ k, k ≤ n → pickD X L a t n k ≠ -9 → pMay X L (pickD X L a t n k).toNat a t ∧ 0 ≤ pickD X L a t n k ∧ pickD X L a t n k < (n : Int) := by
  intro k
  induction k with
  | zero => intro _ h; exact absurd rfl h
  | succ k ih =>
    intro hk h
    unfold pickD at h ⊢
    by_cases c : pMay X L (n - 1 - k) a t ∧ (pickD X L a t n k = -9 ∨ cps L (n - 1 - k) ≤ cps L (pickD X L a t n k).toNat)
    · rw [if_pos c]
      rw [Int.toNat_natCast]
      exact ⟨c.1, by omega, by omega⟩
    · rw [if_neg c] at h ⊢
      exact ih (by omega) h
theorem pSend_c {n : Nat} {S : XT × LT} {a t : Int} {c : Nat} (h1 : c ≠ 69) (h2 : c ≠ 117) : (pSend n S a t).1 c = S.1 c := by
  unfold pSend
  split
  · dsimp only
    rw [qup_c h1, qup_c h1]
  · split
    · unfold pShed
      dsimp only
      rw [qup_c h2, qup_c h1]
    · dsimp only
      rw [qup_c h1]
theorem pSend_69 {n : Nat} {S : XT × LT} {a t : Int} {j : Nat} (h1 : j ≠ 64) (h2 : j ≠ 67) : (pSend n S a t).1 69 j = S.1 69 j := by
  unfold pSend
  split
  · dsimp only
    rw [qup_ap, if_pos rfl, if_neg h2, qup_ap, if_pos rfl, if_neg h1]
  · split
    · unfold pShed
      dsimp only
      rw [qup_c (by decide), qup_ap, if_pos rfl, if_neg h1]
    · dsimp only
      rw [qup_ap, if_pos rfl, if_neg h1]
theorem pSend_i {n : Nat} {S : XT × LT} {a t : Int} {i h : Nat} (hi : i ≠ 0) : (pSend n S a t).2 i h = S.2 i h := by
  unfold pSend
  split
  · rfl
  · split
    · unfold pShed
      dsimp only
      rw [lset_ne (Or.inl hi), lset_ne (Or.inl hi)]
    · dsimp only
      rw [lset_ne (Or.inl hi)]
theorem pSend_0 {n : Nat} {S : XT × LT} {a t : Int} (h : Nat) : (pSend n S a t).2 0 h = S.2 0 h ∨ (h < n ∧ a ∉ S.2 0 h ∧ a ∉ S.2 1 h ∧ ((pSend n S a t).2 0 h).Sublist (S.2 0 h ++ [a])) := by
  unfold pSend
  by_cases c0 : pickD S.1 S.2 a t n n = -9
  · rw [if_pos c0]; exact Or.inl rfl
  · rw [if_neg c0]
    obtain ⟨m1, m2, m3⟩ := pickD_may S.1 S.2 a t n n (Nat.le_refl _) c0
    generalize hg : (pickD S.1 S.2 a t n n).toNat = g at m1
    have hgn : g < n := by omega
    by_cases hh : h = g
    · subst hh
      right
      refine ⟨hgn, m1.2.2.1, m1.2.2.2, ?_⟩
      split
      · unfold pShed
        dsimp only
        rw [lset_self, lset_self]
        exact List.eraseIdx_sublist _ _
      · dsimp only
        rw [lset_self]
        exact List.Sublist.refl _
    · left
      split
      · unfold pShed
        dsimp only
        rw [lset_ne (Or.inr hh), lset_ne (Or.inr hh)]
      · dsimp only
        rw [lset_ne (Or.inr hh)]
theorem Inv_send {n ns na k : Nat} {t : Int} {S : XT × LT} (hI : Inv n ns na k t S) {a : Nat} (ha : a < na) (hs : S.1 98 a = 1) : Inv n ns na k t (pSend n S (a : Int) t) := by
  obtain ⟨hC, hRI, hT, hW, hB⟩ := hI
  have e := fun (c : Nat) (h1 : c ≠ 69) (h2 : c ≠ 117) => @pSend_c n S (a : Int) t c h1 h2
  have e9 := fun (j : Nat) (h1 : j ≠ 64) (h2 : j ≠ 67) => @pSend_69 n S (a : Int) t j h1 h2
  refine ⟨?_, ?_, ?_, ?_, ?_⟩
  · exact CB_eq hC (e9 _ (by decide) (by decide)) (e9 _ (by decide) (by decide)) (e9 _ (by decide) (by decide)) (e _ (by decide) (by decide)) (e _ (by decide) (by decide)) (e _ (by decide) (by decide)) (e _ (by decide) (by decide)) (e _ (by decide) (by decide)) (e _ (by decide) (by decide)) (e _ (by decide) (by decide))
  · intro h hh
    obtain ⟨r1, r2, r3, r4, r5, r6, r7, r8⟩ := hRI h hh
    rw [pSend_i (i := 1) (by decide), pSend_i (i := 2) (by decide), e 98 (by decide) (by decide)]
    rcases @pSend_0 n S (a : Int) t h with q | ⟨q1, q2, q3, q4⟩
    · rw [q]
      exact ⟨r1, r2, r3, r4, r5, r6, r7, r8⟩
    · have hm : ∀ b, b ∈ (pSend n S (a : Int) t).2 0 h → b ∈ S.2 0 h ∨ b = (a : Int) := by
        intro b hb
        rcases List.mem_append.mp (q4.subset hb) with hb | hb
        · exact Or.inl hb
        · exact Or.inr (List.mem_singleton.mp hb)
      refine ⟨?_, r2, ?_, r4, ?_, r6, r7, ?_⟩
      · intro b hb
        rcases hm b hb with hb | hb
        · exact r1 b hb
        · subst hb
          rw [Int.toNat_natCast]
          exact ⟨⟨by omega, by omega⟩, hs⟩
      · refine List.Nodup.sublist q4 ?_
        rw [List.nodup_append]
        refine ⟨r3, (List.nodup_cons.mpr ⟨List.not_mem_nil, List.nodup_nil⟩), ?_⟩
        intro b hb b2 hb2 he
        rw [List.mem_singleton] at hb2
        rw [hb2] at he
        rw [he] at hb
        exact q2 hb
      · intro b hb
        rcases hm b hb with hb | hb
        · exact r5 b hb
        · subst hb; exact q3
      · intro hn
        exact absurd q1 (by omega)
  · intro b hb
    rw [e 98 (by decide) (by decide), e 96 (by decide) (by decide)]
    exact hT b hb
  · intro h hh
    rw [pSend_i (i := 2) (by decide), e 72 (by decide) (by decide)]
    exact hW h hh
  · refine ⟨?_, fun h hh => ?_⟩
    · rw [e9 63 (by decide) (by decide)]; exact hB.1
    · rw [pSend_i (i := 1) (by decide), rtm_98 (X := S.1) (Y := (pSend n S (a : Int) t).1) (e 98 (by decide) (by decide)), e 97 (by decide) (by decide), e 110 (by decide) (by decide), e 111 (by decide) (by decide), e 109 (by decide) (by decide), e 108 (by decide) (by decide), e 112 (by decide) (by decide)]
      exact hB.2 h hh
/-- numbers that a rule does not look at -/
theorem Inv_X {n ns na k : Nat} {t : Int} {S : XT × LT} (hI : Inv n ns na k t S) {Y : XT} (e2 : Y 69 2 = S.1 69 2) (e3 : Y 69 3 = S.1 69 3) (e4 : Y 69 4 = S.1 69 4) (e63 : Y 69 63 = S.1 69 63) (e71 : Y 71 = S.1 71) (e72 : Y 72 = S.1 72) (e73 : Y 73 = S.1 73) (e78 : Y 78 = S.1 78) (e79 : Y 79 = S.1 79) (e96 : Y 96 = S.1 96) (e97 : Y 97 = S.1 97) (e98 : Y 98 = S.1 98) (e108 : Y 108 = S.1 108) (e109 : Y 109 = S.1 109) (e110 : Y 110 = S.1 110) (e111 : Y 111 = S.1 111) (e112 : Y 112 = S.1 112) : Inv n ns na k t (Y, S.2) := by
  obtain ⟨hC, hRI, hT, hW, hB⟩ := hI
  refine ⟨CB_eq hC e2 e3 e4 e71 e72 e73 e78 e79 e96 e97, RI_eq hRI Y e98, ?_, ?_, ?_⟩
  · intro a ha
    dsimp only
    rw [e98, e96]
    exact hT a ha
  · intro h hh
    dsimp only
    rw [e72]
    exact hW h hh
  · refine ⟨by dsimp only; rw [e63]; exact hB.1, fun h hh => ?_⟩
    dsimp only
    rw [rtm_98 (X := S.1) (Y := Y) e98, e97, e108, e109, e110, e111, e112]
    exact hB.2 h hh
theorem Inv_st {n ns na k : Nat} {t : Int} {S : XT × LT} (hI : Inv n ns na k t S) {a : Nat} (v : Int) (hv : 1 ≤ v ∧ v ≤ 4) (ha : a < 12) (hs : S.1 98 a < 2) (ht : S.1 96 a ≤ t ∧ ((k = 0 ∨ (k = 1 ∧ v ≠ 1)) → S.1 96 a < t)) (hr : v = 1 ∨ ∀ h, h < 4 → (a : Int) ∉ S.2 0 h) : Inv n ns na k t (qup S.1 98 a v, S.2) := by
  obtain ⟨hC, hRI, hT, hW, hB⟩ := hI
  refine ⟨CB_eq hC rfl rfl rfl rfl rfl rfl rfl rfl rfl rfl, ?_, ?_, hW, ⟨hB.1, fun h hh => ?_⟩⟩
  rotate_left 2
  · obtain ⟨v1, v2, v3, v4, v5⟩ := hB.2 h hh
    have eo : ∀ j, j ≠ a → qup S.1 98 a v 98 j = S.1 98 j := fun j hj => by rw [qup_ap, if_pos rfl, if_neg hj]
    have ea : qup S.1 98 a v 98 a = v := by rw [qup_ap, if_pos rfl, if_pos rfl]
    have hu : rtm S.1 (S.2 1 h) ≤ rtm (qup S.1 98 a v) (S.2 1 h) := by
      by_cases hv1 : v = 1
      · exact rtm_lo eo hs (by rw [ea]; exact hv1) _
      · have := rtm_up eo hs (by rw [ea]; omega) ha (hRI h hh).2.2.2.1 (fun b hb => ((hRI h hh).2.1 b hb).1)
        omega
    exact ⟨v1, v2, v3, fun q => RtOK_mono (v4 q) hu, v5⟩
  · intro h hh
    obtain ⟨r1, r2, r3, r4, r5, r6, r7, r8⟩ := hRI h hh
    refine ⟨?_, r2, r3, r4, r5, r6, r7, r8⟩
    intro b hb
    refine ⟨(r1 b hb).1, ?_⟩
    dsimp only
    rw [qup_ap, if_pos rfl]
    by_cases c : b.toNat = a
    · rw [if_pos c]
      rcases hr with hr | hr
      · exact hr
      · have hb0 := (r1 b hb).1
        have : b = (a : Int) := by omega
        rw [this] at hb
        exact absurd hb (hr h hh)
    · rw [if_neg c]; exact (r1 b hb).2
  · intro b hb
    dsimp only
    have e : qup S.1 98 a v 98 b = if b = a then v else S.1 98 b := by rw [qup_ap, if_pos rfl]
    have e2 : qup S.1 98 a v 96 b = S.1 96 b := by rw [qup_c (by decide)]
    rw [e, e2]
    by_cases c : b = a
    · rw [if_pos c, c]
      exact ⟨by omega, fun q => absurd q (by omega), fun _ => ht⟩
    · rw [if_neg c]; exact hT b hb
theorem Inv_com {n ns na : Nat} {t : Int} {S : XT × LT} (hI : Inv n ns na 1 t S) {a : Nat} (ha : a < na) : Inv n ns na 1 t (pCom n t a S) := by
  unfold pCom
  by_cases c : S.1 96 a = t
  · rw [if_pos c]
    have hna := hI.1.2.2.1.2
    have hs2 : S.1 98 a < 2 := by
      have h3 := (hI.2.2.1 a ha).2.2
      have h4 : ¬ 2 ≤ S.1 98 a := fun q => by
        have := (h3 (by omega)).2 (Or.inr ⟨rfl, by omega⟩)
        omega
      omega
    have h1 := Inv_st (a := a) hI 1 ⟨by decide, by decide⟩ (by omega) hs2 ⟨by omega, fun q => by rcases q with q | q; exact absurd q (by decide); exact absurd rfl q.2⟩ (Or.inl rfl)
    have h2 : Inv n ns na 1 t (qup (qup (qup S.1 98 a 1) 69 62 (bud (S.1 69 62) (S.1 97 1))) 101 a 1, S.2) := Inv_X h1 rfl rfl rfl rfl rfl rfl rfl rfl rfl rfl rfl rfl rfl rfl rfl rfl rfl
    refine Inv_send h2 ha ?_
    show qup (qup (qup S.1 98 a 1) 69 62 (bud (S.1 69 62) (S.1 97 1))) 101 a 1 98 a = 1
    rw [qup_c (by decide), qup_c (by decide), qup_ap, if_pos rfl, if_pos rfl]
  · rw [if_neg c]; exact hI
theorem pCom_98 {n : Nat} {t : Int} {a b : Nat} {S : XT × LT} : (pCom n t a S).1 98 b = (if b = a ∧ S.1 96 a = t then 1 else S.1 98 b) ∧ (pCom n t a S).1 96 = S.1 96 := by
  unfold pCom
  by_cases c : S.1 96 a = t
  · rw [if_pos c, pSend_c (by decide) (by decide), pSend_c (by decide) (by decide)]
    dsimp only
    rw [qup_c (by decide), qup_c (by decide), qup_ap, if_pos rfl]
    refine ⟨?_, ?_⟩
    · by_cases h : b = a
      · rw [if_pos h, if_pos ⟨h, c⟩]
      · rw [if_neg h, if_neg (fun q => h q.1)]
    · rw [qup_c (by decide), qup_c (by decide), qup_c (by decide)]
  · rw [if_neg c, if_neg (fun q => c q.2)]
    exact ⟨rfl, rfl⟩
theorem Inv_coms {n ns na : Nat} {t : Int} {S : XT × LT} (hI : Inv n ns na 1 t S) : Inv n ns na 2 t (pComs n na t S) := by
  have key : ∀ k, k ≤ na → Inv n ns na 1 t (itr (pCom n t) k S) ∧ (itr (pCom n t) k S).1 96 = S.1 96 ∧ ∀ a : Nat, a < k → S.1 96 a = t → (itr (pCom n t) k S).1 98 a = 1 := by
    intro k
    induction k with
    | zero => intro _; exact ⟨hI, rfl, fun a ha => absurd ha (by omega)⟩
    | succ k ih =>
      intro hk
      obtain ⟨i1, i2, i3⟩ := ih (by omega)
      have q := fun b => @pCom_98 n t k b (itr (pCom n t) k S)
      refine ⟨Inv_com i1 (by omega), ?_, ?_⟩
      · unfold itr
        rw [(q 0).2, i2]
      · intro a ha h96
        unfold itr
        rw [(q a).1, i2]
        by_cases c : a = k
        · rw [if_pos ⟨c, by rw [← c]; exact h96⟩]
        · rw [if_neg (fun z => c z.1)]
          exact i3 a (by omega) h96
  obtain ⟨i1, i2, i3⟩ := key na (Nat.le_refl _)
  unfold pComs
  generalize itr (pCom n t) na S = S2 at i1 i2 i3
  obtain ⟨hC, hRI, hT, hW, hB⟩ := i1
  refine ⟨hC, hRI, ?_, fun h hh => ⟨(hW h hh).1, fun j hj => ⟨((hW h hh).2 j hj).1, fun _ => ((hW h hh).2 j hj).2.1 (by decide), ((hW h hh).2 j hj).2.2⟩⟩, ⟨hB.1, fun h hh => hB.2 h hh⟩⟩
  intro a ha
  obtain ⟨t1, t2, t3⟩ := hT a ha
  refine ⟨t1, fun q => ⟨(t2 q).1, fun _ => ?_⟩, fun q => ⟨(t3 q).1, fun q2 => by rcases q2 with q2 | q2; exact absurd q2 (by decide); exact absurd q2.1 (by decide)⟩⟩
  have h1 := (t2 q).1
  have h2 : ¬ S2.1 96 a = t := by
    intro z
    rw [i2] at z
    have := i3 a ha z
    omega
  omega
theorem cpTo_zero {L : LT} {a : Int} : ∀ n : Nat, cpTo L a n = 0 → ∀ h, h < n → a ∉ L 0 h ∧ a ∉ L 1 h := by
  intro n
  induction n with
  | zero => intro _ h hh; exact absurd hh (by omega)
  | succ n ih =>
    intro hc h hh
    unfold cpTo at hc
    have h0 := cpTo_r L a n
    have h1 : 0 ≤ b01 (a ∈ L 0 n) ∧ b01 (a ∈ L 0 n) ≤ 1 := by rcases b01_r (p := a ∈ L 0 n) with h | h <;> omega
    have h2 : 0 ≤ b01 (a ∈ L 1 n) ∧ b01 (a ∈ L 1 n) ≤ 1 := by rcases b01_r (p := a ∈ L 1 n) with h | h <;> omega
    by_cases e : h = n
    · rw [e]
      refine ⟨fun q => ?_, fun q => ?_⟩
      · rw [b01_t q] at hc; omega
      · rw [b01_t q] at hc; omega
    · exact ih (by omega) h (by omega)
theorem Inv_agn {n ns na : Nat} {t : Int} {S : XT × LT} (hI : Inv n ns na 2 t S) {a : Nat} (ha : a < na) : Inv n ns na 2 t (pAgn n t a S) := by
  unfold pAgn
  by_cases c : S.1 98 a = 1 ∧ cpTo S.2 (a : Int) n = 0
  · rw [if_pos c]
    by_cases c2 : S.1 101 a < S.1 97 0 ∧ 8 ≤ S.1 69 62
    · rw [if_pos c2]
      have h2 : Inv n ns na 2 t (qup (qup (qup S.1 69 62 (w32 (S.1 69 62 - 8))) 101 a (w32 (S.1 101 a + 1))) 69 65 (w32 (S.1 69 65 + 1)), S.2) := Inv_X hI rfl rfl rfl rfl rfl rfl rfl rfl rfl rfl rfl rfl rfl rfl rfl rfl rfl
      exact Inv_send h2 ha c.1
    · rw [if_neg c2]
      have hta := (hI.2.2.1 a ha).2.2 (by omega)
      have hna := hI.1.2.2.1.2
      have h1 := Inv_st (a := a) hI 3 ⟨by decide, by decide⟩ (by omega) (by omega) ⟨hta.1, fun q2 => by rcases q2 with q2 | q2; exact absurd q2 (by decide); exact absurd q2.1 (by decide)⟩ (Or.inr ?_)
      · exact Inv_X h1 rfl rfl rfl rfl rfl rfl rfl rfl rfl rfl rfl rfl rfl rfl rfl rfl rfl
      · intro h hh
        by_cases hn : h < n
        · exact (cpTo_zero n c.2 h hn).1
        · rw [((hI.2.1 h hh).2.2.2.2.2.2.2 (by omega)).1]
          exact List.not_mem_nil
  · rw [if_neg c]; exact hI
theorem Inv_hed {n ns na : Nat} {t : Int} {S : XT × LT} (hI : Inv n ns na 2 t S) {a : Nat} (ha : a < na) : Inv n ns na 2 t (pHed n t a S) := by
  unfold pHed
  split
  · next c =>
    have h2 : Inv n ns na 2 t (qup (qup (qup S.1 69 62 (w32 (S.1 69 62 - 8))) 102 a 1) 69 66 (w32 (S.1 69 66 + 1)), S.2) := Inv_X hI rfl rfl rfl rfl rfl rfl rfl rfl rfl rfl rfl rfl rfl rfl rfl rfl rfl
    exact Inv_send h2 ha c.1
  · exact hI
theorem Inv_beg1 {n ns na : Nat} {t : Int} {S : XT × LT} (ht : 0 ≤ t ∧ t ≤ 79) (hI : Inv n ns na 2 t S) {h : Nat} (hh : h < n) (c1 : ((S.2 1 h).length : Int) < S.1 71 h) (c2 : 0 < (S.2 0 h).length) : Inv n ns na 2 t (pBeg1 S h t) := by
  obtain ⟨hC, hRI, hT, hW, hB⟩ := hI
  have hC0 := hC
  obtain ⟨⟨g1, g2⟩, ⟨g3, g4⟩, ⟨g5, g6⟩, gh, ga, gp⟩ := hC0
  have hgh := gh h hh
  have h4 : h < 4 := by omega
  have w1 : w32 (t + S.1 72 h) = t + S.1 72 h := w32_id ⟨by omega, by omega⟩
  have l0 : ∀ g, (pBeg1 S h t).2 0 g = if g = h then (S.2 0 h).eraseIdx 0 else S.2 0 g := by
    intro g
    unfold pBeg1
    dsimp only
    by_cases e : g = h
    · rw [if_pos e, e, lset_self]
    · rw [if_neg e, lset_ne (Or.inr e), lset_ne (Or.inr e), lset_ne (Or.inr e)]
  have l1 : ∀ g, (pBeg1 S h t).2 1 g = if g = h then S.2 1 h ++ [(S.2 0 h).getD 0 0] else S.2 1 g := by
    intro g
    unfold pBeg1
    dsimp only
    by_cases e : g = h
    · rw [if_pos e, e, lset_ne (Or.inl (by decide)), lset_ne (Or.inl (by decide)), lset_self]
    · rw [if_neg e, lset_ne (Or.inr e), lset_ne (Or.inr e), lset_ne (Or.inr e)]
  have l2 : ∀ g, (pBeg1 S h t).2 2 g = if g = h then S.2 2 h ++ [t + S.1 72 h] else S.2 2 g := by
    intro g
    unfold pBeg1
    dsimp only
    rw [w1]
    by_cases e : g = h
    · rw [if_pos e, e, lset_ne (Or.inl (by decide)), lset_self]
    · rw [if_neg e, lset_ne (Or.inr e), lset_ne (Or.inr e), lset_ne (Or.inr e)]
  have hx : (pBeg1 S h t).1 = S.1 := rfl
  refine ⟨by rw [hx]; exact hC, ?_, by rw [hx]; exact hT, ?_, ?_⟩
  · intro g hg
    obtain ⟨r1, r2, r3, r4, r5, r6, r7, r8⟩ := hRI g hg
    rw [l0, l1, l2, hx]
    by_cases e : g = h
    · subst e
      rw [if_pos rfl, if_pos rfl, if_pos rfl]
      have hm0 := getD_mem c2
      have hsub : ∀ b, b ∈ (S.2 0 g).eraseIdx 0 → b ∈ S.2 0 g := fun b hb => (List.eraseIdx_sublist _ _).subset hb
      have hnot : (S.2 0 g).getD 0 0 ∉ (S.2 0 g).eraseIdx 0 := by
        cases hl : S.2 0 g with
        | nil => rw [hl] at c2; exact absurd c2 (by decide)
        | cons x xs =>
          rw [hl] at r3
          exact (List.nodup_cons.mp r3).1
      refine ⟨fun b hb => r1 b (hsub b hb), ?_, r3.sublist (List.eraseIdx_sublist _ _), ?_, ?_, ?_, ?_, ?_⟩
      · intro b hb
        rcases List.mem_append.mp hb with hb | hb
        · exact r2 b hb
        · rw [List.mem_singleton] at hb
          rw [hb]
          exact (r1 _ hm0).1
      · rw [List.nodup_append]
        refine ⟨r4, (List.nodup_cons.mpr ⟨List.not_mem_nil, List.nodup_nil⟩), ?_⟩
        intro b hb b2 hb2 he
        rw [List.mem_singleton] at hb2
        rw [hb2] at he
        rw [he] at hb
        exact r5 _ hm0 hb
      · intro b hb q
        rcases List.mem_append.mp q with q | q
        · exact r5 b (hsub b hb) q
        · rw [List.mem_singleton] at q
          rw [q] at hb
          exact hnot hb
      · rw [List.length_append, List.length_append, r6]; rfl
      · rw [List.length_append, List.length_singleton]; omega
      · intro hn; exact absurd hh (by omega)
    · rw [if_neg e, if_neg e, if_neg e]
      exact ⟨r1, r2, r3, r4, r5, r6, r7, r8⟩
  · intro g hg
    rw [l2, hx]
    by_cases e : g = h
    · subst e
      rw [if_pos rfl]
      obtain ⟨w2, w3⟩ := hW g hg
      refine ⟨?_, ?_⟩
      · intro i j hij hj
        rw [List.length_append, List.length_singleton] at hj
        rw [getD_snoc, getD_snoc]
        by_cases hjl : j = (S.2 2 g).length
        · rw [if_pos hjl]
          by_cases hil : i = (S.2 2 g).length
          · rw [if_pos hil]; exact Int.le_refl _
          · rw [if_neg hil]
            exact (w3 i (by omega)).2.2
        · rw [if_neg hjl, if_neg (by omega)]
          exact w2 i j hij (by omega)
      · intro j hj
        rw [List.length_append, List.length_singleton] at hj
        rw [getD_snoc]
        by_cases hjl : j = (S.2 2 g).length
        · rw [if_pos hjl]
          exact ⟨by omega, fun _ => by omega, Int.le_refl _⟩
        · rw [if_neg hjl]
          exact w3 j (by omega)
    · rw [if_neg e]
      exact hW g hg
  · refine ⟨hB.1, fun g hg => ?_⟩
    rw [hx, l1]
    have := hB.2 g hg
    by_cases e : g = h
    · subst e
      rw [if_pos rfl]
      have hx1 := ((hRI g hg).1 _ (getD_mem c2)).2
      have es : rtm S.1 (S.2 1 g ++ [(S.2 0 g).getD 0 0]) = rtm S.1 (S.2 1 g) := by
        unfold rtm
        rw [cB_snoc hx1]
      rw [es]
      exact this
    · rw [if_neg e]
      exact this
theorem Inv_begH {n ns na : Nat} {t : Int} (ht : 0 ≤ t ∧ t ≤ 79) {h : Nat} (hh : h < n) : ∀ (f : Nat) (S : XT × LT), Inv n ns na 2 t S → Inv n ns na 2 t (pBegH h t f S) := by
  intro f
  induction f with
  | zero => intro S hI; exact hI
  | succ f ih =>
    intro S hI
    unfold pBegH
    by_cases c : ((S.2 1 h).length : Int) < S.1 71 h ∧ 0 < (S.2 0 h).length
    · rw [if_pos c]; exact ih _ (Inv_beg1 ht hI hh c.1 c.2)
    · rw [if_neg c]; exact hI
theorem Inv_next {n ns na : Nat} {t : Int} {S : XT × LT} (hI : Inv n ns na 2 t S) : Inv n ns na 0 (t + 1) S := by
  obtain ⟨hC, hRI, hT, hW, hB⟩ := hI
  refine ⟨hC, hRI, ?_, ?_, ?_⟩
  · intro a ha
    obtain ⟨t1, t2, t3⟩ := hT a ha
    refine ⟨t1, fun q => ⟨by have := (t2 q).2 rfl; omega, fun q2 => absurd q2 (by decide)⟩, fun q => ⟨by have := (t3 q).1; omega, fun _ => by have := (t3 q).1; omega⟩⟩
  · intro h hh
    obtain ⟨w1, w2⟩ := hW h hh
    refine ⟨w1, fun j hj => ?_⟩
    obtain ⟨a1, a2, a3⟩ := w2 j hj
    have := a2 (by decide)
    exact ⟨by omega, fun q => absurd rfl q, by omega⟩
  · refine ⟨hB.1, fun h hh => ?_⟩
    obtain ⟨b1, b2, b3, b4, b5⟩ := hB.2 h hh
    refine ⟨b1, b2, ?_, b4, b5⟩
    · rcases b3 with b3 | b3
      · exact Or.inl b3
      · exact Or.inr ⟨b3.1, b3.2.1, by omega⟩
