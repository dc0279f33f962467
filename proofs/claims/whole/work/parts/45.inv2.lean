/-! works that end leave all as it must be -/
theorem CB_eq {n ns na : Nat} {X Y : XT} (h : CB n ns na X) (e2 : Y 69 2 = X 69 2) (e3 : Y 69 3 = X 69 3) (e4 : Y 69 4 = X 69 4) (e71 : Y 71 = X 71) (e72 : Y 72 = X 72) (e73 : Y 73 = X 73) (e78 : Y 78 = X 78) (e79 : Y 79 = X 79) (e96 : Y 96 = X 96) (e97 : Y 97 = X 97) : CB n ns na Y := by
  unfold CB at h ⊢
  rw [e2, e3, e4, e71, e72, e73, e78, e79, e96, e97]
  exact h
/-- what a work's end makes of the numbers, the note aside -/
def pEY (n ns : Nat) (S : XT × LT) (h : Nat) (a t : Int) : XT :=
  if S.1 98 a.toNat = 1 then
    if pSp S.1 ns (h : Int) t = true then pE1 S.1 ns h t
    else qup (qup (qup (qup (pE1 S.1 ns h t) 98 a.toNat 2) 99 a.toNat t) 100 a.toNat (h : Int)) 69 63 (twF (S.1 69 63) (w32 (t - S.1 96 a.toNat)))
  else qup (pE1 S.1 ns h t) 115 h (w32 (S.1 115 h + 1))
def doneNow (ns : Nat) (X : XT) (h : Nat) (a t : Int) : Prop := X 98 a.toNat = 1 ∧ pSp X ns (h : Int) t = false
theorem pEndOne_1 (n ns : Nat) (S : XT × LT) (h : Nat) (a t : Int) : (pEndOne n ns S h a t).1 = pNote (pEY n ns S h a t) h (pSp S.1 ns (h : Int) t) t := by
  unfold pEndOne pEY
  by_cases c1 : S.1 98 a.toNat = 1
  · rw [if_pos c1, if_pos c1]
    cases c2 : pSp S.1 ns (h : Int) t
    · rw [if_neg (by decide), if_neg (by decide)]
    · rw [if_pos rfl, if_pos rfl]
  · rw [if_neg c1, if_neg c1]
theorem pEndOne_2 (n ns : Nat) (S : XT × LT) (h : Nat) (a t : Int) : (doneNow ns S.1 h a t → (pEndOne n ns S h a t).2 = dropTo a S.2 n) ∧ (¬ doneNow ns S.1 h a t → (pEndOne n ns S h a t).2 = S.2) := by
  unfold pEndOne doneNow
  by_cases c1 : S.1 98 a.toNat = 1
  · rw [if_pos c1]
    cases c2 : pSp S.1 ns (h : Int) t
    · rw [if_neg (by decide)]
      exact ⟨fun _ => rfl, fun q => absurd ⟨c1, rfl⟩ q⟩
    · rw [if_pos rfl]
      exact ⟨fun q => absurd q.2 (by decide), fun _ => rfl⟩
  · rw [if_neg c1]
    exact ⟨fun q => absurd q.1 c1, fun _ => rfl⟩
theorem pE1_c {X : XT} {ns h : Nat} {t : Int} {c : Nat} (h1 : c ≠ 113) (h2 : c ≠ 114) : pE1 X ns h t c = X c := by
  unfold pE1
  rw [qup_c h2, qup_c h1]
theorem pEY_c {n ns : Nat} {S : XT × LT} {h : Nat} {a t : Int} {c : Nat} (h1 : c ≠ 113) (h2 : c ≠ 114) (h3 : c ≠ 115) (h4 : c ≠ 98) (h5 : c ≠ 99) (h6 : c ≠ 100) (h7 : c ≠ 69) : pEY n ns S h a t c = S.1 c := by
  unfold pEY
  split
  · split
    · exact pE1_c h1 h2
    · rw [qup_c h7, qup_c h6, qup_c h5, qup_c h4, pE1_c h1 h2]
  · rw [qup_c h3, pE1_c h1 h2]
theorem pEY_69 {n ns : Nat} {S : XT × LT} {h : Nat} {a t : Int} {j : Nat} (hj : j ≠ 63) : pEY n ns S h a t 69 j = S.1 69 j := by
  unfold pEY
  split
  · split
    · rw [pE1_c (by decide) (by decide)]
    · rw [qup_ap, if_pos rfl, if_neg hj, qup_c (by decide), qup_c (by decide), qup_c (by decide), pE1_c (by decide) (by decide)]
  · rw [qup_c (by decide), pE1_c (by decide) (by decide)]
theorem pEY_98 {n ns : Nat} {S : XT × LT} {h : Nat} {a t : Int} (j : Nat) : (doneNow ns S.1 h a t → pEY n ns S h a t 98 j = if j = a.toNat then 2 else S.1 98 j) ∧ (¬ doneNow ns S.1 h a t → pEY n ns S h a t 98 j = S.1 98 j) := by
  unfold pEY doneNow
  by_cases c1 : S.1 98 a.toNat = 1
  · rw [if_pos c1]
    cases c2 : pSp S.1 ns (h : Int) t
    · rw [if_neg (by decide)]
      refine ⟨fun _ => ?_, fun q => absurd ⟨c1, rfl⟩ q⟩
      rw [qup_c (by decide), qup_c (by decide), qup_c (by decide), qup_ap, if_pos rfl, pE1_c (by decide) (by decide)]
    · rw [if_pos rfl, pE1_c (by decide) (by decide)]
      exact ⟨fun q => absurd q.2 (by decide), fun _ => rfl⟩
  · rw [if_neg c1, qup_c (by decide), pE1_c (by decide) (by decide)]
    exact ⟨fun q => absurd q.1 c1, fun _ => rfl⟩
theorem pEY_63 {n ns : Nat} {S : XT × LT} {h : Nat} {a t : Int} : (doneNow ns S.1 h a t → pEY n ns S h a t 69 63 = twF (S.1 69 63) (w32 (t - S.1 96 a.toNat))) ∧ (¬ doneNow ns S.1 h a t → pEY n ns S h a t 69 63 = S.1 69 63) := by
  unfold pEY doneNow
  by_cases c1 : S.1 98 a.toNat = 1
  · rw [if_pos c1]
    cases c2 : pSp S.1 ns (h : Int) t
    · rw [if_neg (by decide)]
      refine ⟨fun _ => ?_, fun q => absurd ⟨c1, rfl⟩ q⟩
      rw [qup_ap, if_pos rfl, if_pos rfl]
    · rw [if_pos rfl, pE1_c (by decide) (by decide)]
      exact ⟨fun q => absurd q.2 (by decide), fun _ => rfl⟩
  · rw [if_neg c1, qup_c (by decide), pE1_c (by decide) (by decide)]
    exact ⟨fun q => absurd q.1 c1, fun _ => rfl⟩
theorem flt_mem {a b : Int} {l : List Int} : b ∈ flt a l ↔ b ∈ l ∧ b ≠ a := by
  unfold flt
  rw [List.mem_filter]
  simp
theorem dropTo_0 {a : Int} {L : LT} {n h : Nat} : dropTo a L n 0 h = if h < n then flt a (L 0 h) else L 0 h := by
  unfold dropTo
  by_cases c : h < n
  · rw [if_pos ⟨rfl, c⟩, if_pos c]
  · rw [if_neg (fun q => c q.2), if_neg c]
theorem dropTo_i {a : Int} {L : LT} {n i h : Nat} (hi : i ≠ 0) : dropTo a L n i h = L i h := by
  unfold dropTo
  rw [if_neg (fun q => hi q.1)]
theorem dropTo_mem {a b : Int} {L : LT} {n h : Nat} (hb : b ∈ dropTo a L n 0 h) : b ∈ L 0 h := by
  rw [dropTo_0] at hb
  split at hb
  · exact (flt_mem.mp hb).1
  · exact hb
theorem dropTo_nodup {a : Int} {L : LT} {n h : Nat} (hb : (L 0 h).Nodup) : (dropTo a L n 0 h).Nodup := by
  rw [dropTo_0]
  split
  · exact hb.filter _
  · exact hb
theorem getD_mem {l : List Int} {j : Nat} (h : j < l.length) : l.getD j 0 ∈ l := by
  rw [getD_at h]
  exact List.getElem_mem h
/-- rows when asks' states change at one ask that leaves the rows -/
theorem RI_drop {n na : Nat} {S : XT × LT} (h : RI n na S) (a : Int) (v : Int) (Y : XT) (hY : ∀ j, j ≠ a.toNat → Y 98 j = S.1 98 j) (ha : 0 ≤ a) : RI n na (Y, dropTo a S.2 n) := by
  intro g hg
  obtain ⟨r1, r2, r3, r4, r5, r6, r7, r8⟩ := h g hg
  refine ⟨?_, ?_, ?_, ?_, ?_, ?_, ?_, ?_⟩
  · intro b hb
    have hb0 := r1 b (dropTo_mem hb)
    refine ⟨hb0.1, ?_⟩
    have hne : b ≠ a := by
      intro e
      subst e
      dsimp only at hb
      rw [dropTo_0] at hb
      by_cases c : g < n
      · rw [if_pos c] at hb
        exact (flt_mem.mp hb).2 rfl
      · rw [if_neg c, (r8 (by omega)).1] at hb
        exact absurd hb List.not_mem_nil
    show Y 98 b.toNat = 1
    rw [hY _ (by omega)]
    exact hb0.2
  · intro b hb
    dsimp only at hb
    rw [dropTo_i (by decide)] at hb
    exact r2 b hb
  · exact dropTo_nodup r3
  · dsimp only
    rw [dropTo_i (by decide)]
    exact r4
  · intro b hb
    dsimp only
    rw [dropTo_i (by decide)]
    exact r5 b (dropTo_mem hb)
  · dsimp only
    rw [dropTo_i (by decide), dropTo_i (by decide)]
    exact r6
  · dsimp only
    rw [dropTo_i (by decide)]
    exact r7
  · intro hn
    dsimp only
    rw [dropTo_0, if_neg (by omega), dropTo_i (by decide)]
    exact r8 hn
theorem RI_eq {n na : Nat} {S : XT × LT} (h : RI n na S) (Y : XT) (hY : Y 98 = S.1 98) : RI n na (Y, S.2) := by
  intro g hg
  have q := h g hg
  dsimp only
  rw [hY]
  exact q
theorem RI_pop {n na : Nat} {S : XT × LT} (hR : RI n na S) (h : Nat) (hh : h < 4) : RI n na (pPop S h) := by
  intro g hg
  obtain ⟨r1, r2, r3, r4, r5, r6, r7, r8⟩ := hR g hg
  unfold pPop
  dsimp only
  have l0 : lset (lset S.2 1 h ((S.2 1 h).eraseIdx 0)) 2 h ((S.2 2 h).eraseIdx 0) 0 g = S.2 0 g := by rw [lset_ne (Or.inl (by decide)), lset_ne (Or.inl (by decide))]
  rw [l0]
  by_cases hgh : g = h
  · subst hgh
    have l1 : lset (lset S.2 1 g ((S.2 1 g).eraseIdx 0)) 2 g ((S.2 2 g).eraseIdx 0) 1 g = (S.2 1 g).eraseIdx 0 := by rw [lset_ne (Or.inl (by decide)), lset_self]
    have l2 : lset (lset S.2 1 g ((S.2 1 g).eraseIdx 0)) 2 g ((S.2 2 g).eraseIdx 0) 2 g = (S.2 2 g).eraseIdx 0 := lset_self _ _ _ _
    rw [l1, l2]
    have hm : ∀ b, b ∈ (S.2 1 g).eraseIdx 0 → b ∈ S.2 1 g := fun b hb => (List.eraseIdx_sublist _ _).subset hb
    refine ⟨r1, fun b hb => r2 b (hm b hb), r3, r4.sublist (List.eraseIdx_sublist _ _), fun b hb q => r5 b hb (hm b q), ?_, ?_, ?_⟩
    · rw [List.length_eraseIdx, List.length_eraseIdx, r6]
    · rw [List.length_eraseIdx]; split <;> omega
    · intro hn
      rw [(r8 hn).2]
      exact ⟨(r8 hn).1, rfl⟩
  · have l1 : lset (lset S.2 1 h ((S.2 1 h).eraseIdx 0)) 2 h ((S.2 2 h).eraseIdx 0) 1 g = S.2 1 g := by rw [lset_ne (Or.inr hgh), lset_ne (Or.inr hgh)]
    have l2 : lset (lset S.2 1 h ((S.2 1 h).eraseIdx 0)) 2 h ((S.2 2 h).eraseIdx 0) 2 g = S.2 2 g := by rw [lset_ne (Or.inr hgh), lset_ne (Or.inr hgh)]
    rw [l1, l2]
    exact ⟨r1, r2, r3, r4, r5, r6, r7, r8⟩
theorem Inv_end {n ns na : Nat} {t : Int} {S : XT × LT} (hF : FLT) (ht : 0 ≤ t ∧ t ≤ 79) (hI : Inv n ns na 0 t S) {h : Nat} (hh : h < n) (he : endsB S.2 h t = true) : EndC n ns S.1 h ((S.2 1 h).getD 0 0) t ∧ Inv n ns na 0 t (pEndOne n ns (pPop S h) h ((S.2 1 h).getD 0 0) t) ∧ ((pEndOne n ns (pPop S h) h ((S.2 1 h).getD 0 0) t).2 1 h).length < (S.2 1 h).length := by
  obtain ⟨hC, hRI, hT, hW, hB⟩ := hI
  have hC0 := hC
  obtain ⟨⟨g1, g2⟩, ⟨g3, g4⟩, ⟨g5, g6⟩, gh, ga, gp⟩ := hC0
  have h4 : h < 4 := by omega
  simp only [endsB, Bool.and_eq_true, decide_eq_true_eq] at he
  obtain ⟨r1, r2, r3, r4, r5, r6, r7, r8⟩ := hRI h h4
  have hlen : 0 < (S.2 1 h).length := by omega
  generalize haa : (S.2 1 h).getD 0 0 = a
  have hmem : a ∈ S.2 1 h := by rw [← haa]; exact getD_mem hlen
  have har := r2 a hmem
  obtain ⟨bl, bh⟩ := hB
  obtain ⟨b1, b2, b3, b4, b5⟩ := bh h h4
  have hrr := rtm_r (X := S.1) r7
  have hta := hT a.toNat (by omega)
  have hha := ga a.toNat (by omega)
  have hpp : (pPop S h).1 = S.1 := rfl
  have hvv : S.1 98 a.toNat = 1 → 1 ≤ w32 (t - S.1 96 a.toNat) ∧ w32 (t - S.1 96 a.toNat) ≤ 79 := by
    intro q
    have := (hta.2.2 (by omega)).2 (Or.inl rfl)
    rw [w32_id ⟨by omega, by omega⟩]
    omega
  have hbi : ∀ b : Bool, bi b = 0 ∨ bi b = 1 := by intro b; cases b <;> simp [bi]
  have hl1 : (pEndOne n ns (pPop S h) h a t).2 1 = (pPop S h).2 1 ∧ (pEndOne n ns (pPop S h) h a t).2 2 = (pPop S h).2 2 := by
    have q := pEndOne_2 n ns (pPop S h) h a t
    by_cases c : doneNow ns (pPop S h).1 h a t
    · rw [q.1 c]
      exact ⟨funext fun g => dropTo_i (by decide), funext fun g => dropTo_i (by decide)⟩
    · rw [q.2 c]
      exact ⟨rfl, rfl⟩
  have hp1 : (pPop S h).2 1 h = (S.2 1 h).eraseIdx 0 := by
    unfold pPop
    dsimp only
    rw [lset_ne (Or.inl (by decide)), lset_self]
  have hp2 : (pPop S h).2 2 h = (S.2 2 h).eraseIdx 0 := by
    unfold pPop
    dsimp only
    rw [lset_self]
  have hpo : ∀ i g, g ≠ h → (pPop S h).2 i g = S.2 i g := by
    intro i g hg
    unfold pPop
    dsimp only
    rw [lset_ne (Or.inr hg), lset_ne (Or.inr hg)]
  have hel : ((S.2 1 h).eraseIdx 0).length = (S.2 1 h).length - 1 := List.length_eraseIdx_of_lt hlen
  refine ⟨⟨g1, g2, g3, g4, ⟨har.1, by omega⟩, b1, b2, ?_, ?_⟩, ⟨?_, ?_, ?_, ?_, ?_⟩, ?_⟩
  · intro c3
    exact (hF.1 _ _ _ (b4 c3) hrr.1 hrr.2 (hbi _)).1
  · intro c1 _
    exact (hF.2.1 _ _ bl (hvv c1).1 (hvv c1).2).1
  · rw [pEndOne_1]
    have e : ∀ c, c ≠ 110 → c ≠ 111 → c ≠ 112 → c ≠ 108 → c ≠ 109 → c ≠ 116 → c ≠ 113 → c ≠ 114 → c ≠ 115 → c ≠ 98 → c ≠ 99 → c ≠ 100 → c ≠ 69 → pNote (pEY n ns (pPop S h) h a t) h (pSp (pPop S h).1 ns (h : Int) t) t c = S.1 c := by
      intro c h1 h2 h3 h4 h5 h6 h7 h8 h9 h10 h11 h12 h13
      rw [pNote_c h1 h2 h3 h4 h5 h6, pEY_c h7 h8 h9 h10 h11 h12 h13, hpp]
    have e9 : ∀ j, j ≠ 63 → pNote (pEY n ns (pPop S h) h a t) h (pSp (pPop S h).1 ns (h : Int) t) t 69 j = S.1 69 j := by
      intro j hj
      rw [pNote_c (by decide) (by decide) (by decide) (by decide) (by decide) (by decide), pEY_69 hj, hpp]
    exact CB_eq hC (e9 _ (by decide)) (e9 _ (by decide)) (e9 _ (by decide)) (e _ (by decide) (by decide) (by decide) (by decide) (by decide) (by decide) (by decide) (by decide) (by decide) (by decide) (by decide) (by decide) (by decide)) (e _ (by decide) (by decide) (by decide) (by decide) (by decide) (by decide) (by decide) (by decide) (by decide) (by decide) (by decide) (by decide) (by decide)) (e _ (by decide) (by decide) (by decide) (by decide) (by decide) (by decide) (by decide) (by decide) (by decide) (by decide) (by decide) (by decide) (by decide)) (e _ (by decide) (by decide) (by decide) (by decide) (by decide) (by decide) (by decide) (by decide) (by decide) (by decide) (by decide) (by decide) (by decide)) (e _ (by decide) (by decide) (by decide) (by decide) (by decide) (by decide) (by decide) (by decide) (by decide) (by decide) (by decide) (by decide) (by decide)) (e _ (by decide) (by decide) (by decide) (by decide) (by decide) (by decide) (by decide) (by decide) (by decide) (by decide) (by decide) (by decide) (by decide)) (e _ (by decide) (by decide) (by decide) (by decide) (by decide) (by decide) (by decide) (by decide) (by decide) (by decide) (by decide) (by decide) (by decide))
  · have hRp := RI_pop hRI h h4
    have q := pEndOne_2 n ns (pPop S h) h a t
    have q98 := fun j => @pEY_98 n ns (pPop S h) h a t j
    have e1 : ∀ j, (pEndOne n ns (pPop S h) h a t).1 98 j = pEY n ns (pPop S h) h a t 98 j := by
      intro j
      rw [pEndOne_1, pNote_c (by decide) (by decide) (by decide) (by decide) (by decide) (by decide)]
    by_cases c : doneNow ns (pPop S h).1 h a t
    · have := RI_drop hRp a 0 (pEndOne n ns (pPop S h) h a t).1 (fun j hj => by rw [e1, (q98 j).1 c, if_neg hj]) har.1
      rw [← q.1 c] at this
      exact this
    · have := RI_eq hRp (pEndOne n ns (pPop S h) h a t).1 (funext fun j => by rw [e1, (q98 j).2 c])
      rw [← q.2 c] at this
      exact this
  · intro b hb
    have q98 := @pEY_98 n ns (pPop S h) h a t b
    have e1 : (pEndOne n ns (pPop S h) h a t).1 98 b = pEY n ns (pPop S h) h a t 98 b := by
      rw [pEndOne_1, pNote_c (by decide) (by decide) (by decide) (by decide) (by decide) (by decide)]
    have e2 : (pEndOne n ns (pPop S h) h a t).1 96 b = S.1 96 b := by
      rw [pEndOne_1, pNote_c (by decide) (by decide) (by decide) (by decide) (by decide) (by decide), pEY_c (by decide) (by decide) (by decide) (by decide) (by decide) (by decide) (by decide)]
      rfl
    rw [e1, e2]
    have hb0 := hT b hb
    by_cases c : doneNow ns (pPop S h).1 h a t
    · rw [q98.1 c]
      by_cases hba : b = a.toNat
      · rw [if_pos hba]
        have hst : S.1 98 a.toNat = 1 := c.1
        rw [← hba] at hst
        refine ⟨by omega, fun q => absurd q (by decide), fun _ => ⟨(hb0.2.2 (by omega)).1, fun _ => (hb0.2.2 (by omega)).2 (Or.inl rfl)⟩⟩
      · rw [if_neg hba]
        exact hb0
    · rw [q98.2 c]
      exact hb0
  · intro g hg
    have hw := hW g hg
    have e72 : (pEndOne n ns (pPop S h) h a t).1 72 g = S.1 72 g := by
      rw [pEndOne_1, pNote_c (by decide) (by decide) (by decide) (by decide) (by decide) (by decide), pEY_c (by decide) (by decide) (by decide) (by decide) (by decide) (by decide) (by decide)]
      rfl
    rw [hl1.2, e72]
    by_cases hgh : g = h
    · subst hgh
      rw [hp2]
      have hel2 : ((S.2 2 g).eraseIdx 0).length = (S.2 2 g).length - 1 := List.length_eraseIdx_of_lt (by omega)
      refine ⟨?_, ?_⟩
      · intro i j hij hj
        rw [hel2] at hj
        rw [getD_erase, getD_erase, if_neg (by omega), if_neg (by omega)]
        exact hw.1 (i + 1) (j + 1) (by omega) (by omega)
      · intro j hj
        rw [hel2] at hj
        rw [getD_erase, if_neg (by omega)]
        exact hw.2 (j + 1) (by omega)
    · rw [hpo _ _ hgh]
      exact hw
  · have e97 : (pEndOne n ns (pPop S h) h a t).1 97 = S.1 97 := by
      rw [pEndOne_1, pNote_c (by decide) (by decide) (by decide) (by decide) (by decide) (by decide), pEY_c (by decide) (by decide) (by decide) (by decide) (by decide) (by decide) (by decide)]
      rfl
    refine ⟨?_, ?_⟩
    · have e63 : (pEndOne n ns (pPop S h) h a t).1 69 63 = pEY n ns (pPop S h) h a t 69 63 := by
        rw [pEndOne_1, pNote_c (by decide) (by decide) (by decide) (by decide) (by decide) (by decide)]
      rw [e63]
      have q := @pEY_63 n ns (pPop S h) h a t
      by_cases c : doneNow ns (pPop S h).1 h a t
      · rw [q.1 c]
        have hst : S.1 98 a.toNat = 1 := c.1
        exact (hF.2.1 _ _ bl (hvv hst).1 (hvv hst).2).2
      · rw [q.2 c]
        exact bl
    · intro g hg
      rw [e97, hl1.1]
      have q98 := fun j => @pEY_98 n ns (pPop S h) h a t j
      have e98 : ∀ j, (pEndOne n ns (pPop S h) h a t).1 98 j = pEY n ns (pPop S h) h a t 98 j := by
        intro j
        rw [pEndOne_1, pNote_c (by decide) (by decide) (by decide) (by decide) (by decide) (by decide)]
      have hup : g ≠ h → rtm S.1 (S.2 1 g) ≤ rtm (pEndOne n ns (pPop S h) h a t).1 (S.2 1 g) := by
        intro _
        by_cases c : doneNow ns (pPop S h).1 h a t
        · have hst : S.1 98 a.toNat = 1 := c.1
          have := rtm_up (X := S.1) (Y := (pEndOne n ns (pPop S h) h a t).1) (a := a.toNat) (fun j hj => by rw [e98, (q98 j).1 c, if_neg hj, hpp]) (by omega) (by rw [e98, (q98 _).1 c, if_pos rfl]; decide) (by omega) (hRI g hg).2.2.2.1 (fun b hb => ((hRI g hg).2.1 b hb).1)
          omega
        · rw [rtm_98 (X := S.1) (Y := (pEndOne n ns (pPop S h) h a t).1) (funext fun j => by rw [e98, (q98 j).2 c, hpp])]
          exact Int.le_refl _
      have hself : rtm S.1 (S.2 1 h) ≤ rtm (pEndOne n ns (pPop S h) h a t).1 ((S.2 1 h).eraseIdx 0) ∧ (pSp (pPop S h).1 ns (h : Int) t = false → rtm S.1 (S.2 1 h) + 1 ≤ rtm (pEndOne n ns (pPop S h) h a t).1 ((S.2 1 h).eraseIdx 0)) := by
        obtain ⟨l2, hl2⟩ : ∃ l2, S.2 1 h = a :: l2 := by
          cases hl : S.2 1 h with
          | nil => rw [hl] at hlen; exact absurd hlen (by decide)
          | cons x xs =>
            rw [hl] at haa
            exact ⟨xs, by rw [← haa]; rfl⟩
        have hnd := r4
        rw [hl2, List.nodup_cons] at hnd
        have hnn : ∀ b ∈ l2, 0 ≤ b := fun b hb => (r2 b (by rw [hl2]; exact List.mem_cons_of_mem _ hb)).1
        rw [hl2]
        show rtm S.1 (a :: l2) ≤ rtm (pEndOne n ns (pPop S h) h a t).1 l2 ∧ (_ → rtm S.1 (a :: l2) + 1 ≤ rtm (pEndOne n ns (pPop S h) h a t).1 l2)
        have ec : rtm S.1 (a :: l2) = rtm S.1 l2 - (if S.1 98 a.toNat = 1 then 0 else 1) := by
          unfold rtm
          rw [show cB S.1 (a :: l2) = (if S.1 98 a.toNat = 1 then 0 else 1) + cB S.1 l2 from rfl]
          omega
        rw [ec]
        by_cases c : doneNow ns (pPop S h).1 h a t
        · have hst : S.1 98 a.toNat = 1 := c.1
          have := rtm_up (X := S.1) (Y := (pEndOne n ns (pPop S h) h a t).1) (a := a.toNat) (fun j hj => by rw [e98, (q98 j).1 c, if_neg hj, hpp]) (by omega) (by rw [e98, (q98 _).1 c, if_pos rfl]; decide) (by omega) hnd.2 hnn
          rw [if_pos hst]
          exact ⟨by omega, fun _ => by omega⟩
        · rw [rtm_98 (X := S.1) (Y := (pEndOne n ns (pPop S h) h a t).1) (funext fun j => by rw [e98, (q98 j).2 c, hpp])]
          by_cases hst : S.1 98 a.toNat = 1
          · rw [if_pos hst]
            refine ⟨by omega, fun q => absurd ⟨hst, ?_⟩ c⟩
            exact q
          · rw [if_neg hst]
            exact ⟨by omega, fun _ => by omega⟩
      have hrl := rtm_r (X := (pEndOne n ns (pPop S h) h a t).1) (l := (S.2 1 h).eraseIdx 0) (by omega)
      have eY : ∀ c, c ≠ 113 → c ≠ 114 → c ≠ 115 → c ≠ 98 → c ≠ 99 → c ≠ 100 → c ≠ 69 → pEY n ns (pPop S h) h a t c = S.1 c := by
        intro c h1 h2 h3 h4 h5 h6 h7
        rw [pEY_c h1 h2 h3 h4 h5 h6 h7, hpp]
      have y110 := eY 110 (by decide) (by decide) (by decide) (by decide) (by decide) (by decide) (by decide)
      have y111 := eY 111 (by decide) (by decide) (by decide) (by decide) (by decide) (by decide) (by decide)
      have y109 := eY 109 (by decide) (by decide) (by decide) (by decide) (by decide) (by decide) (by decide)
      have y108 := eY 108 (by decide) (by decide) (by decide) (by decide) (by decide) (by decide) (by decide)
      have y112 := eY 112 (by decide) (by decide) (by decide) (by decide) (by decide) (by decide) (by decide)
      have y97 := eY 97 (by decide) (by decide) (by decide) (by decide) (by decide) (by decide) (by decide)
      by_cases hgh : g = h
      · subst hgh
        have q := pNote_B (X := pEY n ns (pPop S g) g a t) (h := g) (bad := pSp (pPop S g).1 ns (g : Int) t) (t := t) (by rw [y110]; exact b1) (by rw [y111]; exact b2) (by rw [y109, y108]; exact b3) ht.1 (rtm S.1 (S.2 1 g)) (rtm (pEndOne n ns (pPop S g) g a t).1 ((S.2 1 g).eraseIdx 0)) hrr ⟨hself.1, hrl.1, hself.2⟩ hF (by rw [y97, y112]; exact b4) (by rw [y97, y112]; exact b5)
        rw [y97] at q
        rw [hp1]
        generalize rtm (pEndOne n ns (pPop S g) g a t).1 ((S.2 1 g).eraseIdx 0) = m2 at q ⊢
        rw [pEndOne_1]
        exact q
      · have o1 := fun c => @pNote_o (pEY n ns (pPop S h) h a t) h (pSp (pPop S h).1 ns (h : Int) t) t c g hgh
        rw [hpo _ _ hgh]
        have hu := hup hgh
        generalize rtm (pEndOne n ns (pPop S h) h a t).1 (S.2 1 g) = m2 at hu ⊢
        rw [pEndOne_1, o1, o1, o1, o1, o1, y110, y111, y109, y108, y112]
        obtain ⟨v1, v2, v3, v4, v5⟩ := bh g hg
        exact ⟨v1, v2, v3, fun q => RtOK_mono (v4 q) hu, v5⟩
  · rw [hl1.1, hp1, hel]
    omega
