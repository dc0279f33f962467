/-! a text tells one thing; the pair fault -/
theorem stp_u {T : Nat → Int} {len k h s a : Nat} {W : XT} {r r2 : Int ⊕ QT} (h1 : stp T len k h s a W r) (h2 : stp T len k h s a W r2) : r = r2 := by
  rcases h1 with h1 | h1 | h1 | h1 <;> rcases h2 with h2 | h2 | h2 | h2
  · replace h1 := h1.2.2
    replace h2 := h2.2.2
    rcases h1 with h1 | h1 | h1 | h1
    · rcases h2 with h2 | h2 | h2 | h2
      · exact h1.2.trans h2.2.symm
      · exact absurd h2.1 h1.1
      · exact absurd h2.1 h1.1
      · exact absurd h2.1 h1.1
    · rcases h2 with h2 | h2 | h2 | h2
      · exact absurd h1.1 h2.1
      · exact h1.2.2.trans h2.2.2.symm
      · exact absurd h2.2.1 h1.2.1
      · exact absurd h2.2.1 h1.2.1
    · rcases h2 with h2 | h2 | h2 | h2
      · exact absurd h1.1 h2.1
      · exact absurd h1.2.1 h2.2.1
      · exact h1.2.2.2.trans h2.2.2.2.symm
      · exact absurd h2.2.2.1 h1.2.2.1
    · rcases h2 with h2 | h2 | h2 | h2
      · exact absurd h1.1 h2.1
      · exact absurd h1.2.1 h2.2.1
      · exact absurd h1.2.2.1 h2.2.2.1
      · exact h1.2.2.2.trans h2.2.2.2.symm
  · exact absurd (h1.1.symm.trans h2.1) (by decide)
  · exact absurd (h1.1.symm.trans h2.1) (by decide)
  · exact absurd ⟨h1.1, h1.2.1⟩ h2.1
  · exact absurd (h1.1.symm.trans h2.1) (by decide)
  · replace h1 := h1.2.2.2
    replace h2 := h2.2.2.2
    rcases h1 with h1 | h1 | h1 | h1 | h1 | h1
    · rcases h2 with h2 | h2 | h2 | h2 | h2 | h2
      · exact h1.2.trans h2.2.symm
      · exact absurd h2.1 h1.1
      · exact absurd h2.1 h1.1
      · exact absurd h2.1 h1.1
      · exact absurd h2.1 h1.1
      · exact absurd h2.1 h1.1
    · rcases h2 with h2 | h2 | h2 | h2 | h2 | h2
      · exact absurd h1.1 h2.1
      · exact h1.2.2.trans h2.2.2.symm
      · exact absurd h2.2.1 h1.2.1
      · exact absurd h2.2.1 h1.2.1
      · exact absurd h2.2.1 h1.2.1
      · exact absurd h2.2.1 h1.2.1
    · rcases h2 with h2 | h2 | h2 | h2 | h2 | h2
      · exact absurd h1.1 h2.1
      · exact absurd h1.2.1 h2.2.1
      · exact h1.2.2.2.trans h2.2.2.2.symm
      · exact absurd h2.2.2.1 h1.2.2.1
      · exact absurd h2.2.2.1 h1.2.2.1
      · exact absurd h2.2.2.1 h1.2.2.1
    · rcases h2 with h2 | h2 | h2 | h2 | h2 | h2
      · exact absurd h1.1 h2.1
      · exact absurd h1.2.1 h2.2.1
      · exact absurd h1.2.2.1 h2.2.2.1
      · exact h1.2.2.2.2.trans h2.2.2.2.2.symm
      · exact absurd h2.2.2.2.1 h1.2.2.2.1
      · exact absurd h2.2.2.2.1 h1.2.2.2.1
    · rcases h2 with h2 | h2 | h2 | h2 | h2 | h2
      · exact absurd h1.1 h2.1
      · exact absurd h1.2.1 h2.2.1
      · exact absurd h1.2.2.1 h2.2.2.1
      · exact absurd h1.2.2.2.1 h2.2.2.2.1
      · exact h1.2.2.2.2.2.trans h2.2.2.2.2.2.symm
      · exact absurd h2.2.2.2.2.1 h1.2.2.2.2.1
    · rcases h2 with h2 | h2 | h2 | h2 | h2 | h2
      · exact absurd h1.1 h2.1
      · exact absurd h1.2.1 h2.2.1
      · exact absurd h1.2.2.1 h2.2.2.1
      · exact absurd h1.2.2.2.1 h2.2.2.2.1
      · exact absurd h1.2.2.2.2.1 h2.2.2.2.2.1
      · exact h1.2.2.2.2.2.trans h2.2.2.2.2.2.symm
  · exact absurd (h1.1.symm.trans h2.1) (by decide)
  · exact absurd ⟨h1.1, h1.2.1, h1.2.2.1⟩ h2.2.1
  · exact absurd (h1.1.symm.trans h2.1) (by decide)
  · exact absurd (h1.1.symm.trans h2.1) (by decide)
  · replace h1 := h1.2.2
    replace h2 := h2.2.2
    rcases h1 with h1 | h1 | h1 | h1 | h1 | h1
    · rcases h2 with h2 | h2 | h2 | h2 | h2 | h2
      · exact h1.2.trans h2.2.symm
      · exact absurd h2.1 h1.1
      · exact absurd h2.1 h1.1
      · exact absurd h2.1 h1.1
      · exact absurd h2.1 h1.1
      · exact absurd h2.1 h1.1
    · rcases h2 with h2 | h2 | h2 | h2 | h2 | h2
      · exact absurd h1.1 h2.1
      · exact h1.2.2.trans h2.2.2.symm
      · exact absurd h2.2.1 h1.2.1
      · exact absurd h2.2.1 h1.2.1
      · exact absurd h2.2.1 h1.2.1
      · exact absurd h2.2.1 h1.2.1
    · rcases h2 with h2 | h2 | h2 | h2 | h2 | h2
      · exact absurd h1.1 h2.1
      · exact absurd h1.2.1 h2.2.1
      · exact h1.2.2.2.trans h2.2.2.2.symm
      · exact absurd h2.2.2.1 h1.2.2.1
      · exact absurd h2.2.2.1 h1.2.2.1
      · exact absurd h2.2.2.1 h1.2.2.1
    · rcases h2 with h2 | h2 | h2 | h2 | h2 | h2
      · exact absurd h1.1 h2.1
      · exact absurd h1.2.1 h2.2.1
      · exact absurd h1.2.2.1 h2.2.2.1
      · exact h1.2.2.2.2.trans h2.2.2.2.2.symm
      · exact absurd h2.2.2.2.1 h1.2.2.2.1
      · exact absurd h2.2.2.2.1 h1.2.2.2.1
    · rcases h2 with h2 | h2 | h2 | h2 | h2 | h2
      · exact absurd h1.1 h2.1
      · exact absurd h1.2.1 h2.2.1
      · exact absurd h1.2.2.1 h2.2.2.1
      · exact absurd h1.2.2.2.1 h2.2.2.2.1
      · exact h1.2.2.2.2.2.trans h2.2.2.2.2.2.symm
      · exact absurd h2.2.2.2.2.1 h1.2.2.2.2.1
    · rcases h2 with h2 | h2 | h2 | h2 | h2 | h2
      · exact absurd h1.1 h2.1
      · exact absurd h1.2.1 h2.2.1
      · exact absurd h1.2.2.1 h2.2.2.1
      · exact absurd h1.2.2.2.1 h2.2.2.2.1
      · exact absurd h1.2.2.2.2.1 h2.2.2.2.2.1
      · exact h1.2.2.2.2.2.trans h2.2.2.2.2.2.symm
  · exact absurd ⟨h1.1, h1.2.1⟩ h2.2.2.1
  · exact absurd ⟨h2.1, h2.2.1⟩ h1.1
  · exact absurd ⟨h2.1, h2.2.1, h2.2.2.1⟩ h1.2.1
  · exact absurd ⟨h2.1, h2.2.1⟩ h1.2.2.1
  · exact h1.2.2.2.trans h2.2.2.2.symm
theorem PR_u {T : Nat → Int} {len : Nat} {r r2 : Int ⊕ QT} : ∀ (m k h s a : Nat) (W : XT), PR T len m k h s a W r → PR T len m k h s a W r2 → r = r2 := by
  intro m
  induction m with
  | zero => exact fun k h s a W h1 h2 => h1.trans h2.symm
  | succ m ih =>
    intro k h s a W h1 h2
    rcases h1 with ⟨c1, h1⟩ | ⟨c1, h1⟩
    · rcases h2 with ⟨c2, h2⟩ | ⟨c2, h2⟩
      · rcases h1 with ⟨f, hs, e⟩ | ⟨k2, h2', s2, a2, W2, hs, hp⟩
        · rcases h2 with ⟨f2, hs2, e2⟩ | ⟨k3, h3, s3, a3, W3, hs2, hp2⟩
          · have := stp_u hs hs2
            rw [e, e2, this]
          · exact absurd (stp_u hs hs2) (by intro e; cases e)
        · rcases h2 with ⟨f2, hs2, e2⟩ | ⟨k3, h3, s3, a3, W3, hs2, hp2⟩
          · exact absurd (stp_u hs hs2) (by intro e; cases e)
          · have e3 := stp_u hs hs2
            injection e3 with e3
            obtain ⟨rfl, rfl, rfl, rfl, rfl⟩ := e3
            exact ih _ _ _ _ _ hp hp2
      · omega
    · rcases h2 with ⟨c2, h2⟩ | ⟨c2, h2⟩
      · omega
      · exact h1.trans h2.symm
theorem PR_f {T : Nat → Int} {len : Nat} {f : Int} : ∀ (m k h s a : Nat) (W : XT), PR T len m k h s a W (.inl f) → 0 ≤ f := by
  intro m
  induction m with
  | zero => exact fun k h s a W h1 => by cases h1
  | succ m ih =>
    intro k h s a W h1
    rcases h1 with ⟨c1, h1⟩ | ⟨c1, h1⟩
    · rcases h1 with ⟨f2, hs, e⟩ | ⟨k2, h2', s2, a2, W2, hs, hp⟩
      · injection e with e
        rw [e]
        exact stp_f hs
      · exact ih _ _ _ _ _ hp
    · cases h1
/-- what is told keeps its bounds -/
def BW (h s a : Nat) (W : XT) : Prop := (h ≤ 4 ∧ s ≤ 4 ∧ a ≤ 12) ∧ (∀ j : Nat, j < h → 1 ≤ W 0 j ∧ W 0 j ≤ 3 ∧ 1 ≤ W 1 j ∧ W 1 j ≤ 9 ∧ 0 ≤ W 2 j ∧ W 2 j ≤ 5) ∧ (∀ j : Nat, j < s → 0 ≤ W 3 j ∧ W 3 j < (h : Int) ∧ 0 ≤ W 4 j ∧ W 4 j ≤ 79 ∧ 0 ≤ W 5 j ∧ W 5 j ≤ 79) ∧ (∀ j : Nat, j < a → 0 ≤ W 6 j ∧ W 6 j ≤ 40 ∧ 0 ≤ W 7 j ∧ W 7 j ≤ 3 ∧ 1 ≤ W 8 j ∧ W 8 j ≤ 30)
theorem stp_b {T : Nat → Int} {len k h s a : Nat} {W : XT} {k2 h2 s2 a2 : Nat} {W2 : XT} (hB : BW h s a W) (hs : stp T len k h s a W (.inr (k2, h2, s2, a2, W2))) : BW h2 s2 a2 W2 := by
  obtain ⟨⟨b1, b2, b3⟩, b4, b5, b6⟩ := hB
  rcases hs with ⟨-, hb, h | h | h | h⟩ | ⟨-, hh0, hb, h | h | h | h | h | h⟩ | ⟨-, hb, h | h | h | h | h | h⟩ | h
  · exact absurd h.2 (by intro e; cases e)
  · exact absurd h.2.2 (by intro e; cases e)
  · exact absurd h.2.2.2 (by intro e; cases e)
  · have e := h.2.2.2
    injection e with e
    obtain ⟨rfl, rfl, rfl, rfl, rfl⟩ := e
    obtain ⟨o1, o2, o3, -⟩ := h
    unfold okd at o1 o2 o3
    generalize dgT T len (k + 1) = d1 at *
    generalize dgT T len (k + 2) = d2 at *
    generalize dgT T len (k + 3) = d3 at *
    refine ⟨⟨by omega, by omega, by omega⟩, fun j hj => ?_, fun j hj => ?_, fun j hj => ?_⟩
    · simp only [qup_ap, if_true, if_false, Nat.reduceEqDiff]
      by_cases c : j = h
      · simp only [c, if_true]
        omega
      · simp only [c, if_false]
        exact b4 j (by omega)
    · simp only [qup_ap, if_true, if_false, Nat.reduceEqDiff]
      have := b5 j hj
      omega
    · simp only [qup_ap, if_true, if_false, Nat.reduceEqDiff]
      have := b6 j hj
      omega
  · exact absurd h.2 (by intro e; cases e)
  · exact absurd h.2.2 (by intro e; cases e)
  · exact absurd h.2.2.2 (by intro e; cases e)
  · exact absurd h.2.2.2.2 (by intro e; cases e)
  · exact absurd h.2.2.2.2.2 (by intro e; cases e)
  · have e := h.2.2.2.2.2
    injection e with e
    obtain ⟨rfl, rfl, rfl, rfl, rfl⟩ := e
    obtain ⟨o1, o2, o3, o4, o5, -⟩ := h
    unfold okd at o1 o2 o3 o4 o5
    generalize dgT T len (k + 1) = d1 at *
    generalize dgT T len (k + 2) = d2 at *
    generalize dgT T len (k + 3) = d3 at *
    generalize dgT T len (k + 4) = d4 at *
    generalize dgT T len (k + 5) = d5 at *
    refine ⟨⟨by omega, by omega, by omega⟩, fun j hj => ?_, fun j hj => ?_, fun j hj => ?_⟩
    · simp only [qup_ap, if_true, if_false, Nat.reduceEqDiff]
      have := b4 j hj
      omega
    · simp only [qup_ap, if_true, if_false, Nat.reduceEqDiff]
      by_cases c : j = s
      · simp only [c, if_true]
        omega
      · simp only [c, if_false]
        exact b5 j (by omega)
    · simp only [qup_ap, if_true, if_false, Nat.reduceEqDiff]
      have := b6 j hj
      omega
  · exact absurd h.2 (by intro e; cases e)
  · exact absurd h.2.2 (by intro e; cases e)
  · exact absurd h.2.2.2 (by intro e; cases e)
  · exact absurd h.2.2.2.2 (by intro e; cases e)
  · exact absurd h.2.2.2.2.2 (by intro e; cases e)
  · have e := h.2.2.2.2.2
    injection e with e
    obtain ⟨rfl, rfl, rfl, rfl, rfl⟩ := e
    obtain ⟨o1, o2, o3, o4, o5, -⟩ := h
    unfold okd at o1 o2 o3 o4 o5
    generalize dgT T len (k + 1) = d1 at *
    generalize dgT T len (k + 2) = d2 at *
    generalize dgT T len (k + 3) = d3 at *
    generalize dgT T len (k + 4) = d4 at *
    generalize dgT T len (k + 5) = d5 at *
    refine ⟨⟨by omega, by omega, by omega⟩, fun j hj => ?_, fun j hj => ?_, fun j hj => ?_⟩
    · simp only [qup_ap, if_true, if_false, Nat.reduceEqDiff]
      have := b4 j hj
      omega
    · simp only [qup_ap, if_true, if_false, Nat.reduceEqDiff]
      have := b5 j hj
      omega
    · simp only [qup_ap, if_true, if_false, Nat.reduceEqDiff]
      by_cases c : j = a
      · simp only [c, if_true]
        by_cases x1 : d1 = 4
        · rw [if_pos x1] at o2
          by_cases x2 : d4 = 0
          · rw [if_pos x2, if_neg (by omega)] at o5; omega
          · rw [if_neg x2] at o5
            by_cases x3 : d4 = 3
            · rw [if_pos x3] at o5; omega
            · rw [if_neg x3] at o5; omega
        · rw [if_neg x1] at o2
          by_cases x2 : d4 = 0
          · rw [if_pos x2, if_neg (by omega)] at o5; omega
          · rw [if_neg x2] at o5
            by_cases x3 : d4 = 3
            · rw [if_pos x3] at o5; omega
            · rw [if_neg x3] at o5; omega
      · simp only [c, if_false]
        exact b6 j (by omega)
  · exact absurd h.2.2.2 (by intro e; cases e)
theorem PR_b {T : Nat → Int} {len : Nat} {k2 h2 s2 a2 : Nat} {W2 : XT} : ∀ (m k h s a : Nat) (W : XT), BW h s a W → PR T len m k h s a W (.inr (k2, h2, s2, a2, W2)) → BW h2 s2 a2 W2 := by
  intro m
  induction m with
  | zero =>
    intro k h s a W hB h1
    injection h1 with e
    obtain ⟨rfl, rfl, rfl, rfl, rfl⟩ := e
    exact hB
  | succ m ih =>
    intro k h s a W hB h1
    rcases h1 with ⟨c1, h1⟩ | ⟨c1, h1⟩
    · rcases h1 with ⟨f2, hs, e⟩ | ⟨k2, h2', s2, a2, W2, hs, hp⟩
      · cases e
      · exact ih _ _ _ _ _ (stp_b hB hs) hp
    · injection h1 with e
      obtain ⟨rfl, rfl, rfl, rfl, rfl⟩ := e
      exact hB
theorem BW_0 (W : XT) : BW 0 0 0 W := ⟨⟨by omega, by omega, by omega⟩, fun j hj => absurd hj (by omega), fun j hj => absurd hj (by omega), fun j hj => absurd hj (by omega)⟩
theorem post_fr {b : Nat} {F : XT} {len : Nat} {r : Int ⊕ QT} {G0 G : XT} (h : post b F len r G0 G) : Rf G ∧ ∀ c : Nat, c ≠ 2 → (c < b ∨ b + 9 < c) → G c = F c := by
  cases r with
  | inl f =>
    obtain ⟨⟨h1, h2, h3, h4⟩, h5, h6⟩ := h
    exact ⟨P2_rf h5 h1 h2, fun c hc hb => (h1 c hc).trans (h6 c hc hb)⟩
  | inr q =>
    obtain ⟨k, h, s, a, W⟩ := q
    obtain ⟨⟨h1, h2, h3, h4, h4b⟩, ⟨h5, h6⟩, -⟩ := h
    exact ⟨P2_rf h5 h1 h2, fun c hc hb => (h1 c hc).trans (h6 c hc hb)⟩
theorem postR_fr {F : XT} {r : Int ⊕ QT} {G : XT} (h : postR F r G) : RFq F G := by
  cases r with
  | inl f => exact h
  | inr q =>
    obtain ⟨k, h, s, a, W⟩ := q
    obtain ⟨⟨pt, h⟩, -⟩ := h
    exact h.1
theorem Rel_eq2 {F G : XT} (h : Rel F) (hf : Rf G) (h1 : ∀ c : Nat, rlc c → G c = F c) (h2 : ∀ j : Nat, j ≠ 14 → j ≠ 15 → j ≠ 16 → j ≠ 26 → j ≠ 27 → G 69 j = F 69 j) : Rel G := by
  obtain ⟨-, hT, hD, hP, hO, hK, hS, hG⟩ := h
  have q : ∀ c : Nat, rlc c → G c = F c := h1
  have q0 := q 0 (by unfold rlc; decide)
  have q1 := q 1 (by unfold rlc; decide)
  have q3 := q 3 (by unfold rlc; decide)
  have q4 := q 4 (by unfold rlc; decide)
  have q5 := q 5 (by unfold rlc; decide)
  have q6 := q 6 (by unfold rlc; decide)
  have q7 := q 7 (by unfold rlc; decide)
  have q8 := q 8 (by unfold rlc; decide)
  have q9 := q 9 (by unfold rlc; decide)
  have q10 := q 10 (by unfold rlc; decide)
  have q11 := q 11 (by unfold rlc; decide)
  have q12 := q 12 (by unfold rlc; decide)
  have q23 := q 23 (by unfold rlc; decide)
  have q24 := q 24 (by unfold rlc; decide)
  have q27 := q 27 (by unfold rlc; decide)
  have q28 := q 28 (by unfold rlc; decide)
  have q29 := q 29 (by unfold rlc; decide)
  have q30 := q 30 (by unfold rlc; decide)
  have q31 := q 31 (by unfold rlc; decide)
  have q32 := q 32 (by unfold rlc; decide)
  have q33 := q 33 (by unfold rlc; decide)
  have q34 := q 34 (by unfold rlc; decide)
  have q65 := q 65 (by unfold rlc; decide)
  have q66 := q 66 (by unfold rlc; decide)
  have q67 := q 67 (by unfold rlc; decide)
  have q68 := q 68 (by unfold rlc; decide)
  have q70 := q 70 (by unfold rlc; decide)
  have q71 := q 71 (by unfold rlc; decide)
  have q72 := q 72 (by unfold rlc; decide)
  have q73 := q 73 (by unfold rlc; decide)
  have q74 := q 74 (by unfold rlc; decide)
  have q75 := q 75 (by unfold rlc; decide)
  have q76 := q 76 (by unfold rlc; decide)
  have q77 := q 77 (by unfold rlc; decide)
  have q78 := q 78 (by unfold rlc; decide)
  have q79 := q 79 (by unfold rlc; decide)
  have q89 := q 89 (by unfold rlc; decide)
  have q91 := q 91 (by unfold rlc; decide)
  have q92 := q 92 (by unfold rlc; decide)
  have q93 := q 93 (by unfold rlc; decide)
  have q94 := q 94 (by unfold rlc; decide)
  have q95 := q 95 (by unfold rlc; decide)
  have u1 := h2 1 (by decide) (by decide) (by decide) (by decide) (by decide)
  have u2 := h2 2 (by decide) (by decide) (by decide) (by decide) (by decide)
  have u3 := h2 3 (by decide) (by decide) (by decide) (by decide) (by decide)
  have u4 := h2 4 (by decide) (by decide) (by decide) (by decide) (by decide)
  have u31 := h2 31 (by decide) (by decide) (by decide) (by decide) (by decide)
  have u32 := h2 32 (by decide) (by decide) (by decide) (by decide) (by decide)
  have u37 := h2 37 (by decide) (by decide) (by decide) (by decide) (by decide)
  have u38 := h2 38 (by decide) (by decide) (by decide) (by decide) (by decide)
  refine ⟨hf, ?_, ?_, ?_, ?_, ?_, ?_, ?_⟩
  · unfold RT at hT ⊢; rw [u1, q0, q70, q1]; exact hT
  · unfold RD at hD ⊢; rw [u2, u3, u4, q3, q4, q5, q6, q7, q8, q9, q10, q11, q12, q71, q72, q73, q74, q75, q76, q77, q78, q79]; exact hD
  · unfold RP at hP ⊢; rw [q23, q24, q89]; exact hP
  · unfold RO drow at hO ⊢; rw [u31, u32, q27, q28, q29, q89, q91]; exact hO
  · unfold RK at hK ⊢; rw [q93, q34, q66, q65, q92, q68, q67]; exact hK
  · unfold RS at hS ⊢; rw [u37, q30, q31, q32, q94, q95]; exact hS
  · unfold RG at hG ⊢; rw [u38, q0]; exact hG
theorem txt_of {F : XT} (hR : Rel F) : ∃ len : Nat, F 0 1 = (len : Int) ∧ len ≤ 120 ∧ F 69 1 = (len : Int) ∧ ∀ j : Nat, j < len → (F 1 j = F 1 j ∧ 0 ≤ F 1 j ∧ F 1 j ≤ 255) ∧ F 70 j = F 1 j := by
  obtain ⟨-, ⟨t1, t2, t3, t4⟩, -⟩ := hR
  refine ⟨(F 0 1).toNat, by omega, by omega, by omega, fun j hj => ?_⟩
  have := t4 j (by omega)
  exact ⟨⟨rfl, this.2⟩, this.1⟩
theorem H_fault {L : Nat} {xs : Nat → Int} (F : Nat → Nat → Int) (hR : Rel F) : qPair (qtab L xs) Rel 0 72 124 [(3, 0)] [(3, 69)] F := by
  apply qPair_of
  obtain ⟨len, l1, l2, l3, l4⟩ := txt_of hR
  have hr := Rf_k hR.1
  simp only [YK, c72, t72, cl47, tgK, lyK, rkK, wK, rfK, qRes_eq, qNon_eq, qup_ap, vup_ap, vcpy_ap, kc8_0, kc8_1, kc8_2, lc_lt, lc_gt, lc_eq, Option.toList_some, Option.toList_none, List.cons_append, List.nil_append, lay_len, lay_sz, Nat.reduceAdd, Nat.reduceSub, Nat.reduceMul, Int.reduceToNat, Int.reduceLE, Int.reduceLT, Int.reduceEq, Int.reduceAdd, Int.reduceSub, Int.reduceMul, Int.reduceNeg, Nat.reduceLeDiff, Nat.reduceLT, true_and, and_true, false_and, and_false, qcat_0, qcat_1, qcat_3, qcat_9, Nat.reduceEqDiff, if_true, if_false, ite_self, or_true, true_or, or_false, false_or, forall_const, not_true_eq_false, not_false_eq_true, false_implies, implies_true, qtK0, qtK1, qtK2, qtK3, qtK4, List.getD_cons_zero, List.getD_cons_succ, Int.toNat_natCast, ne_eq, qcK, hbF, bsetF, bclrF, hr, l1]
  refine k47_13 hR.1 l2 (fun j hj => (l4 j hj).1) (fun _ _ => 0) ?_
  intro r G0 G hp hpost
  obtain ⟨g1, g2⟩ := post_fr hpost
  have gr := Rf_k g1
  simp only [YK, c72, t72, c124, t124, cl123, tgK, lyK, rkK, wK, rfK, qRes_eq, qNon_eq, qup_ap, vup_ap, vcpy_ap, kc8_0, kc8_1, kc8_2, lc_lt, lc_gt, lc_eq, Option.toList_some, Option.toList_none, List.cons_append, List.nil_append, lay_len, lay_sz, Nat.reduceAdd, Nat.reduceSub, Nat.reduceMul, Int.reduceToNat, Int.reduceLE, Int.reduceLT, Int.reduceEq, Int.reduceAdd, Int.reduceSub, Int.reduceMul, Int.reduceNeg, Nat.reduceLeDiff, Nat.reduceLT, true_and, and_true, false_and, and_false, qcat_0, qcat_1, qcat_3, qcat_9, Nat.reduceEqDiff, if_true, if_false, ite_self, or_true, true_or, or_false, false_or, forall_const, not_true_eq_false, not_false_eq_true, false_implies, implies_true, qtK0, qtK1, qtK2, qtK3, qtK4, List.getD_cons_zero, List.getD_cons_succ, Int.toNat_natCast, ne_eq, qcK, hbF, bsetF, bclrF, gr]
  refine r123 (F := G) g1 l2 (T := F 1) (fun j hj => ?_) ?_ hp ?_
  · rw [g2 70 (by decide) (by decide)]
    exact ⟨(l4 j hj).2, (l4 j hj).1.2⟩
  · rw [g2 69 (by decide) (by decide)]
    exact l3
  · intro G2 h2
    obtain ⟨p1, p2, p3⟩ := postR_fr h2
    simp only [YK, c72, t72, c124, t124, cl123, tgK, lyK, rkK, wK, rfK, qRes_eq, qNon_eq, qup_ap, vup_ap, vcpy_ap, kc8_0, kc8_1, kc8_2, lc_lt, lc_gt, lc_eq, Option.toList_some, Option.toList_none, List.cons_append, List.nil_append, lay_len, lay_sz, Nat.reduceAdd, Nat.reduceSub, Nat.reduceMul, Int.reduceToNat, Int.reduceLE, Int.reduceLT, Int.reduceEq, Int.reduceAdd, Int.reduceSub, Int.reduceMul, Int.reduceNeg, Nat.reduceLeDiff, Nat.reduceLT, true_and, and_true, false_and, and_false, qcat_0, qcat_1, qcat_3, qcat_9, Nat.reduceEqDiff, if_true, if_false, ite_self, or_true, true_or, or_false, false_or, forall_const, not_true_eq_false, not_false_eq_true, false_implies, implies_true, qtK0, qtK1, qtK2, qtK3, qtK4, List.getD_cons_zero, List.getD_cons_succ, Int.toNat_natCast, ne_eq, qcK, hbF, bsetF, bclrF]
    refine Rel_eq2 hR p1 (fun c hc => ?_) (fun j a1 a2 a3 a4 a5 => ?_)
    · rw [p2 c (by unfold rlc at hc; omega) (by unfold rlc at hc; omega)]
      exact g2 c (by unfold rlc at hc; omega) (by unfold rlc at hc; omega)
    · rw [p3 j a1 a2 a3 a4 a5, g2 69 (by decide) (by decide)]
