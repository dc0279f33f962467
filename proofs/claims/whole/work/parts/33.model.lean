/-! a run's state: X the numbers, by the reference's own cells; L the rows: 0 who waits at a host, 1 who is worked at, 2 when those works end -/
abbrev XT : Type := Nat → Nat → Int
abbrev LT : Type := Nat → Nat → List Int
def rowAt (f : Nat → Int) (b : Nat) (l : List Int) : Prop := ∀ k : Nat, k < l.length → f (b + k) = l.getD k 0
def nl (c : Nat) : Prop := 69 ≤ c ∧ c ≠ 103 ∧ c ≠ 104 ∧ c ≠ 105 ∧ c ≠ 106 ∧ c ≠ 107
def RRh (F : XT) (L : LT) (h : Nat) : Prop := rowAt (F 103) (16 * h) (L 0 h) ∧ F 104 h = ((L 0 h).length : Int) ∧ rowAt (F 105) (3 * h) (L 1 h) ∧ rowAt (F 106) (3 * h) (L 2 h) ∧ F 107 h = ((L 1 h).length : Int) ∧ (L 0 h).length ≤ 16 ∧ (L 1 h).length ≤ 3 ∧ (L 2 h).length = (L 1 h).length
/-- the reference's cells stand for X and L; the class's are C -/
def RR (C X : XT) (L : LT) (F : XT) : Prop := Rf F ∧ (∀ c : Nat, c < 69 → F c = C c) ∧ (∀ c : Nat, nl c → F c = X c) ∧ ∀ h : Nat, h < 4 → RRh F L h
def lset (L : LT) (i h : Nat) (l : List Int) : LT := fun i2 h2 => if i2 = i ∧ h2 = h then l else L i2 h2
theorem lset_ap (L : LT) (i h : Nat) (l : List Int) (i2 h2 : Nat) : lset L i h l i2 h2 = if i2 = i ∧ h2 = h then l else L i2 h2 := rfl
theorem lset_self (L : LT) (i h : Nat) (l : List Int) : lset L i h l i h = l := by rw [lset_ap, if_pos ⟨rfl, rfl⟩]
theorem lset_ne {L : LT} {i h : Nat} {l : List Int} {i2 h2 : Nat} (hn : i2 ≠ i ∨ h2 ≠ h) : lset L i h l i2 h2 = L i2 h2 := by
  rw [lset_ap, if_neg]
  rintro ⟨h1, h2⟩
  rcases hn with hn | hn
  · exact hn h1
  · exact hn h2
theorem RR.rf {C X : XT} {L : LT} {F : XT} (h : RR C X L F) : Rf F := h.1
theorem RR.k {C X : XT} {L : LT} {F : XT} (h : RR C X L F) : (F 70 = X 70 ∧ F 71 = X 71 ∧ F 72 = X 72 ∧ F 73 = X 73 ∧ F 74 = X 74 ∧ F 75 = X 75 ∧ F 76 = X 76 ∧ F 77 = X 77 ∧ F 78 = X 78 ∧ F 79 = X 79 ∧ F 80 = X 80 ∧ F 81 = X 81 ∧ F 82 = X 82 ∧ F 83 = X 83 ∧ F 84 = X 84 ∧ F 85 = X 85 ∧ F 86 = X 86 ∧ F 87 = X 87 ∧ F 88 = X 88 ∧ F 89 = X 89 ∧ F 90 = X 90 ∧ F 91 = X 91) ∧ (F 92 = X 92 ∧ F 93 = X 93 ∧ F 94 = X 94 ∧ F 95 = X 95 ∧ F 96 = X 96 ∧ F 97 = X 97 ∧ F 98 = X 98 ∧ F 99 = X 99 ∧ F 100 = X 100 ∧ F 101 = X 101 ∧ F 102 = X 102 ∧ F 108 = X 108 ∧ F 109 = X 109 ∧ F 110 = X 110 ∧ F 111 = X 111 ∧ F 112 = X 112 ∧ F 113 = X 113 ∧ F 114 = X 114 ∧ F 115 = X 115 ∧ F 116 = X 116 ∧ F 117 = X 117 ∧ F 118 = X 118) ∧ F 69 1 = X 69 1 ∧ F 69 2 = X 69 2 ∧ F 69 3 = X 69 3 ∧ F 69 4 = X 69 4 ∧ F 69 14 = X 69 14 ∧ F 69 15 = X 69 15 ∧ F 69 16 = X 69 16 ∧ F 69 26 = X 69 26 ∧ F 69 27 = X 69 27 ∧ F 69 31 = X 69 31 ∧ F 69 32 = X 69 32 ∧ F 69 37 = X 69 37 ∧ F 69 38 = X 69 38 ∧ F 69 41 = X 69 41 ∧ F 69 62 = X 69 62 ∧ F 69 63 = X 69 63 ∧ F 69 64 = X 69 64 ∧ F 69 65 = X 69 65 ∧ F 69 66 = X 69 66 ∧ F 69 67 = X 69 67 := by
  have q : ∀ c : Nat, nl c → F c = X c := h.2.2.1
  have q9 : F 69 = X 69 := q 69 (by unfold nl; decide)
  refine ⟨⟨q _ (by unfold nl; decide), q _ (by unfold nl; decide), q _ (by unfold nl; decide), q _ (by unfold nl; decide), q _ (by unfold nl; decide), q _ (by unfold nl; decide), q _ (by unfold nl; decide), q _ (by unfold nl; decide), q _ (by unfold nl; decide), q _ (by unfold nl; decide), q _ (by unfold nl; decide), q _ (by unfold nl; decide), q _ (by unfold nl; decide), q _ (by unfold nl; decide), q _ (by unfold nl; decide), q _ (by unfold nl; decide), q _ (by unfold nl; decide), q _ (by unfold nl; decide), q _ (by unfold nl; decide), q _ (by unfold nl; decide), q _ (by unfold nl; decide), q _ (by unfold nl; decide)⟩, ⟨q _ (by unfold nl; decide), q _ (by unfold nl; decide), q _ (by unfold nl; decide), q _ (by unfold nl; decide), q _ (by unfold nl; decide), q _ (by unfold nl; decide), q _ (by unfold nl; decide), q _ (by unfold nl; decide), q _ (by unfold nl; decide), q _ (by unfold nl; decide), q _ (by unfold nl; decide), q _ (by unfold nl; decide), q _ (by unfold nl; decide), q _ (by unfold nl; decide), q _ (by unfold nl; decide), q _ (by unfold nl; decide), q _ (by unfold nl; decide), q _ (by unfold nl; decide), q _ (by unfold nl; decide), q _ (by unfold nl; decide), q _ (by unfold nl; decide), q _ (by unfold nl; decide)⟩, by rw [q9], by rw [q9], by rw [q9], by rw [q9], by rw [q9], by rw [q9], by rw [q9], by rw [q9], by rw [q9], by rw [q9], by rw [q9], by rw [q9], by rw [q9], by rw [q9], by rw [q9], by rw [q9], by rw [q9], by rw [q9], by rw [q9], by rw [q9]⟩
theorem RR.up {C X : XT} {L : LT} {F : XT} (h : RR C X L F) {c j : Nat} (v : Int) (hc : nl c) (hn : RFL.all (fun q => !(q.1 == c && q.2.1 == j)) = true) : RR C (qup X c j v) L (qup F c j v) := by
  obtain ⟨h1, h2, h3, h4⟩ := h
  unfold nl at hc
  refine ⟨h1.up hn, ?_, ?_, ?_⟩
  · intro c2 hc2
    rw [qup_c (by omega)]
    exact h2 c2 hc2
  · intro c2 hc2
    funext j2
    rw [qup_ap, qup_ap, h3 c2 hc2]
  · intro h0 hh
    have q := h4 h0 hh
    unfold RRh at q ⊢
    rw [qup_c (by omega), qup_c (by omega), qup_c (by omega), qup_c (by omega), qup_c (by omega)]
    exact q
theorem RR.upA {C X : XT} {L : LT} {F : XT} (h : RR C X L F) {c : Nat} (j : Nat) (v : Int) (hc : nl c) (hn : RFL.all (fun q => !(q.1 == c)) = true) : RR C (qup X c j v) L (qup F c j v) := by
  refine h.up v hc ?_
  rw [List.all_eq_true] at hn ⊢
  intro q hq
  have := hn q hq
  simp only [Bool.not_eq_true', beq_eq_false_iff_ne, ne_eq] at this
  simp [this]
theorem mem_take1 {l : List Int} {a : Int} {k : Nat} (h : k < l.length) : (a ∈ l.take (k + 1)) ↔ (a ∈ l.take k ∨ l.getD k 0 = a) := by
  rw [List.take_succ_eq_append_getElem h, List.mem_append, List.mem_singleton, List.getD_eq_getElem?_getD, List.getElem?_eq_getElem h]
  simp only [Option.getD_some]
  constructor
  · rintro (h | h)
    · exact Or.inl h
    · exact Or.inr h.symm
  · rintro (h | h)
    · exact Or.inl h
    · exact Or.inr h.symm
theorem getD_erase (l : List Int) (k j : Nat) : (l.eraseIdx k).getD j 0 = if j < k then l.getD j 0 else l.getD (j + 1) 0 := by
  rw [List.getD_eq_getElem?_getD, List.getElem?_eraseIdx, List.getD_eq_getElem?_getD, List.getD_eq_getElem?_getD]
  split <;> rfl
def b01 (p : Prop) [Decidable p] : Int := if p then 1 else 0
theorem b01_t {p : Prop} [Decidable p] (h : p) : b01 p = 1 := if_pos h
theorem b01_f {p : Prop} [Decidable p] (h : ¬ p) : b01 p = 0 := if_neg h
theorem b01_eq {p q : Prop} [Decidable p] [Decidable q] (h : p ↔ q) : b01 p = b01 q := by
  unfold b01
  by_cases hq : q
  · rw [if_pos hq, if_pos (h.mpr hq)]
  · rw [if_neg hq, if_neg (fun hp => hq (h.mp hp))]
theorem b01_r {p : Prop} [Decidable p] : b01 p = 0 ∨ b01 p = 1 := by
  by_cases h : p
  · exact Or.inr (b01_t h)
  · exact Or.inl (b01_f h)
