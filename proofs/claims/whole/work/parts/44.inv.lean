/-! what stays so in a run -/
def CB (n ns na : Nat) (X : XT) : Prop := (X 69 2 = (n : Int) ∧ n ≤ 4) ∧ (X 69 4 = (ns : Int) ∧ ns ≤ 4) ∧ (X 69 3 = (na : Int) ∧ na ≤ 12) ∧ (∀ h : Nat, h < n → (1 ≤ X 71 h ∧ X 71 h ≤ 3) ∧ (1 ≤ X 72 h ∧ X 72 h ≤ 9) ∧ (0 ≤ X 73 h ∧ X 73 h ≤ 5)) ∧ (∀ a : Nat, a < na → (0 ≤ X 96 a ∧ X 96 a ≤ 40) ∧ (0 ≤ X 78 a ∧ X 78 a ≤ 3) ∧ (1 ≤ X 79 a ∧ X 79 a ≤ 30)) ∧ PB (X 97) (X 97 5)
def RI (n na : Nat) (S : XT × LT) : Prop := ∀ h : Nat, h < 4 → (∀ b ∈ S.2 0 h, (0 ≤ b ∧ b < (na : Int)) ∧ S.1 98 b.toNat = 1) ∧ (∀ b ∈ S.2 1 h, 0 ≤ b ∧ b < (na : Int)) ∧ (S.2 0 h).Nodup ∧ (S.2 1 h).Nodup ∧ (∀ b ∈ S.2 0 h, b ∉ S.2 1 h) ∧ (S.2 2 h).length = (S.2 1 h).length ∧ (S.2 1 h).length ≤ 3 ∧ (n ≤ h → S.2 0 h = [] ∧ S.2 1 h = [])
def TI (na k : Nat) (t : Int) (X : XT) : Prop := ∀ a : Nat, a < na → (0 ≤ X 98 a ∧ X 98 a ≤ 4) ∧ (X 98 a = 0 → t ≤ X 96 a ∧ (k = 2 → t < X 96 a)) ∧ (X 98 a ≠ 0 → X 96 a ≤ t ∧ (k = 0 → X 96 a < t))
def Sd (l : List Int) : Prop := ∀ i j : Nat, i ≤ j → j < l.length → l.getD i 0 ≤ l.getD j 0
def WI (n k : Nat) (t : Int) (S : XT × LT) : Prop := ∀ h : Nat, h < n → Sd (S.2 2 h) ∧ ∀ j : Nat, j < (S.2 2 h).length → t ≤ (S.2 2 h).getD j 0 ∧ (k ≠ 0 → t < (S.2 2 h).getD j 0) ∧ (S.2 2 h).getD j 0 ≤ t + S.1 72 h
def RtOK (m : Int) (b : Int) : Prop := b = 0 ∨ (b ≤ 1065353216 ∧ (250 - m) * 4194304 ≤ b)
def LnOK (b : Int) : Prop := 1056964608 ≤ b ∧ b ≤ 1124073472
def rtm (k : Nat) (t : Int) (l : List Int) : Int := if k = 0 then 3 * t + 3 - (l.length : Int) else 3 * t + 3
def BI (k : Nat) (t : Int) (S : XT × LT) : Prop := LnOK (S.1 69 63) ∧ ∀ h : Nat, h < 4 → (0 ≤ S.1 110 h ∧ S.1 110 h < 256) ∧ (0 ≤ S.1 111 h ∧ S.1 111 h ≤ 8) ∧ (S.1 109 h = 1 ∨ (S.1 109 h = 0 ∧ 0 ≤ S.1 108 h ∧ S.1 108 h ≤ t)) ∧ (S.1 97 3 = 3 → RtOK (rtm k t (S.2 1 h)) (S.1 112 h)) ∧ (S.1 97 3 ≠ 3 → S.1 112 h = 0)
def Inv (n ns na k : Nat) (t : Int) (S : XT × LT) : Prop := CB n ns na S.1 ∧ RI n na S ∧ TI na k t S.1 ∧ WI n k t S ∧ BI k t S
/-- what is wanted of floats -/
def FLT : Prop := (∀ m b v : Int, RtOK m b → 0 ≤ m → m ≤ 243 → (v = 0 ∨ v = 1) → TWOK b v ∧ RtOK (m + 1) (twF b v)) ∧ (∀ b v : Int, LnOK b → 1 ≤ v → v ≤ 79 → TWOK b v ∧ LnOK (twF b v)) ∧ (∀ v k b : Int, LnOK b → 0 ≤ v → v ≤ 79 → (k = 1 ∨ k = 2) → ISOK v k b)
/-! cells that a step leaves as they are -/
theorem pFor_c {X : XT} {h c : Nat} (h1 : c ≠ 110) (h2 : c ≠ 111) (h3 : c ≠ 112) : pFor X h c = X c := by
  unfold pFor
  rw [qup_c h3, qup_c h2, qup_c h1]
theorem pOpn_c {X : XT} {h : Nat} {t : Int} {c : Nat} (h1 : c ≠ 110) (h2 : c ≠ 111) (h3 : c ≠ 112) (h4 : c ≠ 108) (h5 : c ≠ 109) (h6 : c ≠ 116) : pOpn X h t c = X c := by
  unfold pOpn
  rw [pFor_c h1 h2 h3, qup_c h6, qup_c h4, qup_c h5]
theorem pNt_c {X : XT} {h : Nat} {bad : Bool} {c : Nat} (h1 : c ≠ 110) (h2 : c ≠ 111) (h3 : c ≠ 112) : pNt X h bad c = X c := by
  unfold pNt
  rw [qup_c h3, qup_c h2, qup_c h1]
theorem pNote_c {X : XT} {h : Nat} {bad : Bool} {t : Int} {c : Nat} (h1 : c ≠ 110) (h2 : c ≠ 111) (h3 : c ≠ 112) (h4 : c ≠ 108) (h5 : c ≠ 109) (h6 : c ≠ 116) : pNote X h bad t c = X c := by
  unfold pNote
  split
  · split
    · exact pOpn_c h1 h2 h3 h4 h5 h6
    · rw [pFor_c h1 h2 h3, qup_c h5]
  · split
    · unfold pTail
      split
      · rw [pOpn_c h1 h2 h3 h4 h5 h6, pNt_c h1 h2 h3]
      · rw [pNt_c h1 h2 h3]
    · rfl
/-- the breaker of a host after a note -/
theorem pNote_B {X : XT} {h : Nat} {bad : Bool} {t : Int} (hN : 0 ≤ X 110 h ∧ X 110 h < 256) (hM : 0 ≤ X 111 h ∧ X 111 h ≤ 8) (hO : X 109 h = 1 ∨ (X 109 h = 0 ∧ 0 ≤ X 108 h ∧ X 108 h ≤ t)) (ht : 0 ≤ t) (m : Int) (hm : 0 ≤ m ∧ m ≤ 243) (hF : FLT) (hr3 : X 97 3 = 3 → RtOK m (X 112 h)) (hr0 : X 97 3 ≠ 3 → X 112 h = 0) :
    (0 ≤ pNote X h bad t 110 h ∧ pNote X h bad t 110 h < 256) ∧ (0 ≤ pNote X h bad t 111 h ∧ pNote X h bad t 111 h ≤ 8) ∧ (pNote X h bad t 109 h = 1 ∨ (pNote X h bad t 109 h = 0 ∧ 0 ≤ pNote X h bad t 108 h ∧ pNote X h bad t 108 h ≤ t)) ∧ (X 97 3 = 3 → RtOK (m + 1) (pNote X h bad t 112 h)) ∧ (X 97 3 ≠ 3 → pNote X h bad t 112 h = 0) := by
  have hbi : bi bad = 0 ∨ bi bad = 1 := by cases bad <;> simp [bi]
  have hz : RtOK (m + 1) 0 := Or.inl rfl
  have hfor : ∀ Y : XT, pFor Y h 110 h = 0 ∧ pFor Y h 111 h = 0 ∧ pFor Y h 112 h = 0 := by
    intro Y
    unfold pFor
    simp only [qup_ap, Nat.reduceEqDiff, if_true, if_false, and_self]
  have hopn : ∀ Y : XT, pOpn Y h t 109 h = 0 ∧ pOpn Y h t 108 h = t := by
    intro Y
    unfold pOpn pFor
    simp only [qup_ap, Nat.reduceEqDiff, if_true, if_false, and_self]
  have hopf : ∀ Y : XT, pOpn Y h t 110 h = 0 ∧ pOpn Y h t 111 h = 0 ∧ pOpn Y h t 112 h = 0 := fun Y => hfor _
  unfold pNote
  split
  · split
    · obtain ⟨a1, a2⟩ := hopn X
      obtain ⟨a3, a4, a5⟩ := hopf X
      rw [a1, a2, a3, a4, a5]
      exact ⟨by omega, by omega, Or.inr ⟨rfl, ht, Int.le_refl _⟩, fun _ => hz, fun _ => rfl⟩
    · obtain ⟨a3, a4, a5⟩ := hfor (qup X 109 h 1)
      have a6 : pFor (qup X 109 h 1) h 109 h = 1 := by rw [pFor_c (by decide) (by decide) (by decide), qup_ap, if_pos rfl, if_pos rfl]
      rw [a3, a4, a5, a6]
      exact ⟨by omega, by omega, Or.inl rfl, fun _ => hz, fun _ => rfl⟩
  · split
    · unfold pTail
      split
      · obtain ⟨a1, a2⟩ := hopn (pNt X h bad)
        obtain ⟨a3, a4, a5⟩ := hopf (pNt X h bad)
        rw [a1, a2, a3, a4, a5]
        exact ⟨by omega, by omega, Or.inr ⟨rfl, ht, Int.le_refl _⟩, fun _ => hz, fun _ => rfl⟩
      · have a1 : pNt X h bad 110 h = (2 * X 110 h + bi bad) % 256 := by
          unfold pNt
          simp only [qup_ap, Nat.reduceEqDiff, if_true, if_false]
        have a2 : pNt X h bad 111 h = if X 111 h < 8 then X 111 h + 1 else 8 := by
          unfold pNt
          simp only [qup_ap, Nat.reduceEqDiff, if_true, if_false]
        have a3 : pNt X h bad 112 h = if X 97 3 = 3 then twF (X 112 h) (bi bad) else 0 := by
          unfold pNt
          simp only [qup_ap, Nat.reduceEqDiff, if_true, if_false]
        rw [a1, a2, a3, pNt_c (by decide) (by decide) (by decide), pNt_c (by decide) (by decide) (by decide)]
        refine ⟨by omega, by split <;> omega, hO, ?_, ?_⟩
        · intro h3
          rw [if_pos h3]
          exact (hF.1 m _ _ (hr3 h3) hm.1 hm.2 hbi).2
        · intro h3
          rw [if_neg h3]
    · refine ⟨hN, hM, hO, ?_, hr0⟩
      intro h3
      rcases hr3 h3 with h4 | h4
      · exact Or.inl h4
      · exact Or.inr ⟨h4.1, by omega⟩
theorem pNote_o {X : XT} {h : Nat} {bad : Bool} {t : Int} {c g : Nat} (hg : g ≠ h) : pNote X h bad t c g = X c g := by
  have hu : ∀ (Y : XT) (d : Nat) (v : Int), qup Y d h v c g = Y c g := by
    intro Y d v
    rw [qup_ap, if_neg hg]
    split <;> rfl
  have hfor : ∀ Y : XT, pFor Y h c g = Y c g := by
    intro Y
    unfold pFor
    rw [hu, hu, hu]
  have hopn : ∀ Y : XT, pOpn Y h t c g = Y c g := by
    intro Y
    unfold pOpn
    rw [hfor, hu, hu, hu]
  have hnt : pNt X h bad c g = X c g := by
    unfold pNt
    rw [hu, hu, hu]
  unfold pNote
  split
  · split
    · exact hopn X
    · rw [hfor, hu]
  · split
    · unfold pTail
      split
      · rw [hopn, hnt]
      · exact hnt
    · rfl
