/-! what stays so in a run -/
def CB (n ns na : Nat) (X : XT) : Prop := (X 69 2 = (n : Int) ∧ n ≤ 4) ∧ (X 69 4 = (ns : Int) ∧ ns ≤ 4) ∧ (X 69 3 = (na : Int) ∧ na ≤ 12) ∧ (∀ h : Nat, h < n → (1 ≤ X 71 h ∧ X 71 h ≤ 3) ∧ (1 ≤ X 72 h ∧ X 72 h ≤ 9) ∧ (0 ≤ X 73 h ∧ X 73 h ≤ 5)) ∧ (∀ a : Nat, a < na → (0 ≤ X 96 a ∧ X 96 a ≤ 40) ∧ (0 ≤ X 78 a ∧ X 78 a ≤ 3) ∧ (1 ≤ X 79 a ∧ X 79 a ≤ 30)) ∧ PB (X 97) (X 97 5)
def RI (n na : Nat) (S : XT × LT) : Prop := ∀ h : Nat, h < 4 → (∀ b ∈ S.2 0 h, (0 ≤ b ∧ b < (na : Int)) ∧ S.1 98 b.toNat = 1) ∧ (∀ b ∈ S.2 1 h, 0 ≤ b ∧ b < (na : Int)) ∧ (S.2 0 h).Nodup ∧ (S.2 1 h).Nodup ∧ (∀ b ∈ S.2 0 h, b ∉ S.2 1 h) ∧ (S.2 2 h).length = (S.2 1 h).length ∧ (S.2 1 h).length ≤ 3 ∧ (n ≤ h → S.2 0 h = [] ∧ S.2 1 h = [])
def TI (na k : Nat) (t : Int) (X : XT) : Prop := ∀ a : Nat, a < na → (0 ≤ X 98 a ∧ X 98 a ≤ 4) ∧ (X 98 a = 0 → t ≤ X 96 a ∧ (k = 2 → t < X 96 a)) ∧ (X 98 a ≠ 0 → X 96 a ≤ t ∧ ((k = 0 ∨ (k = 1 ∧ X 98 a ≠ 1)) → X 96 a < t))
def Sd (l : List Int) : Prop := ∀ i j : Nat, i ≤ j → j < l.length → l.getD i 0 ≤ l.getD j 0
def WI (n k : Nat) (t : Int) (S : XT × LT) : Prop := ∀ h : Nat, h < n → Sd (S.2 2 h) ∧ ∀ j : Nat, j < (S.2 2 h).length → t ≤ (S.2 2 h).getD j 0 ∧ (k ≠ 0 → t < (S.2 2 h).getD j 0) ∧ (S.2 2 h).getD j 0 ≤ t + S.1 72 h
def RtOK (m : Int) (b : Int) : Prop := b = 0 ∨ (b ≤ 1065353216 ∧ (247 - m) * 4194304 ≤ b)
theorem RtOK_mono {m m2 b : Int} (h : RtOK m b) (hm : m ≤ m2) : RtOK m2 b := by
  rcases h with h | h
  · exact Or.inl h
  · exact Or.inr ⟨h.1, by omega⟩
def LnOK (b : Int) : Prop := 1056964608 ≤ b ∧ b ≤ 1124073472
/-- asks that have ended; works whose ask is not open -/
def cA (X : XT) : Nat → Int
  | 0 => 0
  | k + 1 => cA X k + (if 2 ≤ X 98 k then 1 else 0)
def cB (X : XT) : List Int → Int
  | [] => 0
  | b :: l => (if X 98 b.toNat = 1 then 0 else 1) + cB X l
def rtm (X : XT) (l : List Int) : Int := 2 * cA X 12 - cB X l
theorem cA_r (X : XT) : ∀ k : Nat, 0 ≤ cA X k ∧ cA X k ≤ (k : Int) := by
  intro k
  induction k with
  | zero => unfold cA; omega
  | succ k ih => unfold cA; split <;> omega
theorem cB_r (X : XT) : ∀ l : List Int, 0 ≤ cB X l ∧ cB X l ≤ (l.length : Int) := by
  intro l
  induction l with
  | nil => unfold cB; exact ⟨by decide, by decide⟩
  | cons b l ih => unfold cB; rw [List.length_cons]; split <;> omega
theorem rtm_r {X : XT} {l : List Int} (h : l.length ≤ 3) : -3 ≤ rtm X l ∧ rtm X l ≤ 24 := by
  have h1 := cA_r X 12
  have h2 := cB_r X l
  unfold rtm
  omega
theorem cA_98 {X Y : XT} (h : Y 98 = X 98) : ∀ k : Nat, cA Y k = cA X k := by
  intro k
  induction k with
  | zero => rfl
  | succ k ih => unfold cA; rw [ih, h]
theorem cB_98 {X Y : XT} : ∀ l : List Int, (∀ b ∈ l, Y 98 b.toNat = X 98 b.toNat) → cB Y l = cB X l := by
  intro l
  induction l with
  | nil => intro _; rfl
  | cons b l ih =>
    intro h
    unfold cB
    rw [ih (fun c hc => h c (List.mem_cons_of_mem _ hc)), h b List.mem_cons_self]
theorem rtm_98 {X Y : XT} (h : Y 98 = X 98) (l : List Int) : rtm Y l = rtm X l := by
  unfold rtm
  rw [cA_98 h, cB_98 l (fun b _ => by rw [h])]
theorem cA_up {X Y : XT} {a : Nat} (h : ∀ j, j ≠ a → Y 98 j = X 98 j) (h1 : X 98 a < 2) (h2 : 2 ≤ Y 98 a) : ∀ k : Nat, cA Y k = cA X k + (if a < k then 1 else 0) := by
  intro k
  induction k with
  | zero => rfl
  | succ k ih =>
    unfold cA
    rw [ih]
    by_cases c : k = a
    · subst c
      rw [if_pos h2, if_neg (show ¬ k < k by omega), if_neg (show ¬ 2 ≤ X 98 k by omega), if_pos (show k < k + 1 by omega)]
    · rw [h k c]
      by_cases c2 : a < k
      · rw [if_pos c2, if_pos (show a < k + 1 by omega)]
        omega
      · rw [if_neg c2, if_neg (show ¬ a < k + 1 by omega)]
        omega
theorem cA_lo {X Y : XT} {a : Nat} (h : ∀ j, j ≠ a → Y 98 j = X 98 j) (h1 : X 98 a < 2) (h2 : Y 98 a < 2) : ∀ k : Nat, cA Y k = cA X k := by
  intro k
  induction k with
  | zero => rfl
  | succ k ih =>
    unfold cA
    rw [ih]
    by_cases c : k = a
    · subst c
      rw [if_neg (by omega), if_neg (by omega)]
    · rw [h k c]
theorem cB_up {X Y : XT} {a : Nat} (h : ∀ j, j ≠ a → Y 98 j = X 98 j) : ∀ l : List Int, l.Nodup → (∀ b ∈ l, 0 ≤ b) → cB Y l ≤ cB X l + 1 := by
  intro l
  induction l with
  | nil => intro _ _; unfold cB; decide
  | cons b l ih =>
    intro hn hb
    rw [List.nodup_cons] at hn
    unfold cB
    by_cases c : b.toNat = a
    · have e := cB_98 (X := X) (Y := Y) l (fun d hd => h d.toNat (fun q => hn.1 ((show d = b by have h1 := hb d (List.mem_cons_of_mem _ hd); have h2 := hb b List.mem_cons_self; omega) ▸ hd)))
      rw [e]
      split <;> split <;> omega
    · have := ih hn.2 (fun d hd => hb d (List.mem_cons_of_mem _ hd))
      rw [h _ c]
      omega
theorem cB_lo {X Y : XT} {a : Nat} (h : ∀ j, j ≠ a → Y 98 j = X 98 j) (h2 : Y 98 a = 1) : ∀ l : List Int, cB Y l ≤ cB X l := by
  intro l
  induction l with
  | nil => exact Int.le_refl _
  | cons b l ih =>
    unfold cB
    by_cases c : b.toNat = a
    · rw [c, if_pos h2]
      split <;> omega
    · rw [h _ c]
      omega
theorem cB_snoc {X : XT} {b : Int} (h : X 98 b.toNat = 1) : ∀ l : List Int, cB X (l ++ [b]) = cB X l := by
  intro l
  induction l with
  | nil => show cB X [b] = 0; unfold cB cB; rw [if_pos h]; rfl
  | cons c l ih => show cB X (c :: (l ++ [b])) = cB X (c :: l); unfold cB; rw [ih]
theorem rtm_up {X Y : XT} {a : Nat} (h : ∀ j, j ≠ a → Y 98 j = X 98 j) (h1 : X 98 a < 2) (h2 : 2 ≤ Y 98 a) (ha : a < 12) {l : List Int} (hn : l.Nodup) (hb : ∀ b ∈ l, 0 ≤ b) : rtm X l + 1 ≤ rtm Y l := by
  have q1 := cA_up h h1 h2 12
  have q2 := cB_up h l hn hb
  rw [if_pos ha] at q1
  unfold rtm
  omega
theorem rtm_lo {X Y : XT} {a : Nat} (h : ∀ j, j ≠ a → Y 98 j = X 98 j) (h1 : X 98 a < 2) (h2 : Y 98 a = 1) (l : List Int) : rtm X l ≤ rtm Y l := by
  have q1 := cA_lo h h1 (by omega) 12
  have q2 := cB_lo h h2 l
  unfold rtm
  omega
def BI (k : Nat) (t : Int) (S : XT × LT) : Prop := LnOK (S.1 69 63) ∧ ∀ h : Nat, h < 4 → (0 ≤ S.1 110 h ∧ S.1 110 h < 256) ∧ (0 ≤ S.1 111 h ∧ S.1 111 h ≤ 8) ∧ (S.1 109 h = 1 ∨ (S.1 109 h = 0 ∧ 0 ≤ S.1 108 h ∧ S.1 108 h ≤ t)) ∧ (S.1 97 3 = 3 → RtOK (rtm S.1 (S.2 1 h)) (S.1 112 h)) ∧ (S.1 97 3 ≠ 3 → S.1 112 h = 0)
def Inv (n ns na k : Nat) (t : Int) (S : XT × LT) : Prop := CB n ns na S.1 ∧ RI n na S ∧ TI na k t S.1 ∧ WI n k t S ∧ BI k t S
/-- what is wanted of floats -/
def FLT : Prop := (∀ m b v : Int, RtOK m b → -3 ≤ m → m ≤ 24 → (v = 0 ∨ v = 1) → TWOK b v ∧ RtOK (if v = 0 then m + 1 else -3) (twF b v)) ∧ (∀ b v : Int, LnOK b → 1 ≤ v → v ≤ 79 → TWOK b v ∧ LnOK (twF b v)) ∧ (∀ v k b : Int, LnOK b → 0 ≤ v → v ≤ 79 → (k = 1 ∨ k = 2) → ISOK v k b)
/-! cells that a step leaves as they are -/
theorem pFor_c {X : XT} {h c : Nat} (h1 : c ≠ 110) (h2 : c ≠ 111) (h3 : c ≠ 112) : pFor X h c = X c := by
  unfold pFor
  rw [qup_c h3, qup_c h2, qup_c h1]
theorem pOpn_c {X : XT} {h : Nat} {t : Int} {c : Nat} (h1 : c ≠ 110) (h2 : c ≠ 111) (h3 : c ≠ 112) (h4 : c ≠ 108) (h5 : c ≠ 109) (h6 : c ≠ 116) : pOpn X h t c = X c := by
  unfold pOpn
  rw [pFor_c h1 h2 h3, qup_c h6, qup_c h4, qup_c h5]
theorem pNt_c {X : XT} {h : Nat} {bad : Bool} {c : Nat} (h1 : c ≠ 110) (h2 : c ≠ 111) (h3 : c ≠ 112) : pNt X h bad c = X c := by
  unfold pNt
  rw [qup_c h3, qup_c h2, qup_c h1]
theorem pNote_c {X : XT} {h : Nat} {bad : Bool} {t : Int} {c : Nat} (h1 : c ≠ 110) (h2 : c ≠ 111) (h3 : c ≠ 112) (h4 : c ≠ 108) (h5 : c ≠ 109) (h6 : c ≠ 116) : pNote X h bad t c = X c := by
  unfold pNote
  split
  · split
    · exact pOpn_c h1 h2 h3 h4 h5 h6
    · rw [pFor_c h1 h2 h3, qup_c h5]
  · split
    · unfold pTail
      split
      · rw [pOpn_c h1 h2 h3 h4 h5 h6, pNt_c h1 h2 h3]
      · rw [pNt_c h1 h2 h3]
    · rfl
/-- the breaker of a host after a note -/
theorem pNote_B {X : XT} {h : Nat} {bad : Bool} {t : Int} (hN : 0 ≤ X 110 h ∧ X 110 h < 256) (hM : 0 ≤ X 111 h ∧ X 111 h ≤ 8) (hO : X 109 h = 1 ∨ (X 109 h = 0 ∧ 0 ≤ X 108 h ∧ X 108 h ≤ t)) (ht : 0 ≤ t) (m m2 : Int) (hm : -3 ≤ m ∧ m ≤ 24) (hm2 : m ≤ m2 ∧ -3 ≤ m2 ∧ (bad = false → m + 1 ≤ m2)) (hF : FLT) (hr3 : X 97 3 = 3 → RtOK m (X 112 h)) (hr0 : X 97 3 ≠ 3 → X 112 h = 0) :
    (0 ≤ pNote X h bad t 110 h ∧ pNote X h bad t 110 h < 256) ∧ (0 ≤ pNote X h bad t 111 h ∧ pNote X h bad t 111 h ≤ 8) ∧ (pNote X h bad t 109 h = 1 ∨ (pNote X h bad t 109 h = 0 ∧ 0 ≤ pNote X h bad t 108 h ∧ pNote X h bad t 108 h ≤ t)) ∧ (X 97 3 = 3 → RtOK m2 (pNote X h bad t 112 h)) ∧ (X 97 3 ≠ 3 → pNote X h bad t 112 h = 0) := by
  have hbi : bi bad = 0 ∨ bi bad = 1 := by cases bad <;> simp [bi]
  have hz : RtOK m2 0 := Or.inl rfl
  have hfor : ∀ Y : XT, pFor Y h 110 h = 0 ∧ pFor Y h 111 h = 0 ∧ pFor Y h 112 h = 0 := by
    intro Y
    unfold pFor
    simp only [qup_ap, Nat.reduceEqDiff, if_true, if_false, and_self]
  have hopn : ∀ Y : XT, pOpn Y h t 109 h = 0 ∧ pOpn Y h t 108 h = t := by
    intro Y
    unfold pOpn pFor
    simp only [qup_ap, Nat.reduceEqDiff, if_true, if_false, and_self]
  have hopf : ∀ Y : XT, pOpn Y h t 110 h = 0 ∧ pOpn Y h t 111 h = 0 ∧ pOpn Y h t 112 h = 0 := fun Y => hfor _
  unfold pNote
  split
  · split
    · obtain ⟨a1, a2⟩ := hopn X
      obtain ⟨a3, a4, a5⟩ := hopf X
      rw [a1, a2, a3, a4, a5]
      exact ⟨by omega, by omega, Or.inr ⟨rfl, ht, Int.le_refl _⟩, fun _ => hz, fun _ => rfl⟩
    · obtain ⟨a3, a4, a5⟩ := hfor (qup X 109 h 1)
      have a6 : pFor (qup X 109 h 1) h 109 h = 1 := by rw [pFor_c (by decide) (by decide) (by decide), qup_ap, if_pos rfl, if_pos rfl]
      rw [a3, a4, a5, a6]
      exact ⟨by omega, by omega, Or.inl rfl, fun _ => hz, fun _ => rfl⟩
  · split
    · unfold pTail
      split
      · obtain ⟨a1, a2⟩ := hopn (pNt X h bad)
        obtain ⟨a3, a4, a5⟩ := hopf (pNt X h bad)
        rw [a1, a2, a3, a4, a5]
        exact ⟨by omega, by omega, Or.inr ⟨rfl, ht, Int.le_refl _⟩, fun _ => hz, fun _ => rfl⟩
      · have a1 : pNt X h bad 110 h = (2 * X 110 h + bi bad) % 256 := by
          unfold pNt
          simp only [qup_ap, Nat.reduceEqDiff, if_true, if_false]
        have a2 : pNt X h bad 111 h = if X 111 h < 8 then X 111 h + 1 else 8 := by
          unfold pNt
          simp only [qup_ap, Nat.reduceEqDiff, if_true, if_false]
        have a3 : pNt X h bad 112 h = if X 97 3 = 3 then twF (X 112 h) (bi bad) else 0 := by
          unfold pNt
          simp only [qup_ap, Nat.reduceEqDiff, if_true, if_false]
        rw [a1, a2, a3, pNt_c (by decide) (by decide) (by decide), pNt_c (by decide) (by decide) (by decide)]
        refine ⟨by omega, by split <;> omega, hO, ?_, ?_⟩
        · intro h3
          rw [if_pos h3]
          have q := (hF.1 m _ _ (hr3 h3) hm.1 hm.2 hbi).2
          refine RtOK_mono q ?_
          cases bad with
          | false =>
            rw [show bi false = 0 by simp [bi], if_pos rfl]
            exact hm2.2.2 rfl
          | true =>
            rw [show bi true = 1 by simp [bi], if_neg (by decide)]
            exact hm2.2.1
        · intro h3
          rw [if_neg h3]
    · refine ⟨hN, hM, hO, ?_, hr0⟩
      intro h3
      exact RtOK_mono (hr3 h3) hm2.1
theorem pNote_o {X : XT} {h : Nat} {bad : Bool} {t : Int} {c g : Nat} (hg : g ≠ h) : pNote X h bad t c g = X c g := by
  have hu : ∀ (Y : XT) (d : Nat) (v : Int), qup Y d h v c g = Y c g := by
    intro Y d v
    rw [qup_ap, if_neg hg]
    split <;> rfl
  have hfor : ∀ Y : XT, pFor Y h c g = Y c g := by
    intro Y
    unfold pFor
    rw [hu, hu, hu]
  have hopn : ∀ Y : XT, pOpn Y h t c g = Y c g := by
    intro Y
    unfold pOpn
    rw [hfor, hu, hu, hu]
  have hnt : pNt X h bad c g = X c g := by
    unfold pNt
    rw [hu, hu, hu]
  unfold pNote
  split
  · split
    · exact hopn X
    · rw [hfor, hu]
  · split
    · unfold pTail
      split
      · rw [hopn, hnt]
      · exact hnt
    · rfl
