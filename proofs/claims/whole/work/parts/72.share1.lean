/-! shares: the numbers -/
def nt (x : Int) : Int := (i1 x ^^^ i1 (-1)).toInt
def sb (im j : Int) : Int := (i1 j &&& i1 (i1 im ^^^ i1 (-1)).toInt).toInt
def fT (a : Int) : Int := ([1, 1, 2, 6, 24] : List Int).getD a.toNat 0
def ordV (j h cnt : Int) : Int := if hbit j h = 1 then (if pBc j - 1 < 0 ∨ 4 < pBc j - 1 ∨ cnt - 1 - (pBc j - 1) < 0 ∨ 4 < cnt - 1 - (pBc j - 1) then 0 else fT (pBc j - 1) * fT (cnt - 1 - (pBc j - 1))) else (if pBc j < 0 ∨ 4 < pBc j ∨ cnt - 1 - pBc j < 0 ∨ 4 < cnt - 1 - pBc j then 0 else -(fT (pBc j) * fT (cnt - 1 - pBc j)))
def cC (im h cnt j : Int) : Int := if sb im j = 0 then ordV j h cnt else 0
def dR (im h cnt j : Int) : Int := if sb im j = 0 ∧ hbit j h ≠ 1 then fT (pBc j) * fT (cnt - 1 - pBc j) else 0
theorem bcK : ∀ j : Fin 16, (0 ≤ pBc ((j : Nat) : Int) ∧ pBc ((j : Nat) : Int) ≤ 4) ∧ pOnes ((j : Nat) : Int) = pBc ((j : Nat) : Int) := by decide +kernel
theorem fTK : fT 0 = 1 ∧ fT 1 = 1 ∧ fT 2 = 2 ∧ fT 3 = 6 ∧ fT 4 = 24 := by decide
theorem fT_r {a : Int} (h : 0 ≤ a ∧ a ≤ 4) : 1 ≤ fT a ∧ fT a ≤ 24 := by
  have : a = 0 ∨ a = 1 ∨ a = 2 ∨ a = 3 ∨ a = 4 := by omega
  obtain ⟨f0, f1, f2, f3, f4⟩ := fTK
  rcases this with rfl | rfl | rfl | rfl | rfl <;> omega
/-- for hosts that are in, by mask, and one of them -/
theorem shA : ∀ im : Fin 16, ∀ h : Fin 4, hbit ((im : Nat) : Int) ((h : Nat) : Int) = 1 → 1 ≤ pBc ((im : Nat) : Int) ∧ ∀ j : Fin 16, (-24 ≤ cC ((im : Nat) : Int) ((h : Nat) : Int) (pBc ((im : Nat) : Int)) ((j : Nat) : Int) ∧ cC ((im : Nat) : Int) ((h : Nat) : Int) (pBc ((im : Nat) : Int)) ((j : Nat) : Int) ≤ 24) ∧ (0 ≤ dR ((im : Nat) : Int) ((h : Nat) : Int) (pBc ((im : Nat) : Int)) ((j : Nat) : Int) ∧ dR ((im : Nat) : Int) ((h : Nat) : Int) (pBc ((im : Nat) : Int)) ((j : Nat) : Int) ≤ 24) ∧ (sb ((im : Nat) : Int) ((j : Nat) : Int) = 0 → (j : Nat) ≤ (im : Nat)) ∧ (sb ((im : Nat) : Int) ((j : Nat) : Int) = 0 → hbit ((j : Nat) : Int) ((h : Nat) : Int) ≠ 1 → bset ((j : Nat) : Int) ((h : Nat) : Int) = ((j.val + 2 ^ h.val : Nat) : Int) ∧ sb ((im : Nat) : Int) ((j.val + 2 ^ h.val : Nat) : Int) = 0 ∧ j.val + 2 ^ h.val ≤ im.val ∧ pBc ((j : Nat) : Int) ≤ pBc ((im : Nat) : Int) - 1) := by decide +kernel
theorem shC : ∀ im : Fin 16, ∀ h : Fin 4, hbit ((im : Nat) : Int) ((h : Nat) : Int) = 1 → ∀ j : Fin 16, (hbit ((j : Nat) : Int) ((h : Nat) : Int) = 1 → cC ((im : Nat) : Int) ((h : Nat) : Int) (pBc ((im : Nat) : Int)) ((j : Nat) : Int) = dR ((im : Nat) : Int) ((h : Nat) : Int) (pBc ((im : Nat) : Int)) ((j.val - 2 ^ h.val : Nat) : Int) ∧ dR ((im : Nat) : Int) ((h : Nat) : Int) (pBc ((im : Nat) : Int)) ((j : Nat) : Int) = 0) ∧ (hbit ((j : Nat) : Int) ((h : Nat) : Int) ≠ 1 → cC ((im : Nat) : Int) ((h : Nat) : Int) (pBc ((im : Nat) : Int)) ((j : Nat) : Int) = -(dR ((im : Nat) : Int) ((h : Nat) : Int) (pBc ((im : Nat) : Int)) ((j : Nat) : Int))) := by decide +kernel
theorem hbK : ∀ h : Fin 4, ∀ j : Fin 16, hbit ((j : Nat) : Int) ((h : Nat) : Int) = ((j.val / 2 ^ h.val % 2 : Nat) : Int) := by decide +kernel
def imF (n o : Nat) : Int := (i1 (((2 ^ n : Nat) : Int) - 1) &&& i1 (i1 (o : Int) ^^^ i1 (-1)).toInt).toInt
theorem imK : ∀ n : Fin 5, ∀ o : Fin 16, 0 ≤ imF n o ∧ imF n o ≤ ((2 ^ n.val : Nat) : Int) - 1 ∧ ∀ h : Fin 4, h.val < n.val → hbit ((o : Nat) : Int) ((h : Nat) : Int) = 0 → hbit (imF n o) ((h : Nat) : Int) = 1 := by decide +kernel
theorem ouK : ∀ n : Fin 5, ∀ j : Fin 16, 0 ≤ imF n j ∧ imF n j < 16 := by decide +kernel
def sm (f : Nat → Int) : Nat → Int
  | 0 => 0
  | k + 1 => sm f k + f k
theorem sm_z {f : Nat → Int} {k : Nat} : ∀ m : Nat, (∀ j : Nat, k ≤ j → j < k + m → f j = 0) → sm f (k + m) = sm f k := by
  intro m
  induction m with
  | zero => intro _; rfl
  | succ m ih =>
    intro h
    show sm f (k + m) + f (k + m) = _
    rw [ih (fun j h1 h2 => h j h1 (by omega)), h (k + m) (by omega) (by omega), Int.add_zero]
theorem sm_r {f : Nat → Int} {B : Int} : ∀ k : Nat, (∀ j : Nat, j < k → -B ≤ f j ∧ f j ≤ B) → -(B * (k : Int)) ≤ sm f k ∧ sm f k ≤ B * (k : Int) := by
  intro k
  induction k with
  | zero => intro _; simp [sm]
  | succ k ih =>
    intro h
    have h1 := ih (fun j hj => h j (by omega))
    have h2 := h k (by omega)
    have e : B * ((k + 1 : Nat) : Int) = B * (k : Int) + B := by rw [Int.natCast_add, Int.mul_add]; simp
    unfold sm
    rw [e]
    omega
theorem sh_sum {im : Nat} {h : Nat} (him : im < 16) (hh : h < 4) (hb : hbit (im : Int) (h : Int) = 1) (v : Nat → Int) : sm (fun j => v j * cC (im : Int) (h : Int) (pBc (im : Int)) (j : Int)) 16 = sm (fun j => (v (j + 2 ^ h) - v j) * dR (im : Int) (h : Int) (pBc (im : Int)) (j : Int)) 16 := by
  have q := shC ⟨im, him⟩ ⟨h, hh⟩ hb
  dsimp only at q
  generalize hcnt : pBc (im : Int) = cnt at *
  have hcs : h = 0 ∨ h = 1 ∨ h = 2 ∨ h = 3 := by omega
  have w0 : h = 0 → sm (fun j => v j * cC (im : Int) (h : Int) cnt (j : Int)) 16 = sm (fun j => (v (j + 2 ^ h) - v j) * dR (im : Int) (h : Int) cnt (j : Int)) 16 := by
    intro e
    subst e
    have p0 := (q ⟨0, by decide⟩).2 (by decide +kernel)
    have p1 := (q ⟨1, by decide⟩).1 (by decide +kernel)
    have p2 := (q ⟨2, by decide⟩).2 (by decide +kernel)
    have p3 := (q ⟨3, by decide⟩).1 (by decide +kernel)
    have p4 := (q ⟨4, by decide⟩).2 (by decide +kernel)
    have p5 := (q ⟨5, by decide⟩).1 (by decide +kernel)
    have p6 := (q ⟨6, by decide⟩).2 (by decide +kernel)
    have p7 := (q ⟨7, by decide⟩).1 (by decide +kernel)
    have p8 := (q ⟨8, by decide⟩).2 (by decide +kernel)
    have p9 := (q ⟨9, by decide⟩).1 (by decide +kernel)
    have p10 := (q ⟨10, by decide⟩).2 (by decide +kernel)
    have p11 := (q ⟨11, by decide⟩).1 (by decide +kernel)
    have p12 := (q ⟨12, by decide⟩).2 (by decide +kernel)
    have p13 := (q ⟨13, by decide⟩).1 (by decide +kernel)
    have p14 := (q ⟨14, by decide⟩).2 (by decide +kernel)
    have p15 := (q ⟨15, by decide⟩).1 (by decide +kernel)
    simp only [Nat.reduceSub, Nat.reducePow] at p0 p1 p2 p3 p4 p5 p6 p7 p8 p9 p10 p11 p12 p13 p14 p15
    simp only [sm, Nat.reduceAdd, Nat.reducePow]
    simp only [p0, p1, p2, p3, p4, p5, p6, p7, p8, p9, p10, p11, p12, p13, p14, p15, Int.mul_neg, Int.mul_zero, Int.sub_mul]
    omega
  have w1 : h = 1 → sm (fun j => v j * cC (im : Int) (h : Int) cnt (j : Int)) 16 = sm (fun j => (v (j + 2 ^ h) - v j) * dR (im : Int) (h : Int) cnt (j : Int)) 16 := by
    intro e
    subst e
    have p0 := (q ⟨0, by decide⟩).2 (by decide +kernel)
    have p1 := (q ⟨1, by decide⟩).2 (by decide +kernel)
    have p2 := (q ⟨2, by decide⟩).1 (by decide +kernel)
    have p3 := (q ⟨3, by decide⟩).1 (by decide +kernel)
    have p4 := (q ⟨4, by decide⟩).2 (by decide +kernel)
    have p5 := (q ⟨5, by decide⟩).2 (by decide +kernel)
    have p6 := (q ⟨6, by decide⟩).1 (by decide +kernel)
    have p7 := (q ⟨7, by decide⟩).1 (by decide +kernel)
    have p8 := (q ⟨8, by decide⟩).2 (by decide +kernel)
    have p9 := (q ⟨9, by decide⟩).2 (by decide +kernel)
    have p10 := (q ⟨10, by decide⟩).1 (by decide +kernel)
    have p11 := (q ⟨11, by decide⟩).1 (by decide +kernel)
    have p12 := (q ⟨12, by decide⟩).2 (by decide +kernel)
    have p13 := (q ⟨13, by decide⟩).2 (by decide +kernel)
    have p14 := (q ⟨14, by decide⟩).1 (by decide +kernel)
    have p15 := (q ⟨15, by decide⟩).1 (by decide +kernel)
    simp only [Nat.reduceSub, Nat.reducePow] at p0 p1 p2 p3 p4 p5 p6 p7 p8 p9 p10 p11 p12 p13 p14 p15
    simp only [sm, Nat.reduceAdd, Nat.reducePow]
    simp only [p0, p1, p2, p3, p4, p5, p6, p7, p8, p9, p10, p11, p12, p13, p14, p15, Int.mul_neg, Int.mul_zero, Int.sub_mul]
    omega
  have w2 : h = 2 → sm (fun j => v j * cC (im : Int) (h : Int) cnt (j : Int)) 16 = sm (fun j => (v (j + 2 ^ h) - v j) * dR (im : Int) (h : Int) cnt (j : Int)) 16 := by
    intro e
    subst e
    have p0 := (q ⟨0, by decide⟩).2 (by decide +kernel)
    have p1 := (q ⟨1, by decide⟩).2 (by decide +kernel)
    have p2 := (q ⟨2, by decide⟩).2 (by decide +kernel)
    have p3 := (q ⟨3, by decide⟩).2 (by decide +kernel)
    have p4 := (q ⟨4, by decide⟩).1 (by decide +kernel)
    have p5 := (q ⟨5, by decide⟩).1 (by decide +kernel)
    have p6 := (q ⟨6, by decide⟩).1 (by decide +kernel)
    have p7 := (q ⟨7, by decide⟩).1 (by decide +kernel)
    have p8 := (q ⟨8, by decide⟩).2 (by decide +kernel)
    have p9 := (q ⟨9, by decide⟩).2 (by decide +kernel)
    have p10 := (q ⟨10, by decide⟩).2 (by decide +kernel)
    have p11 := (q ⟨11, by decide⟩).2 (by decide +kernel)
    have p12 := (q ⟨12, by decide⟩).1 (by decide +kernel)
    have p13 := (q ⟨13, by decide⟩).1 (by decide +kernel)
    have p14 := (q ⟨14, by decide⟩).1 (by decide +kernel)
    have p15 := (q ⟨15, by decide⟩).1 (by decide +kernel)
    simp only [Nat.reduceSub, Nat.reducePow] at p0 p1 p2 p3 p4 p5 p6 p7 p8 p9 p10 p11 p12 p13 p14 p15
    simp only [sm, Nat.reduceAdd, Nat.reducePow]
    simp only [p0, p1, p2, p3, p4, p5, p6, p7, p8, p9, p10, p11, p12, p13, p14, p15, Int.mul_neg, Int.mul_zero, Int.sub_mul]
    omega
  have w3 : h = 3 → sm (fun j => v j * cC (im : Int) (h : Int) cnt (j : Int)) 16 = sm (fun j => (v (j + 2 ^ h) - v j) * dR (im : Int) (h : Int) cnt (j : Int)) 16 := by
    intro e
    subst e
    have p0 := (q ⟨0, by decide⟩).2 (by decide +kernel)
    have p1 := (q ⟨1, by decide⟩).2 (by decide +kernel)
    have p2 := (q ⟨2, by decide⟩).2 (by decide +kernel)
    have p3 := (q ⟨3, by decide⟩).2 (by decide +kernel)
    have p4 := (q ⟨4, by decide⟩).2 (by decide +kernel)
    have p5 := (q ⟨5, by decide⟩).2 (by decide +kernel)
    have p6 := (q ⟨6, by decide⟩).2 (by decide +kernel)
    have p7 := (q ⟨7, by decide⟩).2 (by decide +kernel)
    have p8 := (q ⟨8, by decide⟩).1 (by decide +kernel)
    have p9 := (q ⟨9, by decide⟩).1 (by decide +kernel)
    have p10 := (q ⟨10, by decide⟩).1 (by decide +kernel)
    have p11 := (q ⟨11, by decide⟩).1 (by decide +kernel)
    have p12 := (q ⟨12, by decide⟩).1 (by decide +kernel)
    have p13 := (q ⟨13, by decide⟩).1 (by decide +kernel)
    have p14 := (q ⟨14, by decide⟩).1 (by decide +kernel)
    have p15 := (q ⟨15, by decide⟩).1 (by decide +kernel)
    simp only [Nat.reduceSub, Nat.reducePow] at p0 p1 p2 p3 p4 p5 p6 p7 p8 p9 p10 p11 p12 p13 p14 p15
    simp only [sm, Nat.reduceAdd, Nat.reducePow]
    simp only [p0, p1, p2, p3, p4, p5, p6, p7, p8, p9, p10, p11, p12, p13, p14, p15, Int.mul_neg, Int.mul_zero, Int.sub_mul]
    omega
  rcases hcs with hc | hc | hc | hc
  · exact w0 hc
  · exact w1 hc
  · exact w2 hc
  · exact w3 hc
