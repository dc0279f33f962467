/-! more rewrites: arraycopy, small numbers, tables -/
theorem vup_ap (f : Nat → Nat → Int) (c : Nat) (g : Nat → Int) (c2 j : Nat) : va_up f c g c2 j = if c2 = c then g j else f c2 j := by
  unfold va_up
  by_cases h : c2 = c
  · rw [if_pos h, if_pos h]
  · rw [if_neg h, if_neg h]
theorem vcpy_ap (f g : Nat → Int) (sp dp n k : Nat) : va_cpy f g sp dp n k = if dp ≤ k ∧ k < dp + n then f (sp + (k - dp)) else g k := rfl
theorem y_cpyC (tb : qTb) (y : Nat) (lim : Nat × Nat) (R : Option qV → qM → Prop) (pc : Nat) (len : Nat) (a b : Nat) (ls : List qV) (F : Nat → Nat → Int) (i : Nat) (n dp y0 sp x : Int) (r : List qV) (hx : 0 ≤ x) (hn : 0 ≤ n) (hd : 0 ≤ dp) (hs : 0 ≤ sp) (h1 : sp + n ≤ qln 1 LAY x) (hy : 0 ≤ y0) (h2 : dp + n ≤ qln 1 LAY y0) (hx1 : qrk LAY x = 1) (hy1 : qrk LAY y0 = 1) (hxl : x < 119) (hyl : y0 < 119) : qy tb y lim R (pc, .invokestatic i, len, a, b, 7) ls ((0, n) :: (0, dp) :: (3, y0) :: (0, sp) :: (3, x) :: r) (LAY, F) = (qcats r ≤ 8 ∧ qW tb y lim (pc + len) ls r (LAY, va_up F y0.toNat (va_cpy (F x.toNat) (F y0.toNat) sp.toNat dp.toNat n.toNat)) R) := by
  unfold qy qstp
  dsimp only
  unfold qinv
  rw [if_pos rfl]
  unfold qcpy
  dsimp only
  rw [if_neg (by omega)]
  unfold qnx qgo
  dsimp only
  have e1 : x.toNat < LAY.length := by rw [lay_len]; omega
  have e2 : y0.toNat < LAY.length := by rw [lay_len]; omega
  simp [hx, hn, hd, hs, h1, hy, h2, hx1, hy1, e1, e2]
theorem y_cpyT (tb : qTb) (y : Nat) (lim : Nat × Nat) (R : Option qV → qM → Prop) (pc : Nat) (len : Nat) (a b : Nat) (ls : List qV) (F : Nat → Nat → Int) (i : Nat) (n dp y0 sp : Int) (r : List qV) (hn : 0 ≤ n) (hd : 0 ≤ dp) (hs : 0 ≤ sp) (h1 : sp + n ≤ ((tb 0).1 : Int)) (hy : 0 ≤ y0) (h2 : dp + n ≤ qln 1 LAY y0) (hy1 : qrk LAY y0 = 1) (hyl : y0 < 119) : qy tb y lim R (pc, .invokestatic i, len, a, b, 7) ls ((0, n) :: (0, dp) :: (3, y0) :: (0, sp) :: (3, -2) :: r) (LAY, F) = (qcats r ≤ 8 ∧ qW tb y lim (pc + len) ls r (LAY, va_up F y0.toNat (va_cpy (tb 0).2 (F y0.toNat) sp.toNat dp.toNat n.toNat)) R) := by
  unfold qy qstp
  dsimp only
  unfold qinv
  rw [if_pos rfl]
  unfold qcpy
  dsimp only
  rw [if_pos (by omega)]
  unfold qnx qgo
  dsimp only
  have e2 : y0.toNat < LAY.length := by rw [lay_len]; omega
  have e3 : (-(-2) - 2 : Int).toNat = 0 := rfl
  rw [e3]
  simp [hn, hd, hs, h1, hy, h2, hy1, e2]
theorem rkK : qrk LAY 1 = 1 ∧ qrk LAY 4 = 1 ∧ qrk LAY 5 = 1 ∧ qrk LAY 6 = 1 ∧ qrk LAY 7 = 1 ∧ qrk LAY 8 = 1 ∧ qrk LAY 9 = 1 ∧ qrk LAY 10 = 1 ∧ qrk LAY 11 = 1 ∧ qrk LAY 12 = 1 ∧ qrk LAY 14 = 1 ∧ qrk LAY 15 = 1 ∧ qrk LAY 16 = 1 ∧ qrk LAY 17 = 1 ∧ qrk LAY 18 = 1 ∧ qrk LAY 19 = 1 ∧ qrk LAY 20 = 1 ∧ qrk LAY 21 = 1 ∧ qrk LAY 22 = 1 ∧ qrk LAY 24 = 1 ∧ qrk LAY 26 = 1 ∧ qrk LAY 28 = 1 ∧ qrk LAY 29 = 1 ∧ qrk LAY 31 = 1 ∧ qrk LAY 32 = 1 ∧ qrk LAY 37 = 1 ∧ qrk LAY 38 = 1 ∧ qrk LAY 39 = 1 ∧ qrk LAY 40 = 1 ∧ qrk LAY 41 = 1 ∧ qrk LAY 43 = 1 ∧ qrk LAY 46 = 1 ∧ qrk LAY 47 = 1 ∧ qrk LAY 48 = 1 ∧ qrk LAY 51 = 1 ∧ qrk LAY 52 = 1 ∧ qrk LAY 53 = 1 ∧ qrk LAY 56 = 1 ∧ qrk LAY 57 = 1 ∧ qrk LAY 58 = 1 ∧ qrk LAY 61 = 1 ∧ qrk LAY 62 = 1 ∧ qrk LAY 63 = 1 ∧ qrk LAY 64 = 1 ∧ qrk LAY 66 = 1 ∧ qrk LAY 68 = 1 := by decide +kernel
theorem wK : w32 (0) = 0 ∧ w32 (1) = 1 ∧ w32 (2) = 2 ∧ w32 (3) = 3 ∧ w32 (4) = 4 ∧ w32 (5) = 5 ∧ w32 (6) = 6 ∧ w32 (7) = 7 ∧ w32 (8) = 8 ∧ w32 (9) = 9 ∧ w32 (10) = 10 ∧ w32 (11) = 11 ∧ w32 (12) = 12 ∧ w32 (13) = 13 ∧ w32 (14) = 14 ∧ w32 (15) = 15 ∧ w32 (16) = 16 ∧ w32 (-1) = -1 := by decide +kernel
theorem qtK0 (L : Nat) (xs : Nat → Int) : qtab L xs 0 = (5, fun j => ([2, 2, 0, 1, 0] : List Int).getD j 0) := rfl
theorem qtK1 (L : Nat) (xs : Nat → Int) : qtab L xs 1 = (5, fun j => ([1, 0, 0, 0, 0] : List Int).getD j 0) := rfl
theorem qtK2 (L : Nat) (xs : Nat → Int) : qtab L xs 2 = (5, fun j => ([4, 8, 2, 3, 2] : List Int).getD j 0) := rfl
theorem qtK3 (L : Nat) (xs : Nat → Int) : qtab L xs 3 = (5, fun j => ([1, 1, 2, 6, 24] : List Int).getD j 0) := rfl
theorem qtK4 (L : Nat) (xs : Nat → Int) : qtab L xs 4 = (5, fun j => ([1, 10000, 100000000, 1000000000000, 10000000000000000] : List Int).getD j 0) := rfl
theorem rfK : (-2 - ((0 : Nat) : Int) = -2) ∧ (-2 - ((1 : Nat) : Int) = -3) ∧ (-2 - ((2 : Nat) : Int) = -4) ∧ (-2 - ((3 : Nat) : Int) = -5) ∧ (-2 - ((4 : Nat) : Int) = -6) ∧ (((5 : Nat) : Int) = 5) := by decide
theorem lc_lt (x y : Int) : ((if y < x then (1 : Int) else if x = y then 0 else -1) < 0) = (x < y) := by
  apply propext
  by_cases h1 : y < x
  · rw [if_pos h1]; omega
  · rw [if_neg h1]
    by_cases h2 : x = y
    · rw [if_pos h2]; omega
    · rw [if_neg h2]; omega
theorem lc_gt (x y : Int) : (0 < (if y < x then (1 : Int) else if x = y then 0 else -1)) = (y < x) := by
  apply propext
  by_cases h1 : y < x
  · rw [if_pos h1]; omega
  · rw [if_neg h1]
    by_cases h2 : x = y
    · rw [if_pos h2]; omega
    · rw [if_neg h2]; omega
theorem lc_eq (x y : Int) : ((if y < x then (1 : Int) else if x = y then 0 else -1) = 0) = (x = y) := by
  apply propext
  by_cases h1 : y < x
  · rw [if_pos h1]; omega
  · rw [if_neg h1]
    by_cases h2 : x = y
    · rw [if_pos h2]; omega
    · rw [if_neg h2]; omega
/-- the doings, when one more is done -/
theorem RO_push {F G : Nat → Nat → Int} (hO : RO F) (hP : RP F) (w : Nat) (hw : w < 6)
    (h1 : G 27 0 = if F 27 0 < 14 then F 27 0 + 1 else 14)
    (h2 : G 69 31 = G 27 0) (h3 : G 69 32 = if F 69 32 = 13 then 0 else F 69 32 + 1)
    (h4 : ∀ i : Nat, (i : Int) < G 27 0 - 1 → G 28 i = F 28 (if F 27 0 < 14 then i else i + 1) ∧ G 29 i = F 29 (if F 27 0 < 14 then i else i + 1))
    (h5 : G 28 (G 27 0 - 1).toNat = w ∧ G 29 (G 27 0 - 1).toNat = F 89 w)
    (h6 : ∀ r k : Nat, r < 14 → k < 6 → G 91 (6 * r + k) = if (r : Int) = F 69 32 then F 89 k else F 91 (6 * r + k))
    (h7 : ∀ k : Nat, k < 6 → k ≠ w → G 89 k = F 89 k) : RO G := by
  obtain ⟨⟨o1, o2, o3⟩, ⟨o4, o5⟩, o6⟩ := hO
  obtain ⟨p1, p2, p3⟩ := hP
  have hg : 1 ≤ G 27 0 ∧ G 27 0 ≤ 14 := by rw [h1]; split <;> omega
  -- a row of G below its last is a row of F
  have hrow : ∀ i k : Nat, (i : Int) < G 27 0 → k < 6 → drow G i k = drow F (if F 27 0 < 14 then i else i + 1) k := by
    intro i k hi hk
    unfold drow
    rw [if_neg (by omega)]
    have e : (G 69 32 + 14 - (G 27 0 - (i : Int))) % 14 = if F 27 0 < 14 then (F 69 32 + 14 - (F 27 0 - (i : Int))) % 14 else (F 69 32 + 1 + (i : Int)) % 14 := by
      rw [h3, h1]
      split <;> split <;> omega
    have hb : 0 ≤ (G 69 32 + 14 - (G 27 0 - (i : Int))) % 14 ∧ (G 69 32 + 14 - (G 27 0 - (i : Int))) % 14 < 14 := ⟨Int.emod_nonneg _ (by decide), Int.emod_lt_of_pos _ (by decide)⟩
    rw [h6 _ k (by omega) hk]
    by_cases hn : F 27 0 < 14
    · rw [if_pos hn] at e
      rw [if_pos hn]
      by_cases hl : (i : Int) = F 27 0
      · rw [if_pos hl, if_pos (by rw [e]; omega)]
      · rw [if_neg hl, if_neg (by rw [e]; rw [h1, if_pos hn] at hi; omega), e]
    · rw [if_neg hn] at e
      rw [if_neg hn]
      rw [h1, if_neg hn] at hi
      by_cases hl : ((i + 1 : Nat) : Int) = F 27 0
      · rw [if_pos hl, if_pos (by rw [e]; omega)]
      · rw [if_neg hl, if_neg (by rw [e]; omega), e]
        have e2 : (F 69 32 + 14 - (F 27 0 - ((i + 1 : Nat) : Int))) % 14 = (F 69 32 + 1 + (i : Int)) % 14 := by omega
        rw [e2]
  have hlast : ∀ k : Nat, drow G (G 27 0).toNat k = G 89 k := by
    intro k
    unfold drow
    rw [if_pos (by omega)]
  have hcur : ∀ k : Nat, drow F (F 27 0).toNat k = F 89 k := by
    intro k
    unfold drow
    rw [if_pos (by omega)]
  refine ⟨⟨h2, by omega, by omega⟩, ⟨by rw [h3]; split <;> omega, by rw [h3]; split <;> omega⟩, ?_⟩
  intro i hi
  have hPBF : PB (F 89) (F 89 5) := by
    unfold PB at p1 ⊢
    rw [p3, p2 0 (by decide), p2 1 (by decide), p2 2 (by decide), p2 3 (by decide), p2 4 (by decide)]
    exact p1
  have hPBrow : PB (drow G i) (drow G i 5) := by
    have q := fun k hk => hrow i k hi hk
    unfold PB
    rw [q 0 (by decide), q 1 (by decide), q 2 (by decide), q 3 (by decide), q 4 (by decide), q 5 (by decide)]
    show PB (drow F _) (drow F _ 5)
    by_cases hl : (((if F 27 0 < 14 then i else i + 1 : Nat)) : Int) = F 27 0
    · have : (if F 27 0 < 14 then i else i + 1) = (F 27 0).toNat := by omega
      rw [this]
      unfold PB
      rw [hcur, hcur, hcur, hcur, hcur, hcur]
      exact hPBF
    · refine (o6 _ ?_).2.1
      by_cases hn : F 27 0 < 14
      · rw [if_pos hn] at hl h1 ⊢; omega
      · rw [if_neg hn] at hl h1 ⊢; omega
  by_cases hl : (i : Int) = G 27 0 - 1
  · have ei : (G 27 0 - 1).toNat = i := by omega
    rw [ei] at h5
    refine ⟨by omega, hPBrow, ?_⟩
    intro k hk
    rw [hrow i k hi hk, h5.1, h5.2]
    have e1 : (if F 27 0 < 14 then i else i + 1) = (F 27 0).toNat := by
      rw [h1] at hl
      split at hl <;> split <;> omega
    have e2 : i + 1 = (G 27 0).toNat := by omega
    rw [e1, e2, hlast, hcur]
    by_cases hkw : k = w
    · rw [hkw, if_pos rfl]
    · rw [if_neg (by omega), h7 k hk hkw]
  · have hi2 : (i : Int) < G 27 0 - 1 := by omega
    have q := h4 i hi2
    have hold := o6 (if F 27 0 < 14 then i else i + 1) (by rw [h1] at hi2; split at hi2 <;> split <;> omega)
    rw [q.1, q.2]
    refine ⟨hold.1, hPBrow, ?_⟩
    intro k hk
    rw [hrow i k hi hk, hrow (i + 1) k (by omega) hk, hold.2.2 k hk]
    have e3 : (if F 27 0 < 14 then i else i + 1) + 1 = (if F 27 0 < 14 then i + 1 else i + 1 + 1) := by split <;> rfl
    rw [e3]
