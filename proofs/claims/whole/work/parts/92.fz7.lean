/-! floats, 11: FLT and FLT2 -/
theorem Bt_X {b : Int} (lo hi : Nat) (hlo : lo ≤ 150) (hhi : hi ≤ 150) (h0 : 8388608 ≤ b) (h1 : (lo : Int) * 8388608 + 8388608 ≤ b) (h2 : b ≤ (hi : Int) * 8388608 + 8388608) : ∃ (c k : Nat) (X : Int), MX b false c k ∧ X = ((c * 2 ^ k : Nat) : Int) ∧ MV b X ∧ ((8388608 * 2 ^ lo : Nat) : Int) ≤ X ∧ X ≤ ((8388608 * 2 ^ hi : Nat) : Int) := by
  obtain ⟨c, k, hM⟩ := bits_MX (b := b) ⟨h0, by omega⟩
  have hV : MV b ((c * 2 ^ k : Nat) : Int) := MX_MV hM (by rw [sg_mul, sg_f])
  refine ⟨c, k, _, hM, rfl, hV, ?_, ?_⟩
  · have m1 := MV_mono hV (MVp lo (by omega)) (by omega) (by omega)
    have : ¬ ((c * 2 ^ k : Nat) : Int) < ((8388608 * 2 ^ lo : Nat) : Int) := by
      rw [← m1]
      omega
    exact Int.not_lt.mp this
  · have m1 := MV_mono (MVp hi (by omega)) hV (by omega) (by omega)
    have : ¬ ((8388608 * 2 ^ hi : Nat) : Int) < ((c * 2 ^ k : Nat) : Int) := by
      rw [← m1]
      omega
    exact Int.not_lt.mp this
theorem Rt_X {m b : Int} (h : RtOK m b) (h2 : m ≤ 25) (hb : b ≠ 0) : ∃ (c k : Nat) (X : Int), MX b false c k ∧ X = ((c * 2 ^ k : Nat) : Int) ∧ MV b X ∧ 2 ^ 133 ≤ X ∧ X ≤ 2 ^ 149 := by
  have h3 := h.resolve_left hb
  obtain ⟨c, k, X, a1, a2, a3, a4, a5⟩ := Bt_X (b := b) 110 126 (by omega) (by omega) (by omega) (by omega) (by omega)
  exact ⟨c, k, X, a1, a2, a3, by omega, by omega⟩
theorem Ln_X {b : Int} (h : LnOK b) : ∃ (c k : Nat) (X : Int), MX b false c k ∧ X = ((c * 2 ^ k : Nat) : Int) ∧ MV b X ∧ 2 ^ 148 ≤ X ∧ X ≤ 2 ^ 156 := by
  obtain ⟨h1, h2⟩ := h
  obtain ⟨c, k, X, a1, a2, a3, a4, a5⟩ := Bt_X (b := b) 125 133 (by omega) (by omega) (by omega) (by omega) (by omega)
  exact ⟨c, k, X, a1, a2, a3, by omega, by omega⟩
theorem X_mul {c k : Nat} (h2 : c < 16777216) (h : 2 ^ 148 ≤ c * 2 ^ k) : ∃ t : Nat, c * 2 ^ k = t * 2 ^ 125 := by
  have hp := Nat.two_pow_pos k
  have a1 : c * 2 ^ k < 16777216 * 2 ^ k := Nat.mul_lt_mul_of_pos_right h2 hp
  have b1 : 2 ^ 148 < 2 ^ (24 + k) := by
    rw [Nat.pow_add]
    omega
  have d1 := (Nat.pow_lt_pow_iff_right (by decide)).mp b1
  refine ⟨c * 2 ^ (k - 125), ?_⟩
  rw [Nat.mul_assoc, ← Nat.pow_add, show k - 125 + 125 = k by omega]
theorem bX_win {X : Int} (g h : Nat) (hg : g ≤ 150) (hh : h ≤ 150) (h1 : ((8388608 * 2 ^ g : Nat) : Int) ≤ X) (h2 : X ≤ ((8388608 * 2 ^ h : Nat) : Int)) : (g : Int) * 8388608 + 8388608 ≤ bX X ∧ bX X ≤ (h : Int) * 8388608 + 8388608 := by
  have p1 := Nat.two_pow_pos g
  have p2 : 2 ^ h ≤ 2 ^ 150 := Nat.pow_le_pow_right (by decide) hh
  have hr : RGz X := .inr ⟨by omega, by omega⟩
  have hn := (bX_nn hr (by omega)).2.2 (by omega)
  have b1 := mx_lo (N := X.natAbs) g (by omega)
  have b2 := mx_hi (N := X.natAbs) h (by omega) (by omega)
  rw [hn]
  omega
theorem mx3 (c k : Nat) (h1 : 8388608 ≤ c) (h2 : c < 16777216) (hk : 2 ≤ k) : k * 8388608 + c ≤ mx (3 * c * 2 ^ (k - 2)) + 4194304 ∧ mx (3 * c * 2 ^ (k - 2)) ≤ k * 8388608 + c := by
  have hp := Nat.two_pow_pos (k - 2)
  by_cases h3 : 3 * c < 33554432
  · have hl := fz_lgm (3 * c) 24 (k - 2) (by omega) (by omega)
    have hn : FP.Core.nearest (3 * c * 2 ^ (k - 2)) (2 ^ (k - 1)) = FP.Core.nearest (3 * c) 2 := by
      have e : 2 ^ (k - 1) = 2 * 2 ^ (k - 2) := by
        have := Nat.pow_add 2 1 (k - 2)
        rw [show 1 + (k - 2) = k - 1 by omega] at this
        exact this
      rw [e]
      exact fz_sc _ _ _ hp
    have er := fz_er (3 * c) 2 (by decide)
    unfold mx
    rw [hl, show 24 + (k - 2) - 23 = k - 1 by omega, hn]
    generalize FP.Core.nearest (3 * c) 2 = n at er ⊢
    omega
  · have hl := fz_lgm (3 * c) 25 (k - 2) (by omega) (by omega)
    have hn : FP.Core.nearest (3 * c * 2 ^ (k - 2)) (2 ^ k) = FP.Core.nearest (3 * c) 4 := by
      have e : 2 ^ k = 4 * 2 ^ (k - 2) := by
        have := Nat.pow_add 2 2 (k - 2)
        rw [show 2 + (k - 2) = k by omega] at this
        exact this
      rw [e]
      exact fz_sc _ _ _ hp
    have er := fz_er (3 * c) 4 (by decide)
    unfold mx
    rw [hl, show 25 + (k - 2) - 23 = k by omega, hn]
    generalize FP.Core.nearest (3 * c) 4 = n at er ⊢
    omega
theorem Rt_k {c k : Nat} {X : Int} (h1 : 8388608 ≤ c) (h2 : c < 16777216) (hX : X = ((c * 2 ^ k : Nat) : Int)) (hw : 2 ^ 133 ≤ X) (hw2 : X ≤ 2 ^ 156) : 99 ≤ k ∧ k ≤ 133 := MX_w (s := false) (X := X) h1 h2 (by rw [sg_f, hX]) ⟨by omega, by omega⟩
theorem tw_r0 {m b : Int} (h : RtOK m b) (h1 : -3 ≤ m) (h2 : m ≤ 24) : TWOK b 0 ∧ FG b 0 ∧ RtOK (m + 1) (twF b 0) := by
  by_cases hb : b = 0
  · subst hb
    have z0 : MV 0 0 := .inl ⟨rfl, rfl⟩
    have zz : (0 : Int) * ((2 ^ 149 : Nat) : Int) + -0 = 0 := by omega
    have hz : bX ((0 : Int) * ((2 ^ 149 : Nat) : Int) + -0) = 0 := by
      rw [zz]
      rfl
    have hb0 : bX 0 = 0 := rfl
    have := tw_all (b := 0) (v := 0) (X := 0) (D := 0) (E := 0) z0 (by omega) (by omega) (.inl rfl) (by rw [zz]; exact .inl rfl) (by rw [hz]; exact z0) (by omega) (by rw [hb0]; exact z0) (.inl rfl) (.inl rfl) (by omega)
    refine ⟨this.2.1, this.2.2, .inl ?_⟩
    rw [this.1]
    rfl
  · obtain ⟨c, k, X, hM, hX, hV, r1, r2⟩ := Rt_X h (by omega) hb
    have h3 := h.resolve_left hb
    have c1 := hM.1
    have c2 := hM.2.1
    have hbx := hM.2.2.2
    simp only [Bool.false_eq_true, if_false] at hbx
    have hk := Rt_k c1 c2 hX r1 (by omega)
    have hMt : MX ((k : Int) * 8388608 + c - (if true = true then 2147483648 else 0)) true c k := ⟨c1, c2, by omega, rfl⟩
    have hD := MX_sh hMt k (by omega)
    have hE := MX_sh hMt (k - 2) (by omega)
    obtain ⟨w, hw⟩ : ∃ w : Nat, w = c * 2 ^ (k - 2) := ⟨_, rfl⟩
    have hXw : c * 2 ^ k = 4 * w := by
      have := Nat.pow_add 2 (k - 2) 2
      rw [show k - 2 + 2 = k by omega] at this
      rw [hw, this, ← Nat.mul_assoc]
      omega
    have hDw : FP.Core.signed true c * ((2 ^ k : Nat) : Int) = -X := by rw [sg_mul, sg_t, hX]
    have hEw : FP.Core.signed true c * ((2 ^ (k - 2) : Nat) : Int) = -(w : Int) := by rw [sg_mul, sg_t, hw]
    rw [hDw] at hD
    rw [hEw] at hE
    have zz : (0 : Int) * ((2 ^ 149 : Nat) : Int) + -X = -X := by omega
    have := tw_all (b := b) (v := 0) (X := X) (D := -X) (E := -(w : Int)) hV (by omega) (by omega) (.inr ⟨by omega, by omega⟩) (by rw [zz]; exact .inr ⟨by omega, by omega⟩) (by rw [zz]; exact hD) (by omega) hE (.inr ⟨by omega, by omega⟩) (.inr ⟨by omega, by omega⟩) (by omega)
    refine ⟨this.2.1, this.2.2, .inr ?_⟩
    rw [this.1]
    have hr : RGz (X + -(w : Int)) := .inr ⟨by omega, by omega⟩
    have hn := (bX_nn hr (by omega)).2.2 (by omega)
    have e3 : (X + -(w : Int)).natAbs = 3 * c * 2 ^ (k - 2) := by
      rw [Nat.mul_assoc, ← hw]
      omega
    have m3 := mx3 c k c1 c2 (by omega)
    rw [hn, e3]
    omega
theorem tw_r1 {m b : Int} (h : RtOK m b) (h1 : -3 ≤ m) (h2 : m ≤ 24) : TWOK b 1 ∧ FG b 1 ∧ RtOK (-3) (twF b 1) := by
  by_cases hb : b = 0
  · subst hb
    have z0 : MV 0 0 := .inl ⟨rfl, rfl⟩
    have zz : (1 : Int) * ((2 ^ 149 : Nat) : Int) + -0 = ((1 : Nat) : Int) * ((2 ^ 149 : Nat) : Int) := by omega
    have hD := MV_ex 1 149 (by omega) (by omega) (by omega) (by omega)
    have hE := MV_ex 1 147 (by omega) (by omega) (by omega) (by omega)
    have := tw_all (b := 0) (v := 1) (X := 0) (D := ((1 : Nat) : Int) * ((2 ^ 149 : Nat) : Int)) (E := ((1 : Nat) : Int) * ((2 ^ 147 : Nat) : Int)) z0 (by omega) (by omega) (.inl rfl) (by rw [zz]; exact .inr ⟨by omega, by omega⟩) (by rw [zz]; exact hD) (by omega) hE (.inr ⟨by omega, by omega⟩) (.inr ⟨by omega, by omega⟩) (by omega)
    have hw := bX_win (X := 0 + ((1 : Nat) : Int) * ((2 ^ 147 : Nat) : Int)) 124 126 (by omega) (by omega) (by omega) (by omega)
    refine ⟨this.2.1, this.2.2, .inr ?_⟩
    rw [this.1]
    omega
  · obtain ⟨c, k, X, hM, hX, hV, r1, r2⟩ := Rt_X h (by omega) hb
    have h3 := h.resolve_left hb
    have hz : (1 : Int) * ((2 ^ 149 : Nat) : Int) + -X = 0 ∨ 2 ^ 125 ≤ ((1 : Int) * ((2 ^ 149 : Nat) : Int) + -X).natAbs := by
      by_cases hx : 2 ^ 148 ≤ X
      · obtain ⟨t, ht⟩ := X_mul (c := c) (k := k) hM.2.1 (by omega)
        omega
      · omega
    obtain ⟨D, E, h4, d1, d2, _, t1, t2, t3⟩ := tw_D hV (by omega) (by omega) (.inr ⟨by omega, by omega⟩) hz (.inl (by omega))
    have hw := bX_win (X := X + E) 124 126 (by omega) (by omega) (by omega) (by omega)
    refine ⟨t2, t3, .inr ?_⟩
    rw [t1]
    omega
theorem tw_ln {b v : Int} (h : LnOK b) (hv : 1 ≤ v ∧ v ≤ 79) : TWOK b v ∧ FG b v ∧ LnOK (twF b v) := by
  obtain ⟨c, k, X, hM, hX, hV, r1, r2⟩ := Ln_X h
  have hz : v * ((2 ^ 149 : Nat) : Int) + -X = 0 ∨ 2 ^ 125 ≤ (v * ((2 ^ 149 : Nat) : Int) + -X).natAbs := by
    obtain ⟨t, ht⟩ := X_mul (c := c) (k := k) hM.2.1 (by omega)
    omega
  obtain ⟨b1, b2⟩ := h
  obtain ⟨D, E, h4, d1, d2, _, t1, t2, t3⟩ := tw_D hV (by omega) (by omega) (.inr ⟨by omega, by omega⟩) hz (.inl (by omega))
  have hw := bX_win (X := X + E) 125 133 (by omega) (by omega) (by omega) (by omega)
  refine ⟨t2, t3, ?_⟩
  rw [t1]
  constructor <;> omega
theorem cv_l (a b : Int) : (0 < (Op.cmpValue (some (compare a b)) .l).toInt) = (b < a) := by
  apply propext
  rcases Int.lt_trichotomy a b with h | h | h
  · have e : compare a b = .lt := by simp only [compare, compareOfLessAndEq, if_pos h]
    have e2 : ¬ 0 < (Op.cmpValue (some .lt) .l).toInt := by decide
    rw [e]
    exact ⟨fun h2 => absurd h2 e2, fun h2 => absurd h2 (by omega)⟩
  · have e : compare a b = .eq := by
      simp only [compare, compareOfLessAndEq]
      rw [if_neg (by omega), if_pos h]
    have e2 : ¬ 0 < (Op.cmpValue (some .eq) .l).toInt := by decide
    rw [e]
    exact ⟨fun h2 => absurd h2 e2, fun h2 => absurd h2 (by omega)⟩
  · have e : compare a b = .gt := by
      simp only [compare, compareOfLessAndEq]
      rw [if_neg (by omega), if_neg (by omega)]
    have e2 : 0 < (Op.cmpValue (some .gt) .l).toInt := by decide
    rw [e]
    exact ⟨fun _ => h, fun _ => e2⟩
theorem mul_k {t b X : Int} {c k : Nat} (hM : MX b false c k) (hX : X = ((c * 2 ^ k : Nat) : Int)) (hV : MV b X) (r1 : 2 ^ 133 ≤ X) (r2 : X ≤ 2 ^ 156) (ht : t = 1 ∨ t = 2) : FP.fmul (FP.i2f (i1 t)) (fu b) = fu (bX ((c : Int) * t * ((2 ^ k : Nat) : Int))) ∧ MV (bX ((c : Int) * t * ((2 ^ k : Nat) : Int))) ((c : Int) * t * ((2 ^ k : Nat) : Int)) ∧ (c : Int) * t * ((2 ^ k : Nat) : Int) = t * X := by
  have hk := Rt_k hM.1 hM.2.1 hX r1 r2
  have e0 : (c : Int) * t * ((2 ^ k : Nat) : Int) = t * X := by
    rw [hX, Int.natCast_mul, Int.mul_comm (c : Int) t, Int.mul_assoc]
  rw [e0]
  refine ⟨?_, ?_, rfl⟩
  · rcases ht with h | h
    · subst h
      refine fz_mulp (k0 := 126) (by decide +kernel) hV (by omega) (.inr (by omega)) ?_ (.inr ⟨by omega, by omega⟩)
      omega
    · subst h
      refine fz_mulp (k0 := 127) (by decide +kernel) hV (by omega) (.inr (by omega)) ?_ (.inr ⟨by omega, by omega⟩)
      omega
  · rcases ht with h | h
    · have h1 := MX_sh hM k (by omega)
      rw [sg_mul, sg_f, ← hX] at h1
      rw [h, Int.one_mul]
      exact h1
    · have h1 := MX_sh hM (k + 1) (by omega)
      rw [sg_mul, sg_f, Nat.pow_succ, ← Nat.mul_assoc, Int.natCast_mul, ← hX, Int.mul_comm] at h1
      rw [h]
      exact h1
theorem is_ok {v t b : Int} (h : LnOK b) (hv : 0 ≤ v ∧ v ≤ 79) (ht : t = 1 ∨ t = 2) : ISOK v t b := by
  obtain ⟨c, k, X, hM, hX, hV, r1, r2⟩ := Ln_X h
  obtain ⟨b1, b2⟩ := h
  have hk1 := Rt_k hM.1 hM.2.1 hX (by omega) r2
  obtain ⟨e1, e2, e3⟩ := mul_k hM hX hV (by omega) r2 ht
  intro tb F R hk
  apply r116 hM hv ht hk1
  have hc := fz_cmp (MV_vU hv) e2
  have p1 : 0 ≤ bX ((c : Int) * t * ((2 ^ k : Nat) : Int)) := by
    rw [e3]
    refine (bX_nn (X := t * X) ?_ ?_).1
    · rcases ht with h | h
      · subst h
        exact .inr ⟨by omega, by omega⟩
      · subst h
        exact .inr ⟨by omega, by omega⟩
    · rcases ht with h | h
      · subst h
        omega
      · subst h
        omega
  have p2 : 0 ≤ bX (v * ((2 ^ 149 : Nat) : Int)) := by
    refine (bX_nn (X := v * ((2 ^ 149 : Nat) : Int)) ?_ (by omega)).1
    by_cases h0 : v = 0
    · left
      omega
    · exact .inr ⟨by omega, by omega⟩
  have hm := MV_mono e2 (MV_vU hv) p1 p2
  have hi : isF v t b = decide ((c : Int) * t * ((2 ^ k : Nat) : Int) < v * ((2 ^ 149 : Nat) : Int)) := by
    unfold isF
    rw [f1_fu ⟨by omega, by omega⟩, e1, fz_i2f hv, hc]
    simp only [cv_l]
  rw [hi] at hk
  simp only [hm]
  by_cases hc2 : (c : Int) * t * ((2 ^ k : Nat) : Int) < v * ((2 ^ 149 : Nat) : Int)
  · have hv0 : 0 < v := by
      rw [e3] at hc2
      rcases ht with h | h
      · subst h
        omega
      · subst h
        omega
    rw [if_pos ⟨hv0, hc2⟩]
    rw [decide_eq_true hc2] at hk
    exact hk
  · rw [if_neg (fun h => hc2 h.2)]
    rw [decide_eq_false hc2] at hk
    exact hk
theorem FLT_ok : FLT := by
  refine ⟨?_, ?_, ?_⟩
  · intro m b v h h1 h2 hv
    rcases hv with hv | hv
    · subst hv
      have := tw_r0 h h1 h2
      exact ⟨this.1, this.2.2⟩
    · subst hv
      have := tw_r1 h h1 h2
      exact ⟨this.1, this.2.2⟩
  · intro b v h h1 h2
    have := tw_ln h ⟨h1, h2⟩
    exact ⟨this.1, this.2.2⟩
  · intro v k b h h1 h2 hk
    exact is_ok h ⟨h1, h2⟩ hk
theorem FLT2_ok : FLT2 := by
  refine ⟨?_, ?_, ?_, ?_⟩
  · intro m b v h h1 h2 hv
    rcases hv with hv | hv
    · subst hv
      exact (tw_r0 h h1 h2).2.1
    · subst hv
      exact (tw_r1 h h1 h2).2.1
  · intro m b h h1 h2
    have hV : ∃ X, MV b X ∧ 0 ≤ b ∧ b < 2147483648 := by
      by_cases hb : b = 0
      · exact ⟨0, .inl ⟨rfl, hb⟩, by omega, by omega⟩
      · obtain ⟨c, k, X, hM, hX, hV, r1, r2⟩ := Rt_X h h2 hb
        have h3 := h.resolve_left hb
        exact ⟨X, hV, by omega, by omega⟩
    obtain ⟨X, hV, b0, b1⟩ := hV
    have hH := MVp 125 (by omega)
    rw [show ((125 : Nat) : Int) * 8388608 + 8388608 = 1056964608 by decide] at hH
    have hm := MV_mono hH hV (by omega) b0
    unfold FHalf
    rw [f1_fu ⟨b0, b1⟩, f1_fu (b := 1056964608) ⟨by omega, by omega⟩, fz_cmp hV hH, cv_l, hm]
  · intro b v h h1 h2
    exact (tw_ln h ⟨h1, h2⟩).2.1
  · intro k b h hk
    obtain ⟨c, j, X, hM, hX, hV, r1, r2⟩ := Ln_X h
    obtain ⟨b1, b2⟩ := h
    obtain ⟨e1, e2, e3⟩ := mul_k hM hX hV (by omega) r2 hk
    rw [f1_fu ⟨by omega, by omega⟩, e1]
    exact vf_fu e2
