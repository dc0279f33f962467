/-! the class's run: its cells and what they stand for -/
def hO (h : Nat) : Nat := 44 + 5 * h
def hB (h : Nat) : Nat := 45 + 5 * h
def hW (h : Nat) : Nat := 46 + 5 * h
def hA (h : Nat) : Nat := 47 + 5 * h
def hE (h : Nat) : Nat := 48 + 5 * h
theorem hcK0 {h : Nat} (hh : h < 4) : qis LAY ((hO h : Nat) : Int) 3 = true ∧ qis LAY ((hB h : Nat) : Int) 0 = true ∧ qln 1 LAY ((hW h : Nat) : Int) = 12 ∧ qln 1 LAY ((hA h : Nat) : Int) = 3 ∧ qln 1 LAY ((hE h : Nat) : Int) = 3 := by
  have : h = 0 ∨ h = 1 ∨ h = 2 ∨ h = 3 := by omega
  rcases this with rfl | rfl | rfl | rfl <;> decide +kernel
theorem hcK1 (h : Nat) : (0 ≤ ((hO h : Nat) : Int)) = True ∧ (0 ≤ ((hB h : Nat) : Int)) = True ∧ (0 ≤ ((hW h : Nat) : Int)) = True ∧ (0 ≤ ((hA h : Nat) : Int)) = True ∧ (0 ≤ ((hE h : Nat) : Int)) = True := ⟨eq_true (by omega), eq_true (by omega), eq_true (by omega), eq_true (by omega), eq_true (by omega)⟩
theorem hcK2 (h : Nat) : (hO h = hB h) = False ∧ (hO h = hW h) = False ∧ (hO h = hA h) = False ∧ (hO h = hE h) = False ∧ (hB h = hO h) = False ∧ (hB h = hW h) = False ∧ (hB h = hA h) = False ∧ (hB h = hE h) = False ∧ (hW h = hO h) = False ∧ (hW h = hB h) = False ∧ (hW h = hA h) = False ∧ (hW h = hE h) = False ∧ (hA h = hO h) = False ∧ (hA h = hB h) = False ∧ (hA h = hW h) = False ∧ (hA h = hE h) = False ∧ (hE h = hO h) = False ∧ (hE h = hB h) = False ∧ (hE h = hW h) = False ∧ (hE h = hA h) = False := ⟨eq_false (by unfold hO hB; omega), eq_false (by unfold hO hW; omega), eq_false (by unfold hO hA; omega), eq_false (by unfold hO hE; omega), eq_false (by unfold hB hO; omega), eq_false (by unfold hB hW; omega), eq_false (by unfold hB hA; omega), eq_false (by unfold hB hE; omega), eq_false (by unfold hW hO; omega), eq_false (by unfold hW hB; omega), eq_false (by unfold hW hA; omega), eq_false (by unfold hW hE; omega), eq_false (by unfold hA hO; omega), eq_false (by unfold hA hB; omega), eq_false (by unfold hA hW; omega), eq_false (by unfold hA hE; omega), eq_false (by unfold hE hO; omega), eq_false (by unfold hE hB; omega), eq_false (by unfold hE hW; omega), eq_false (by unfold hE hA; omega)⟩
theorem hcK3 {h : Nat} (hh : h < 4) : (hO h = 3) = False ∧ (3 = hO h) = False ∧ (hO h = 4) = False ∧ (4 = hO h) = False ∧ (hO h = 5) = False ∧ (5 = hO h) = False ∧ (hO h = 6) = False ∧ (6 = hO h) = False ∧ (hO h = 7) = False ∧ (7 = hO h) = False ∧ (hO h = 8) = False ∧ (8 = hO h) = False ∧ (hO h = 9) = False ∧ (9 = hO h) = False ∧ (hO h = 10) = False ∧ (10 = hO h) = False ∧ (hO h = 11) = False ∧ (11 = hO h) = False ∧ (hO h = 12) = False ∧ (12 = hO h) = False ∧ (hO h = 23) = False ∧ (23 = hO h) = False ∧ (hO h = 24) = False ∧ (24 = hO h) = False ∧ (hO h = 25) = False ∧ (25 = hO h) = False ∧ (hO h = 26) = False ∧ (26 = hO h) = False ∧ (hO h = 35) = False ∧ (35 = hO h) = False ∧ (hO h = 36) = False ∧ (36 = hO h) = False ∧ (hO h = 37) = False ∧ (37 = hO h) = False ∧ (hO h = 38) = False ∧ (38 = hO h) = False ∧ (hO h = 39) = False ∧ (39 = hO h) = False ∧ (hO h = 40) = False ∧ (40 = hO h) = False ∧ (hO h = 41) = False ∧ (41 = hO h) = False ∧ (hO h = 64) = False ∧ (64 = hO h) = False := ⟨eq_false (by unfold hO; omega), eq_false (by unfold hO; omega), eq_false (by unfold hO; omega), eq_false (by unfold hO; omega), eq_false (by unfold hO; omega), eq_false (by unfold hO; omega), eq_false (by unfold hO; omega), eq_false (by unfold hO; omega), eq_false (by unfold hO; omega), eq_false (by unfold hO; omega), eq_false (by unfold hO; omega), eq_false (by unfold hO; omega), eq_false (by unfold hO; omega), eq_false (by unfold hO; omega), eq_false (by unfold hO; omega), eq_false (by unfold hO; omega), eq_false (by unfold hO; omega), eq_false (by unfold hO; omega), eq_false (by unfold hO; omega), eq_false (by unfold hO; omega), eq_false (by unfold hO; omega), eq_false (by unfold hO; omega), eq_false (by unfold hO; omega), eq_false (by unfold hO; omega), eq_false (by unfold hO; omega), eq_false (by unfold hO; omega), eq_false (by unfold hO; omega), eq_false (by unfold hO; omega), eq_false (by unfold hO; omega), eq_false (by unfold hO; omega), eq_false (by unfold hO; omega), eq_false (by unfold hO; omega), eq_false (by unfold hO; omega), eq_false (by unfold hO; omega), eq_false (by unfold hO; omega), eq_false (by unfold hO; omega), eq_false (by unfold hO; omega), eq_false (by unfold hO; omega), eq_false (by unfold hO; omega), eq_false (by unfold hO; omega), eq_false (by unfold hO; omega), eq_false (by unfold hO; omega), eq_false (by unfold hO; omega), eq_false (by unfold hO; omega)⟩
theorem hcK4 {h : Nat} (hh : h < 4) : (hB h = 3) = False ∧ (3 = hB h) = False ∧ (hB h = 4) = False ∧ (4 = hB h) = False ∧ (hB h = 5) = False ∧ (5 = hB h) = False ∧ (hB h = 6) = False ∧ (6 = hB h) = False ∧ (hB h = 7) = False ∧ (7 = hB h) = False ∧ (hB h = 8) = False ∧ (8 = hB h) = False ∧ (hB h = 9) = False ∧ (9 = hB h) = False ∧ (hB h = 10) = False ∧ (10 = hB h) = False ∧ (hB h = 11) = False ∧ (11 = hB h) = False ∧ (hB h = 12) = False ∧ (12 = hB h) = False ∧ (hB h = 23) = False ∧ (23 = hB h) = False ∧ (hB h = 24) = False ∧ (24 = hB h) = False ∧ (hB h = 25) = False ∧ (25 = hB h) = False ∧ (hB h = 26) = False ∧ (26 = hB h) = False ∧ (hB h = 35) = False ∧ (35 = hB h) = False ∧ (hB h = 36) = False ∧ (36 = hB h) = False ∧ (hB h = 37) = False ∧ (37 = hB h) = False ∧ (hB h = 38) = False ∧ (38 = hB h) = False ∧ (hB h = 39) = False ∧ (39 = hB h) = False ∧ (hB h = 40) = False ∧ (40 = hB h) = False ∧ (hB h = 41) = False ∧ (41 = hB h) = False ∧ (hB h = 64) = False ∧ (64 = hB h) = False := ⟨eq_false (by unfold hB; omega), eq_false (by unfold hB; omega), eq_false (by unfold hB; omega), eq_false (by unfold hB; omega), eq_false (by unfold hB; omega), eq_false (by unfold hB; omega), eq_false (by unfold hB; omega), eq_false (by unfold hB; omega), eq_false (by unfold hB; omega), eq_false (by unfold hB; omega), eq_false (by unfold hB; omega), eq_false (by unfold hB; omega), eq_false (by unfold hB; omega), eq_false (by unfold hB; omega), eq_false (by unfold hB; omega), eq_false (by unfold hB; omega), eq_false (by unfold hB; omega), eq_false (by unfold hB; omega), eq_false (by unfold hB; omega), eq_false (by unfold hB; omega), eq_false (by unfold hB; omega), eq_false (by unfold hB; omega), eq_false (by unfold hB; omega), eq_false (by unfold hB; omega), eq_false (by unfold hB; omega), eq_false (by unfold hB; omega), eq_false (by unfold hB; omega), eq_false (by unfold hB; omega), eq_false (by unfold hB; omega), eq_false (by unfold hB; omega), eq_false (by unfold hB; omega), eq_false (by unfold hB; omega), eq_false (by unfold hB; omega), eq_false (by unfold hB; omega), eq_false (by unfold hB; omega), eq_false (by unfold hB; omega), eq_false (by unfold hB; omega), eq_false (by unfold hB; omega), eq_false (by unfold hB; omega), eq_false (by unfold hB; omega), eq_false (by unfold hB; omega), eq_false (by unfold hB; omega), eq_false (by unfold hB; omega), eq_false (by unfold hB; omega)⟩
theorem hcK5 {h : Nat} (hh : h < 4) : (hW h = 3) = False ∧ (3 = hW h) = False ∧ (hW h = 4) = False ∧ (4 = hW h) = False ∧ (hW h = 5) = False ∧ (5 = hW h) = False ∧ (hW h = 6) = False ∧ (6 = hW h) = False ∧ (hW h = 7) = False ∧ (7 = hW h) = False ∧ (hW h = 8) = False ∧ (8 = hW h) = False ∧ (hW h = 9) = False ∧ (9 = hW h) = False ∧ (hW h = 10) = False ∧ (10 = hW h) = False ∧ (hW h = 11) = False ∧ (11 = hW h) = False ∧ (hW h = 12) = False ∧ (12 = hW h) = False ∧ (hW h = 23) = False ∧ (23 = hW h) = False ∧ (hW h = 24) = False ∧ (24 = hW h) = False ∧ (hW h = 25) = False ∧ (25 = hW h) = False ∧ (hW h = 26) = False ∧ (26 = hW h) = False ∧ (hW h = 35) = False ∧ (35 = hW h) = False ∧ (hW h = 36) = False ∧ (36 = hW h) = False ∧ (hW h = 37) = False ∧ (37 = hW h) = False ∧ (hW h = 38) = False ∧ (38 = hW h) = False ∧ (hW h = 39) = False ∧ (39 = hW h) = False ∧ (hW h = 40) = False ∧ (40 = hW h) = False ∧ (hW h = 41) = False ∧ (41 = hW h) = False ∧ (hW h = 64) = False ∧ (64 = hW h) = False := ⟨eq_false (by unfold hW; omega), eq_false (by unfold hW; omega), eq_false (by unfold hW; omega), eq_false (by unfold hW; omega), eq_false (by unfold hW; omega), eq_false (by unfold hW; omega), eq_false (by unfold hW; omega), eq_false (by unfold hW; omega), eq_false (by unfold hW; omega), eq_false (by unfold hW; omega), eq_false (by unfold hW; omega), eq_false (by unfold hW; omega), eq_false (by unfold hW; omega), eq_false (by unfold hW; omega), eq_false (by unfold hW; omega), eq_false (by unfold hW; omega), eq_false (by unfold hW; omega), eq_false (by unfold hW; omega), eq_false (by unfold hW; omega), eq_false (by unfold hW; omega), eq_false (by unfold hW; omega), eq_false (by unfold hW; omega), eq_false (by unfold hW; omega), eq_false (by unfold hW; omega), eq_false (by unfold hW; omega), eq_false (by unfold hW; omega), eq_false (by unfold hW; omega), eq_false (by unfold hW; omega), eq_false (by unfold hW; omega), eq_false (by unfold hW; omega), eq_false (by unfold hW; omega), eq_false (by unfold hW; omega), eq_false (by unfold hW; omega), eq_false (by unfold hW; omega), eq_false (by unfold hW; omega), eq_false (by unfold hW; omega), eq_false (by unfold hW; omega), eq_false (by unfold hW; omega), eq_false (by unfold hW; omega), eq_false (by unfold hW; omega), eq_false (by unfold hW; omega), eq_false (by unfold hW; omega), eq_false (by unfold hW; omega), eq_false (by unfold hW; omega)⟩
theorem hcK6 {h : Nat} (hh : h < 4) : (hA h = 3) = False ∧ (3 = hA h) = False ∧ (hA h = 4) = False ∧ (4 = hA h) = False ∧ (hA h = 5) = False ∧ (5 = hA h) = False ∧ (hA h = 6) = False ∧ (6 = hA h) = False ∧ (hA h = 7) = False ∧ (7 = hA h) = False ∧ (hA h = 8) = False ∧ (8 = hA h) = False ∧ (hA h = 9) = False ∧ (9 = hA h) = False ∧ (hA h = 10) = False ∧ (10 = hA h) = False ∧ (hA h = 11) = False ∧ (11 = hA h) = False ∧ (hA h = 12) = False ∧ (12 = hA h) = False ∧ (hA h = 23) = False ∧ (23 = hA h) = False ∧ (hA h = 24) = False ∧ (24 = hA h) = False ∧ (hA h = 25) = False ∧ (25 = hA h) = False ∧ (hA h = 26) = False ∧ (26 = hA h) = False ∧ (hA h = 35) = False ∧ (35 = hA h) = False ∧ (hA h = 36) = False ∧ (36 = hA h) = False ∧ (hA h = 37) = False ∧ (37 = hA h) = False ∧ (hA h = 38) = False ∧ (38 = hA h) = False ∧ (hA h = 39) = False ∧ (39 = hA h) = False ∧ (hA h = 40) = False ∧ (40 = hA h) = False ∧ (hA h = 41) = False ∧ (41 = hA h) = False ∧ (hA h = 64) = False ∧ (64 = hA h) = False := ⟨eq_false (by unfold hA; omega), eq_false (by unfold hA; omega), eq_false (by unfold hA; omega), eq_false (by unfold hA; omega), eq_false (by unfold hA; omega), eq_false (by unfold hA; omega), eq_false (by unfold hA; omega), eq_false (by unfold hA; omega), eq_false (by unfold hA; omega), eq_false (by unfold hA; omega), eq_false (by unfold hA; omega), eq_false (by unfold hA; omega), eq_false (by unfold hA; omega), eq_false (by unfold hA; omega), eq_false (by unfold hA; omega), eq_false (by unfold hA; omega), eq_false (by unfold hA; omega), eq_false (by unfold hA; omega), eq_false (by unfold hA; omega), eq_false (by unfold hA; omega), eq_false (by unfold hA; omega), eq_false (by unfold hA; omega), eq_false (by unfold hA; omega), eq_false (by unfold hA; omega), eq_false (by unfold hA; omega), eq_false (by unfold hA; omega), eq_false (by unfold hA; omega), eq_false (by unfold hA; omega), eq_false (by unfold hA; omega), eq_false (by unfold hA; omega), eq_false (by unfold hA; omega), eq_false (by unfold hA; omega), eq_false (by unfold hA; omega), eq_false (by unfold hA; omega), eq_false (by unfold hA; omega), eq_false (by unfold hA; omega), eq_false (by unfold hA; omega), eq_false (by unfold hA; omega), eq_false (by unfold hA; omega), eq_false (by unfold hA; omega), eq_false (by unfold hA; omega), eq_false (by unfold hA; omega), eq_false (by unfold hA; omega), eq_false (by unfold hA; omega)⟩
theorem hcK7 {h : Nat} (hh : h < 4) : (hE h = 3) = False ∧ (3 = hE h) = False ∧ (hE h = 4) = False ∧ (4 = hE h) = False ∧ (hE h = 5) = False ∧ (5 = hE h) = False ∧ (hE h = 6) = False ∧ (6 = hE h) = False ∧ (hE h = 7) = False ∧ (7 = hE h) = False ∧ (hE h = 8) = False ∧ (8 = hE h) = False ∧ (hE h = 9) = False ∧ (9 = hE h) = False ∧ (hE h = 10) = False ∧ (10 = hE h) = False ∧ (hE h = 11) = False ∧ (11 = hE h) = False ∧ (hE h = 12) = False ∧ (12 = hE h) = False ∧ (hE h = 23) = False ∧ (23 = hE h) = False ∧ (hE h = 24) = False ∧ (24 = hE h) = False ∧ (hE h = 25) = False ∧ (25 = hE h) = False ∧ (hE h = 26) = False ∧ (26 = hE h) = False ∧ (hE h = 35) = False ∧ (35 = hE h) = False ∧ (hE h = 36) = False ∧ (36 = hE h) = False ∧ (hE h = 37) = False ∧ (37 = hE h) = False ∧ (hE h = 38) = False ∧ (38 = hE h) = False ∧ (hE h = 39) = False ∧ (39 = hE h) = False ∧ (hE h = 40) = False ∧ (40 = hE h) = False ∧ (hE h = 41) = False ∧ (41 = hE h) = False ∧ (hE h = 64) = False ∧ (64 = hE h) = False := ⟨eq_false (by unfold hE; omega), eq_false (by unfold hE; omega), eq_false (by unfold hE; omega), eq_false (by unfold hE; omega), eq_false (by unfold hE; omega), eq_false (by unfold hE; omega), eq_false (by unfold hE; omega), eq_false (by unfold hE; omega), eq_false (by unfold hE; omega), eq_false (by unfold hE; omega), eq_false (by unfold hE; omega), eq_false (by unfold hE; omega), eq_false (by unfold hE; omega), eq_false (by unfold hE; omega), eq_false (by unfold hE; omega), eq_false (by unfold hE; omega), eq_false (by unfold hE; omega), eq_false (by unfold hE; omega), eq_false (by unfold hE; omega), eq_false (by unfold hE; omega), eq_false (by unfold hE; omega), eq_false (by unfold hE; omega), eq_false (by unfold hE; omega), eq_false (by unfold hE; omega), eq_false (by unfold hE; omega), eq_false (by unfold hE; omega), eq_false (by unfold hE; omega), eq_false (by unfold hE; omega), eq_false (by unfold hE; omega), eq_false (by unfold hE; omega), eq_false (by unfold hE; omega), eq_false (by unfold hE; omega), eq_false (by unfold hE; omega), eq_false (by unfold hE; omega), eq_false (by unfold hE; omega), eq_false (by unfold hE; omega), eq_false (by unfold hE; omega), eq_false (by unfold hE; omega), eq_false (by unfold hE; omega), eq_false (by unfold hE; omega), eq_false (by unfold hE; omega), eq_false (by unfold hE; omega), eq_false (by unfold hE; omega), eq_false (by unfold hE; omega)⟩
def HCK (h : Nat) : Prop := (qis LAY ((hO h : Nat) : Int) 3 = true ∧ qis LAY ((hB h : Nat) : Int) 0 = true ∧ qln 1 LAY ((hW h : Nat) : Int) = 12 ∧ qln 1 LAY ((hA h : Nat) : Int) = 3 ∧ qln 1 LAY ((hE h : Nat) : Int) = 3) ∧ ((0 ≤ ((hO h : Nat) : Int)) = True ∧ (0 ≤ ((hB h : Nat) : Int)) = True ∧ (0 ≤ ((hW h : Nat) : Int)) = True ∧ (0 ≤ ((hA h : Nat) : Int)) = True ∧ (0 ≤ ((hE h : Nat) : Int)) = True) ∧ ((hO h = hB h) = False ∧ (hO h = hW h) = False ∧ (hO h = hA h) = False ∧ (hO h = hE h) = False ∧ (hB h = hO h) = False ∧ (hB h = hW h) = False ∧ (hB h = hA h) = False ∧ (hB h = hE h) = False ∧ (hW h = hO h) = False ∧ (hW h = hB h) = False ∧ (hW h = hA h) = False ∧ (hW h = hE h) = False ∧ (hA h = hO h) = False ∧ (hA h = hB h) = False ∧ (hA h = hW h) = False ∧ (hA h = hE h) = False ∧ (hE h = hO h) = False ∧ (hE h = hB h) = False ∧ (hE h = hW h) = False ∧ (hE h = hA h) = False)
def PSH (p s u : Nat) : Prop := ((p = 23 ∧ s = 24) ∨ (p = 25 ∧ s = 26)) ∧ (u = 10 ∨ u = 64)
theorem psK {p s u : Nat} (hp : PSH p s u) : qis LAY (p : Int) 5 = true ∧ qln 1 LAY (s : Int) = 5 ∧ qln 1 LAY (u : Int) = 12 ∧ (0 ≤ (p : Int)) = True ∧ (0 ≤ (s : Int)) = True ∧ (0 ≤ (u : Int)) = True := by
  obtain ⟨⟨rfl, rfl⟩ | ⟨rfl, rfl⟩, rfl | rfl⟩ := hp <;> decide +kernel
theorem psK2 {p s u : Nat} (hp : PSH p s u) : (p = 35) = False ∧ (35 = p) = False ∧ (p = 36) = False ∧ (36 = p) = False ∧ (p = 37) = False ∧ (37 = p) = False ∧ (p = 38) = False ∧ (38 = p) = False ∧ (p = 39) = False ∧ (39 = p) = False ∧ (p = 40) = False ∧ (40 = p) = False ∧ (p = 41) = False ∧ (41 = p) = False ∧ (s = 35) = False ∧ (35 = s) = False ∧ (s = 36) = False ∧ (36 = s) = False ∧ (s = 37) = False ∧ (37 = s) = False ∧ (s = 38) = False ∧ (38 = s) = False ∧ (s = 39) = False ∧ (39 = s) = False ∧ (s = 40) = False ∧ (40 = s) = False ∧ (s = 41) = False ∧ (41 = s) = False ∧ (u = 35) = False ∧ (35 = u) = False ∧ (u = 36) = False ∧ (36 = u) = False ∧ (u = 37) = False ∧ (37 = u) = False ∧ (u = 38) = False ∧ (38 = u) = False ∧ (u = 39) = False ∧ (39 = u) = False ∧ (u = 40) = False ∧ (40 = u) = False ∧ (u = 41) = False ∧ (41 = u) = False := by
  obtain ⟨⟨rfl, rfl⟩ | ⟨rfl, rfl⟩, rfl | rfl⟩ := hp <;> simp
theorem psK3 {p s u h : Nat} (hp : PSH p s u) (hh : h < 4) : (p = hO h) = False ∧ (hO h = p) = False ∧ (p = hB h) = False ∧ (hB h = p) = False ∧ (p = hW h) = False ∧ (hW h = p) = False ∧ (p = hA h) = False ∧ (hA h = p) = False ∧ (p = hE h) = False ∧ (hE h = p) = False ∧ (s = hO h) = False ∧ (hO h = s) = False ∧ (s = hB h) = False ∧ (hB h = s) = False ∧ (s = hW h) = False ∧ (hW h = s) = False ∧ (s = hA h) = False ∧ (hA h = s) = False ∧ (s = hE h) = False ∧ (hE h = s) = False ∧ (u = hO h) = False ∧ (hO h = u) = False ∧ (u = hB h) = False ∧ (hB h = u) = False ∧ (u = hW h) = False ∧ (hW h = u) = False ∧ (u = hA h) = False ∧ (hA h = u) = False ∧ (u = hE h) = False ∧ (hE h = u) = False := by
  obtain ⟨⟨rfl, rfl⟩ | ⟨rfl, rfl⟩, rfl | rfl⟩ := hp <;> exact ⟨eq_false (by unfold hO; omega), eq_false (by unfold hO; omega), eq_false (by unfold hB; omega), eq_false (by unfold hB; omega), eq_false (by unfold hW; omega), eq_false (by unfold hW; omega), eq_false (by unfold hA; omega), eq_false (by unfold hA; omega), eq_false (by unfold hE; omega), eq_false (by unfold hE; omega), eq_false (by unfold hO; omega), eq_false (by unfold hO; omega), eq_false (by unfold hB; omega), eq_false (by unfold hB; omega), eq_false (by unfold hW; omega), eq_false (by unfold hW; omega), eq_false (by unfold hA; omega), eq_false (by unfold hA; omega), eq_false (by unfold hE; omega), eq_false (by unfold hE; omega), eq_false (by unfold hO; omega), eq_false (by unfold hO; omega), eq_false (by unfold hB; omega), eq_false (by unfold hB; omega), eq_false (by unfold hW; omega), eq_false (by unfold hW; omega), eq_false (by unfold hA; omega), eq_false (by unfold hA; omega), eq_false (by unfold hE; omega), eq_false (by unfold hE; omega)⟩
/-! bits of an int -/
def hbit (m a : Int) : Int := (i1 (i1 m >>> (i1 a &&& 31)).toInt &&& i1 1).toInt
theorem hbF (m a : Int) : (i1 (i1 m >>> (i1 a &&& 31)).toInt &&& i1 1).toInt = hbit m a := rfl
def bt (x : Int32) (i : Nat) : Bool := x.toBitVec.getLsbD i
theorem b_or (x y : Int32) (i : Nat) : bt (x ||| y) i = (bt x i || bt y i) := by unfold bt; rw [Int32.toBitVec_or, BitVec.getLsbD_or]
theorem b_and (x y : Int32) (i : Nat) : bt (x &&& y) i = (bt x i && bt y i) := by unfold bt; rw [Int32.toBitVec_and, BitVec.getLsbD_and]
theorem b_xor (x y : Int32) (i : Nat) : bt (x ^^^ y) i = (bt x i ^^ bt y i) := by unfold bt; rw [Int32.toBitVec_xor, BitVec.getLsbD_xor]
theorem b_m1 : ∀ i, i < 32 → bt (i1 (-1)) i = true := by decide +kernel
theorem b_1 : ∀ i, i < 32 → bt (i1 1) i = decide (i = 0) := by decide +kernel
theorem s_l : ∀ n : Nat, n < 32 → ((i1 (n : Int) &&& 31).toBitVec.smod 32).toNat = n := by decide +kernel
theorem b_shl (n : Nat) (hn : n < 32) (x : Int32) {i : Nat} (hi : i < 32) : bt (x <<< (i1 (n : Int) &&& 31)) i = (decide (n ≤ i) && bt x (i - n)) := by
  unfold bt
  rw [Int32.toBitVec_shiftLeft]
  show (x.toBitVec <<< ((i1 (n : Int) &&& 31).toBitVec.smod 32).toNat).getLsbD i = _
  rw [s_l n hn, BitVec.getLsbD_shiftLeft]
  rcases Nat.lt_or_ge i n with h | h
  · simp [h, Nat.not_le.mpr h]
  · simp [hi, h, Nat.not_lt.mpr h]
theorem b_sshr (n : Nat) (hn : n < 32) (x : Int32) {i : Nat} (hi : i < 32) : bt (x >>> (i1 (n : Int) &&& 31)) i = if n + i < 32 then bt x (n + i) else bt x 31 := by
  unfold bt
  rw [Int32.toBitVec_shiftRight]
  show (x.toBitVec.sshiftRight ((i1 (n : Int) &&& 31).toBitVec.smod 32).toNat).getLsbD i = _
  rw [s_l n hn, BitVec.getLsbD_sshiftRight, BitVec.msb_eq_getLsbD_last]
  simp [hi]
theorem b_ext {x y : Int32} (h : ∀ i, i < 32 → bt x i = bt y i) : x = y := Int32.toBitVec_inj.mp (BitVec.eq_of_getLsbD_eq (fun i hi => h i hi))
theorem hbit_bt (m : Int) (a : Nat) (ha : a < 32) : hbit m (a : Int) = bi (bt (i1 m) a) := by
  unfold hbit
  rw [i1_toInt]
  have e : i1 m >>> (i1 (a : Int) &&& 31) &&& i1 1 = if bt (i1 m) a = true then i1 1 else i1 0 := by
    apply b_ext
    intro i hi
    rw [b_and, b_1 i hi, b_sshr a ha _ hi]
    by_cases h0 : i = 0
    · subst h0
      rw [if_pos (by omega)]
      by_cases hb : bt (i1 m) a = true
      · rw [if_pos hb]; simp [hb]; exact (b_1 0 (by decide)).symm
      · rw [if_neg hb]
        have hb2 : bt (i1 m) a = false := by simpa using hb
        simp [hb2]; exact BitVec.getLsbD_zero
    · rw [decide_eq_false h0, Bool.and_false]
      by_cases hb : bt (i1 m) a = true
      · rw [if_pos hb, b_1 i hi, decide_eq_false h0]
      · rw [if_neg hb]; exact (BitVec.getLsbD_zero).symm
  rw [e]
  by_cases hb : bt (i1 m) a = true
  · rw [if_pos hb, hb]; rfl
  · rw [if_neg hb]
    have hb2 : bt (i1 m) a = false := by simpa using hb
    rw [hb2]; rfl
theorem hbit_r (m : Int) (a : Nat) (ha : a < 32) : hbit m (a : Int) = 0 ∨ hbit m (a : Int) = 1 := by
  rw [hbit_bt m a ha]
  unfold bi
  split
  · exact Or.inr rfl
  · exact Or.inl rfl
def bset (m a : Int) : Int := (i1 m ||| i1 (i1 1 <<< (i1 a &&& 31)).toInt).toInt
def bclr (m a : Int) : Int := (i1 m &&& i1 (i1 (i1 1 <<< (i1 a &&& 31)).toInt ^^^ i1 (-1)).toInt).toInt
theorem bsetF (m a : Int) : (i1 m ||| i1 (i1 1 <<< (i1 a &&& 31)).toInt).toInt = bset m a := rfl
theorem bclrF (m a : Int) : (i1 m &&& i1 (i1 (i1 1 <<< (i1 a &&& 31)).toInt ^^^ i1 (-1)).toInt).toInt = bclr m a := rfl
theorem b_one (a i : Nat) (ha : a < 32) (hi : i < 32) : bt (i1 1 <<< (i1 (a : Int) &&& 31)) i = decide (i = a) := by
  rw [b_shl a ha _ hi, b_1 _ (by omega)]
  by_cases h : i = a
  · subst h; simp
  · rw [decide_eq_false h]
    by_cases h2 : a ≤ i
    · rw [decide_eq_false (by omega : ¬ i - a = 0), Bool.and_false]
    · rw [decide_eq_false h2, Bool.false_and]
theorem hbit_set (m : Int) (a b : Nat) (ha : a < 32) (hb : b < 32) : hbit (bset m a) (b : Int) = if b = a then 1 else hbit m (b : Int) := by
  rw [hbit_bt _ b hb, hbit_bt _ b hb]
  unfold bset
  rw [i1_toInt, i1_toInt, b_or, b_one a b ha hb]
  by_cases h : b = a
  · rw [if_pos h, decide_eq_true h, Bool.or_true]; rfl
  · rw [if_neg h, decide_eq_false h, Bool.or_false]
theorem hbit_clr (m : Int) (a b : Nat) (ha : a < 32) (hb : b < 32) : hbit (bclr m a) (b : Int) = if b = a then 0 else hbit m (b : Int) := by
  rw [hbit_bt _ b hb, hbit_bt _ b hb]
  unfold bclr
  rw [i1_toInt, i1_toInt, i1_toInt, b_and, b_xor, b_one a b ha hb, b_m1 b hb]
  by_cases h : b = a
  · rw [if_pos h, decide_eq_true h]; simp; rfl
  · rw [if_neg h, decide_eq_false h]; simp
/-! what the class's cells stand for -/
def rw0 (f : Nat → Int) (l : List Int) : Prop := ∀ k : Nat, k < l.length → f k = l.getD k 0
def BR1 (r m : Int) : Prop := (r = 0 ∧ m % 2 = 0) ∨ (r = 1 ∧ m % 4 = 1) ∨ (r = 2 ∧ m % 8 = 3)
def CBk (X : XT) (h : Nat) (f : Nat → Int) : Prop := f 0 = X 116 h ∧ f 1 = X 112 h ∧ (f 2 = if X 109 h = 0 then X 108 h else -1) ∧ (X 97 3 = 1 → BR1 (f 3) (X 110 h)) ∧ (X 97 3 = 2 → f 4 = X 110 h ∧ f 5 = X 111 h)
def held (m : Int) (l0 l1 : List Int) : Prop := ∀ a : Nat, a < 12 → hbit m (a : Int) = b01 ((a : Int) ∈ l0 ∨ (a : Int) ∈ l1)
def CH (C X : XT) (L : LT) (h : Nat) (F : XT) : Prop :=
  (∀ j : Nat, j < 4 → F (hO h) j = C (hO h) j) ∧
  (F (hO h) 4 = ((L 0 h).length : Int) ∧ rw0 (F (hW h)) (L 0 h) ∧ (L 0 h).length ≤ 12) ∧
  (F (hO h) 5 = ((L 1 h).length : Int) ∧ rw0 (F (hA h)) (L 1 h) ∧ rw0 (F (hE h)) (L 2 h) ∧ (L 1 h).length ≤ 3 ∧ (L 2 h).length = (L 1 h).length) ∧
  held (F (hO h) 6) (L 0 h) (L 1 h) ∧
  (F (hO h) 7 = X 113 h ∧ F (hO h) 8 = X 114 h ∧ F (hO h) 9 = X 115 h ∧ F (hO h) 10 = X 117 h ∧ I32 (X 114 h)) ∧
  CBk X h (F (hB h))
/-- cells that a run of the class leaves as they are -/
def fx (c : Nat) : Prop := c ≠ 35 ∧ (c < 37 ∨ 41 < c) ∧ (c < 44 ∨ 63 < c)
def CD (p u : Nat) (sp : Int) (X : XT) (e b : Int) (f : Nat → Int) : Prop := f 7 = (p : Int) ∧ f 8 = (u : Int) ∧ f 9 = sp ∧ f 10 = X 69 62 ∧ f 11 = X 69 63 ∧ f 12 = X 69 64 ∧ f 13 = X 69 65 ∧ f 14 = X 69 66 ∧ f 15 = X 69 67 ∧ f 16 = e ∧ f 17 = b
def CA (X F : XT) : Prop := ∀ a : Nat, a < 12 → F 37 a = X 98 a ∧ F 38 a = X 99 a ∧ F 39 a = X 100 a ∧ F 40 a = X 101 a ∧ F 41 a = X 102 a
def CR (p u : Nat) (sp : Int) (C X : XT) (L : LT) (e b : Int) (F : XT) : Prop :=
  Rf C ∧ (∀ c : Nat, fx c → F c = C c) ∧ (∀ j : Nat, j < 7 → F 35 j = C 35 j) ∧ CD p u sp X e b (F 35) ∧ CA X F ∧ ∀ h : Nat, h < 4 → CH C X L h F
theorem RFL_c : ∀ q ∈ RFL, (q.1 ≠ 35 ∧ (q.1 < 37 ∨ 41 < q.1) ∧ (q.1 < 44 ∨ 63 < q.1)) ∨ (q.1 = 35 ∧ q.2.1 < 7) ∨ ((q.1 = 44 ∨ q.1 = 49 ∨ q.1 = 54 ∨ q.1 = 59) ∧ q.2.1 < 4) := by decide +kernel
theorem CR.rf {p u : Nat} {sp : Int} {C X : XT} {L : LT} {e b : Int} {F : XT} (hR : CR p u sp C X L e b F) : Rf F := by
  obtain ⟨h1, h2, h3, -, -, h6⟩ := hR
  intro q hq
  rw [← h1 q hq]
  rcases RFL_c q hq with h | ⟨h, hj⟩ | ⟨h, hj⟩
  · rw [h2 q.1 h]
  · rw [h]; exact h3 _ hj
  · rcases h with h | h | h | h
    · have := (h6 0 (by decide)).1 _ hj; rw [h]; exact this
    · have := (h6 1 (by decide)).1 _ hj; rw [h]; exact this
    · have := (h6 2 (by decide)).1 _ hj; rw [h]; exact this
    · have := (h6 3 (by decide)).1 _ hj; rw [h]; exact this
theorem Rf_h {F : XT} (u : Rf F) {h : Nat} (hh : h < 4) : F 36 h = ((hO h : Nat) : Int) ∧ F (hO h) 0 = ((hB h : Nat) : Int) ∧ F (hO h) 1 = ((hW h : Nat) : Int) ∧ F (hO h) 2 = ((hA h : Nat) : Int) ∧ F (hO h) 3 = ((hE h : Nat) : Int) := by
  have q := Rf_k u
  have : h = 0 ∨ h = 1 ∨ h = 2 ∨ h = 3 := by omega
  rcases this with rfl | rfl | rfl | rfl
  · exact ⟨q.2.2.1.2.2.2.2.2.2.1, q.2.2.1.2.2.2.2.2.2.2.2.2.2.2.1, q.2.2.1.2.2.2.2.2.2.2.2.2.2.2.2.1, q.2.2.1.2.2.2.2.2.2.2.2.2.2.2.2.2.1, q.2.2.1.2.2.2.2.2.2.2.2.2.2.2.2.2.2.1⟩
  · exact ⟨q.2.2.1.2.2.2.2.2.2.2.1, q.2.2.1.2.2.2.2.2.2.2.2.2.2.2.2.2.2.2.1, q.2.2.1.2.2.2.2.2.2.2.2.2.2.2.2.2.2.2.2.1, q.2.2.1.2.2.2.2.2.2.2.2.2.2.2.2.2.2.2.2.2.1, q.2.2.1.2.2.2.2.2.2.2.2.2.2.2.2.2.2.2.2.2.2.1⟩
  · exact ⟨q.2.2.1.2.2.2.2.2.2.2.2.1, q.2.2.1.2.2.2.2.2.2.2.2.2.2.2.2.2.2.2.2.2.2.2, q.2.2.2.1.1, q.2.2.2.1.2.1, q.2.2.2.1.2.2.1⟩
  · exact ⟨q.2.2.1.2.2.2.2.2.2.2.2.2.1, q.2.2.2.1.2.2.2.1, q.2.2.2.1.2.2.2.2.1, q.2.2.2.1.2.2.2.2.2.1, q.2.2.2.1.2.2.2.2.2.2.1⟩
/-- the day's own numbers and the cells that stay, as rewrites -/
theorem CR.k {p u : Nat} {sp : Int} {C X : XT} {L : LT} {e b : Int} {F : XT} (hR : CR p u sp C X L e b F) : CD p u sp X e b (F 35) ∧ F 3 = C 3 ∧ F 4 = C 4 ∧ F 5 = C 5 ∧ F 6 = C 6 ∧ F 7 = C 7 ∧ F 8 = C 8 ∧ F 9 = C 9 ∧ F 10 = C 10 ∧ F 11 = C 11 ∧ F 12 = C 12 := by
  obtain ⟨h1, h2, h3, h4, -, h6⟩ := hR
  exact ⟨h4, h2 _ (by unfold fx; decide), h2 _ (by unfold fx; decide), h2 _ (by unfold fx; decide), h2 _ (by unfold fx; decide), h2 _ (by unfold fx; decide), h2 _ (by unfold fx; decide), h2 _ (by unfold fx; decide), h2 _ (by unfold fx; decide), h2 _ (by unfold fx; decide), h2 _ (by unfold fx; decide)⟩
theorem CR.ps {p s u : Nat} {sp : Int} {C X : XT} {L : LT} {e b : Int} {F : XT} (hR : CR p u sp C X L e b F) (hp : PSH p s u) : F p = C p ∧ F s = C s ∧ F u = C u := by
  obtain ⟨⟨rfl, rfl⟩ | ⟨rfl, rfl⟩, rfl | rfl⟩ := hp <;> exact ⟨hR.2.1 _ (by unfold fx; decide), hR.2.1 _ (by unfold fx; decide), hR.2.1 _ (by unfold fx; decide)⟩
theorem CH_congr {C X X2 : XT} {L L2 : LT} {h : Nat} {F F2 : XT} (hC : CH C X L h F) (hX : ∀ c, 108 ≤ c → c ≤ 117 → X2 c h = X c h) (h97 : X2 97 3 = X 97 3) (hL : ∀ i, L2 i h = L i h) (hF : F2 (hO h) = F (hO h) ∧ F2 (hB h) = F (hB h) ∧ F2 (hW h) = F (hW h) ∧ F2 (hA h) = F (hA h) ∧ F2 (hE h) = F (hE h)) : CH C X2 L2 h F2 := by
  obtain ⟨f1, f2, f3, f4, f5⟩ := hF
  unfold CH CBk at hC ⊢
  rw [f1, f2, f3, f4, f5, hL, hL, hL, h97, hX 108 (by decide) (by decide), hX 109 (by decide) (by decide), hX 110 (by decide) (by decide), hX 111 (by decide) (by decide), hX 112 (by decide) (by decide), hX 113 (by decide) (by decide), hX 114 (by decide) (by decide), hX 115 (by decide) (by decide), hX 116 (by decide) (by decide), hX 117 (by decide) (by decide)]
  exact hC
/-- a host's own cells change, and what they stand for -/
theorem CR.host {p u : Nat} {sp : Int} {C X X2 : XT} {L L2 : LT} {e b : Int} {F F2 : XT} (hR : CR p u sp C X L e b F) {h : Nat} (hh : h < 4) (hF : ∀ c, c ≠ hO h → c ≠ hB h → c ≠ hW h → c ≠ hA h → c ≠ hE h → F2 c = F c) (hL : ∀ i g, g ≠ h → L2 i g = L i g) (hX : ∀ c g, 108 ≤ c → c ≤ 117 → g ≠ h → X2 c g = X c g) (hX0 : ∀ c, (c < 108 ∨ 117 < c) → X2 c = X c) (hC : CH C X2 L2 h F2) : CR p u sp C X2 L2 e b F2 := by
  obtain ⟨h1, h2, h3, h4, h5, h6⟩ := hR
  have hn : ∀ c, (c < 44 ∨ 63 < c) → F2 c = F c := fun c hc => hF c (by unfold hO; omega) (by unfold hB; omega) (by unfold hW; omega) (by unfold hA; omega) (by unfold hE; omega)
  refine ⟨h1, ?_, ?_, ?_, ?_, ?_⟩
  · intro c hc
    rw [hn c hc.2.2]; exact h2 c hc
  · intro j hj
    rw [hn 35 (by decide)]; exact h3 j hj
  · unfold CD at h4 ⊢
    rw [hn 35 (by decide), hX0 69 (by decide)]; exact h4
  · intro a ha
    rw [hn 37 (by decide), hn 38 (by decide), hn 39 (by decide), hn 40 (by decide), hn 41 (by decide), hX0 98 (by decide), hX0 99 (by decide), hX0 100 (by decide), hX0 101 (by decide), hX0 102 (by decide)]
    exact h5 a ha
  · intro g hg
    by_cases hgh : g = h
    · subst hgh; exact hC
    · refine CH_congr (h6 g hg) (fun c c1 c2 => hX c g c1 c2 hgh) (by rw [hX0 97 (by decide)]) (fun i => hL i g hgh) ⟨?_, ?_, ?_, ?_, ?_⟩
      all_goals (apply hF <;> ((try unfold hO); (try unfold hB); (try unfold hW); (try unfold hA); (try unfold hE); omega))
theorem CR.ask {p u : Nat} {sp : Int} {C X : XT} {L : LT} {e b : Int} {F : XT} (hR : CR p u sp C X L e b F) (i : Nat) (hi : i < 5) (a : Nat) (v : Int) : CR p u sp C (qup X (98 + i) a v) L e b (qup F (37 + i) a v) := by
  obtain ⟨h1, h2, h3, h4, h5, h6⟩ := hR
  refine ⟨h1, ?_, ?_, ?_, ?_, ?_⟩
  · intro c hc
    unfold fx at hc
    rw [qup_c (by omega)]; exact h2 c hc
  · intro j hj
    rw [qup_c (by omega)]; exact h3 j hj
  · unfold CD at h4 ⊢
    rw [qup_c (by omega), qup_c (by omega)]; exact h4
  · intro a2 ha
    obtain ⟨q1, q2, q3, q4, q5⟩ := h5 a2 ha
    have hi2 : i = 0 ∨ i = 1 ∨ i = 2 ∨ i = 3 ∨ i = 4 := by omega
    simp only [qup_ap]
    rcases hi2 with rfl | rfl | rfl | rfl | rfl <;> simp [q1, q2, q3, q4, q5]
  · intro g hg
    refine CH_congr (h6 g hg) (fun c c1 c2 => by rw [qup_c (by omega)]) (by rw [qup_c (by omega)]) (fun i => rfl) ⟨?_, ?_, ?_, ?_, ?_⟩
    all_goals (apply qup_c; (try unfold hO); (try unfold hB); (try unfold hW); (try unfold hA); (try unfold hE); omega)
theorem CR.day {p u : Nat} {sp : Int} {C X : XT} {L : LT} {e b : Int} {F : XT} (hR : CR p u sp C X L e b F) (j : Nat) (hj : 10 ≤ j ∧ j ≤ 15) (v : Int) : CR p u sp C (qup X 69 (j + 52) v) L e b (qup F 35 j v) := by
  obtain ⟨h1, h2, h3, h4, h5, h6⟩ := hR
  refine ⟨h1, ?_, ?_, ?_, ?_, ?_⟩
  · intro c hc
    unfold fx at hc
    rw [qup_c (by omega)]; exact h2 c hc
  · intro j2 hj2
    rw [qup_ap, if_pos rfl, if_neg (by omega)]; exact h3 j2 hj2
  · obtain ⟨q1, q2, q3, q4, q5, q6, q7, q8, q9, q10, q11⟩ := h4
    have hj2 : j = 10 ∨ j = 11 ∨ j = 12 ∨ j = 13 ∨ j = 14 ∨ j = 15 := by omega
    unfold CD
    simp only [qup_ap]
    rcases hj2 with rfl | rfl | rfl | rfl | rfl | rfl <;> simp [q1, q2, q3, q4, q5, q6, q7, q8, q9, q10, q11]
  · intro a ha
    rw [qup_c (by omega), qup_c (by omega), qup_c (by omega), qup_c (by omega), qup_c (by omega), qup_c (by omega), qup_c (by omega), qup_c (by omega), qup_c (by omega), qup_c (by omega)]
    exact h5 a ha
  · intro g hg
    refine CH_congr (h6 g hg) (fun c c1 c2 => by rw [qup_c (by omega)]) (by rw [qup_c (by omega)]) (fun i => rfl) ⟨?_, ?_, ?_, ?_, ?_⟩
    all_goals (apply qup_c; (try unfold hO); (try unfold hB); (try unfold hW); (try unfold hA); (try unfold hE); omega)
theorem CR.eb {p u : Nat} {sp : Int} {C X : XT} {L : LT} {e b : Int} {F : XT} (hR : CR p u sp C X L e b F) (j : Nat) (hj : j = 16 ∨ j = 17) (v : Int) : CR p u sp C X L (if j = 16 then v else e) (if j = 17 then v else b) (qup F 35 j v) := by
  obtain ⟨h1, h2, h3, h4, h5, h6⟩ := hR
  refine ⟨h1, ?_, ?_, ?_, ?_, ?_⟩
  · intro c hc
    unfold fx at hc
    rw [qup_c (by omega)]; exact h2 c hc
  · intro j2 hj2
    rw [qup_ap, if_pos rfl, if_neg (by omega)]; exact h3 j2 hj2
  · obtain ⟨q1, q2, q3, q4, q5, q6, q7, q8, q9, q10, q11⟩ := h4
    unfold CD
    simp only [qup_ap]
    rcases hj with rfl | rfl <;> simp [q1, q2, q3, q4, q5, q6, q7, q8, q9, q10, q11]
  · intro a ha
    rw [qup_c (by omega), qup_c (by omega), qup_c (by omega), qup_c (by omega), qup_c (by omega)]
    exact h5 a ha
  · intro g hg
    refine CH_congr (h6 g hg) (fun c c1 c2 => rfl) rfl (fun i => rfl) ⟨?_, ?_, ?_, ?_, ?_⟩
    all_goals (apply qup_c; (try unfold hO); (try unfold hB); (try unfold hW); (try unfold hA); (try unfold hE); omega)
theorem CR.e {p u : Nat} {sp : Int} {C X : XT} {L : LT} {e b : Int} {F : XT} (hR : CR p u sp C X L e b F) (v : Int) : CR p u sp C X L v b (qup F 35 16 v) := hR.eb 16 (Or.inl rfl) v
theorem CR.b {p u : Nat} {sp : Int} {C X : XT} {L : LT} {e b : Int} {F : XT} (hR : CR p u sp C X L e b F) (v : Int) : CR p u sp C X L e v (qup F 35 17 v) := hR.eb 17 (Or.inr rfl) v
/-- a host's rewrites -/
theorem CR.h {p u : Nat} {sp : Int} {C X : XT} {L : LT} {e b : Int} {F : XT} (hR : CR p u sp C X L e b F) {h : Nat} (hh : h < 4) : (F 36 h = ((hO h : Nat) : Int) ∧ F (hO h) 0 = ((hB h : Nat) : Int) ∧ F (hO h) 1 = ((hW h : Nat) : Int) ∧ F (hO h) 2 = ((hA h : Nat) : Int) ∧ F (hO h) 3 = ((hE h : Nat) : Int)) ∧ F (hO h) 4 = ((L 0 h).length : Int) ∧ F (hO h) 5 = ((L 1 h).length : Int) ∧ F (hO h) 7 = X 113 h ∧ F (hO h) 8 = X 114 h ∧ F (hO h) 9 = X 115 h ∧ F (hO h) 10 = X 117 h ∧ F (hB h) 0 = X 116 h ∧ F (hB h) 1 = X 112 h := by
  have q := hR.2.2.2.2.2 h hh
  exact ⟨Rf_h hR.rf hh, q.2.1.1, q.2.2.1.1, q.2.2.2.2.1.1, q.2.2.2.2.1.2.1, q.2.2.2.2.1.2.2.1, q.2.2.2.2.1.2.2.2.1, q.2.2.2.2.2.1, q.2.2.2.2.2.2.1⟩
