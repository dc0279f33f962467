/-! the memory after the two constructors keeps the relation; the law, but for floats -/
theorem Rel_FI : Rel FI := by
  have z0 : FI 0 1 = 0 := by decide +kernel
  have z3 : FI 3 0 = 0 ∧ FI 3 1 = 0 ∧ FI 3 2 = 0 := by decide +kernel
  have z27 : FI 27 0 = 0 := by decide +kernel
  have z30 : FI 30 0 = 0 := by decide +kernel
  have z34 : FI 34 0 = 0 ∧ FI 34 1 = 0 := by decide +kernel
  refine ⟨?_, ?_, ?_, ?_, ?_, ?_, ?_, ?_⟩
  · unfold Rf; decide +kernel
  · exact ⟨by decide +kernel, by rw [z0]; decide, by rw [z0]; decide, fun j hj => by rw [z0] at hj; omega⟩
  · exact ⟨⟨by decide +kernel, by rw [z3.1]; decide, by rw [z3.1]; decide⟩, ⟨by decide +kernel, by rw [z3.2.2]; decide, by rw [z3.2.2]; decide⟩, ⟨by decide +kernel, by rw [z3.2.1]; decide, by rw [z3.2.1]; decide⟩, fun j hj => by rw [z3.1] at hj; omega, fun j hj => by rw [z3.2.1] at hj; omega, fun j hj => by rw [z3.2.2] at hj; omega⟩
  · exact ⟨by unfold PB; decide +kernel, by decide +kernel, by decide +kernel⟩
  · exact ⟨⟨by decide +kernel, by rw [z27]; decide, by rw [z27]; decide⟩, by decide +kernel, fun i hi => by rw [z27] at hi; omega⟩
  · exact ⟨⟨by decide +kernel, Or.inl z34.1, fun e => by rw [z34.1] at e; exact absurd e (by decide)⟩, ⟨by decide +kernel, Or.inl z34.2, fun e => by rw [z34.2] at e; exact absurd e (by decide)⟩⟩
  · exact ⟨by decide +kernel, by rw [z30]; decide, by rw [z30]; decide, fun j hj => by rw [z30] at hj; omega⟩
  · exact ⟨by decide +kernel, by unfold I64; decide +kernel⟩
theorem qlaw_runA (hA : FA) : ∀ (L : Nat) (xs : Nat → Int), L ≤ 2048 → (∀ j, -2147483648 ≤ xs j ∧ xs j < 2147483648) → qW (qtab L xs) 183 (600000, 7302250) 0 [(3, -7), (9, 0), (9, 0), (9, 0)] [] ([], fun _ _ => 0) (fun r M => r = some (0, 1) ∧ M.1.length ≤ 600000 ∧ qsz M.1 ≤ 7302250) := by
  intro L xs hL hxs
  refine qlaw_pro ?_
  exact law_loop (Rel := Rel) hL hxs
    (fun F a h h0 => H_write F a h h0) (fun F h => H_wipe F h) (fun F h => H_fault F h) (fun F h => H_day F h) (fun F a h h0 => H_about F a h h0)
    (fun F a b h h0 h1 => H_set F a b h h0 h1) (fun F a h h0 => H_turn F a h h0) (fun F h => H_undo F h)
    (fun F a b h _ _ => H_ask hA F a b h) (fun F a b h _ _ => H_host hA F a b h) (fun F a h _ => H_total hA F a h) (fun F a b c h _ _ _ => H_stand hA F a b c h)
    (fun F a h _ => H_best hA F a h) (fun F a b h _ h1 => H_judge hA F a b h h1) (fun F a b h h0 h1 => H_see F a b h h0 h1) (fun F h => H_unsee F h)
    (fun F h => H_which hA F h) (fun F a b h _ _ => H_share hA F a b h) (fun F a b h _ _ => H_calm hA F a b h) (fun F a h h0 => H_seed F a h h0)
    (fun F a h _ => H_drawn hA F a h) (fun F a h h0 => H_keep F a h h0) (fun F a h h0 => H_again F a h h0)
    (L + 1) 0 FI (by omega) (by omega) (by omega) Rel_FI
