/-! the law's run over whole numbers -/
theorem qlaw_run : ∀ (L : Nat) (xs : Nat → Int), L ≤ 2048 → (∀ j, -2147483648 ≤ xs j ∧ xs j < 2147483648) → qW (qtab L xs) 183 (600000, 7302250) 0 [(3, -7), (9, 0), (9, 0), (9, 0)] [] ([], fun _ _ => 0) (fun r M => r = some (0, 1) ∧ M.1.length ≤ 600000 ∧ qsz M.1 ≤ 7302250) := qlaw_runA FA_ok
