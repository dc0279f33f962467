theorem q_ctor (tb : qTb) (y : Nat) (lim : Nat × Nat) (R : Option qV → qM → Prop) (pc len i A : Nat) (ls r : List qV) (c : Int) (M : qM) : qy tb y lim R (pc, .invokespecial i, len, A, 0, 2) ls ((3, c) :: r) M = ((M.1.length + qmc A ≤ lim.1 ∧ qsz M.1 + qms A ≤ lim.2 ∧ qcats r ≤ 8 ∧ 0 ≤ c ∧ (qargs [(3, c)]).length ≤ qmx A) ∧ qW tb A (M.1.length + qmc A, qsz M.1 + qms A) 0 (qent (qmx A) [(3, c)]) [] M (fun r2 M3 => (M3.1.length = M.1.length + qmc A ∧ qsz M3.1 = qsz M.1 + qms A) ∧ qW tb y lim (pc + len) ls (r2.toList ++ r) M3 R)) := by
  apply propext
  constructor
  · rintro ⟨hg, h⟩
    simp only [Bool.and_eq_true, Bool.or_eq_true, beq_iff_eq, decide_eq_true_eq] at hg
    obtain ⟨⟨-, h0, -⟩, h1, h2, h3, h4⟩ := hg
    exact ⟨⟨h1, h2, h3, h0, h4⟩, h⟩
  · rintro ⟨⟨h1, h2, h3, h0, h4⟩, h⟩
    refine ⟨?_, h⟩
    simp only [Bool.and_eq_true, Bool.or_eq_true, beq_iff_eq, decide_eq_true_eq]
    exact ⟨⟨trivial, h0, Or.inl trivial⟩, h1, h2, h3, h4⟩
theorem qmB : qmc 102 = 49 ∧ qms 102 = 592 ∧ qmx 102 = 1 := by decide +kernel
set_option maxRecDepth 100000 in
theorem qlaw_pro {L : Nat} {xs : Nat → Int} {R : Option qV → qM → Prop} (h : qW (qtab L xs) 183 (600000, 7302250) 18 [(3, -7), (3, 0), (3, 69), (0, 0)] [] (LAY, FI) R) : qW (qtab L xs) 183 (600000, 7302250) 0 [(3, -7), (9, 0), (9, 0), (9, 0)] [] ([], fun _ _ => 0) R := by
  have ht : qtb0 0 = (qtab L xs) 0 := rfl
  simp only [YK, c183, t183, Nat.reduceAdd, qcat_3, true_and, List.length_nil, List.nil_append]
  refine ⟨⟨by decide, by decide⟩, ?_⟩
  rw [q_ctor]
  refine ⟨⟨by decide, by decide, by decide, by decide, by decide⟩, ?_⟩
  refine qrun_sound (tb := qtb0) ht 3000 _ _ _ _ _ _ none MA _ MA_eq ⟨by decide +kernel, ?_⟩
  simp only [YK, c183, t183, Nat.reduceAdd, qcat_3, true_and, Option.toList_none, List.nil_append]
  have e : MA.1.length = 69 := MA_len.1
  have hc : ((MA.1.length : Nat) : Int) = 69 := by rw [e]; rfl
  refine ⟨⟨by rw [e]; decide, by rw [MA_len.2]; decide⟩, ?_⟩
  rw [hc, q_ctor]
  have l1 : (MA.1 ++ [(0, 9)]).length = 70 := by rw [List.length_append, e]; rfl
  have l2 : qsz (MA.1 ++ [(0, 9)]) = 670 := by rw [qsz_push, MA_len.2]; rfl
  refine ⟨⟨by dsimp only; rw [l1, qmB.1]; decide, by dsimp only; rw [l2, qmB.2.1]; decide, by decide, by decide, by rw [qmB.2.2]; decide⟩, ?_⟩
  have hl : LAY.length = 119 := lay_len
  have hB := MB_eq
  unfold MBr MB0 at hB
  refine qrun_sound (tb := qtb0) ht 3000 _ _ _ _ _ _ none MB _ hB ⟨⟨?_, ?_⟩, ?_⟩
  · dsimp only
    rw [MB_lay, l1, hl, qmB.1]
  · dsimp only
    rw [MB_lay, l2, lay_sz, qmB.2.1]
  · simp only [YK, c183, t183, Nat.reduceAdd, qcat_3, true_and, Option.toList_none, List.nil_append]
    rw [show MB = (LAY, FI) from Prod.ext MB_lay rfl]
    exact h
