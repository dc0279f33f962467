/-! A RUN THAT CAN BE COUNTED OUT: for the constructors (no table but the first) -/
def qnot (ins : Instr) (v : Int) (st : List qV) : Bool := match ins with
  | .iaload => match st with
    | _ :: x :: _ => decide (0 ≤ x.2)
    | _ => true
  | .baload => match st with
    | _ :: x :: _ => decide (0 ≤ x.2)
    | _ => true
  | .laload => false
  | .arraylength => match st with
    | x :: _ => decide (0 ≤ x.2)
    | _ => true
  | .invokestatic _ => v != 7 || (match st with
    | _ :: _ :: _ :: _ :: x :: _ => decide (0 ≤ x.2) || decide (x.2 = -2)
    | _ => true)
  | .invokevirtual _ => v != 7
  | .invokespecial _ => v != 7
  | _ => true
theorem qinv_tb {tb tb2 : qTb} {lim : Nat × Nat} {a b : Nat} {v : Int} {pc : Nat} {ls st : List qV} {M : qM} (h : v ≠ 7) : qinv tb lim a b v pc ls st M = qinv tb2 lim a b v pc ls st M := by
  unfold qinv
  rw [if_neg h, if_neg h]
theorem qald_tb {tb tb2 : qTb} {k t pc : Nat} {ls st : List qV} {M : qM} (h : (match st with
    | _ :: x :: _ => decide (0 ≤ x.2)
    | _ => true) = true) : qald tb k t pc ls st M = qald tb2 k t pc ls st M := by
  unfold qald
  match st, h with
  | [], _ => rfl
  | [_], _ => rfl
  | i :: x :: r, h =>
    have h0 : ¬ x.2 < 0 := by have := of_decide_eq_true h; omega
    dsimp only
    rw [if_neg h0, if_neg h0]
theorem qlen_tb {tb tb2 : qTb} {pc : Nat} {ls st : List qV} {M : qM} (h : (match st with
    | x :: _ => decide (0 ≤ x.2)
    | _ => true) = true) : qlen tb pc ls st M = qlen tb2 pc ls st M := by
  unfold qlen
  match st, h with
  | [], _ => rfl
  | x :: r, h =>
    have h0 : ¬ x.2 < 0 := by have := of_decide_eq_true h; omega
    dsimp only
    rw [if_neg h0, if_neg h0]
theorem qcpy_tb {tb tb2 : qTb} (h2 : tb 0 = tb2 0) {pc : Nat} {ls st : List qV} {M : qM} (h : (match st with
    | _ :: _ :: _ :: _ :: x :: _ => decide (0 ≤ x.2) || decide (x.2 = -2)
    | _ => true) = true) : qcpy tb pc ls st M = qcpy tb2 pc ls st M := by
  unfold qcpy
  match st, h with
  | [], _ => rfl
  | [_], _ => rfl
  | [_, _], _ => rfl
  | [_, _, _], _ => rfl
  | [_, _, _, _], _ => rfl
  | n :: dp :: z :: sp :: x :: r, h =>
    dsimp only
    rcases Bool.or_eq_true_iff.mp h with h | h
    · have h0 : ¬ x.2 < 0 := by have := of_decide_eq_true h; omega
      rw [if_neg h0, if_neg h0]
    · have h0 : x.2 = -2 := of_decide_eq_true h
      have e : (-x.2 - 2).toNat = 0 := by rw [h0]; rfl
      rw [e, h2]
theorem qstp_tb {tb tb2 : qTb} (h2 : tb 0 = tb2 0) {lim : Nat × Nat} {pc : Nat} {ins : Instr} {len a b : Nat} {v : Int} {ls st : List qV} {M : qM} (h : qnot ins v st = true) : qstp tb lim pc ins len a b v ls st M = qstp tb2 lim pc ins len a b v ls st M := by
  cases ins with
  | iaload => exact qald_tb h
  | baload => exact qald_tb h
  | laload => cases h
  | arraylength => exact qlen_tb h
  | invokestatic i =>
    rcases Bool.or_eq_true_iff.mp h with h | h
    · exact qinv_tb (by simpa using h)
    · by_cases h7 : v = 7
      · show qinv tb lim a b v (pc + len) ls st M = qinv tb2 lim a b v (pc + len) ls st M
        unfold qinv
        rw [if_pos h7, if_pos h7]
        exact qcpy_tb h2 h
      · exact qinv_tb h7
  | invokevirtual i => exact qinv_tb (by simpa [qnot] using h)
  | invokespecial i => exact qinv_tb (by simpa [qnot] using h)
  | _ => rfl
def qrun (tb : qTb) : Nat → Nat → Nat × Nat → Nat → List qV → List qV → qM → Option (Option qV × qM)
  | 0, _, _, _, _, _, _ => none
  | n + 1, y, lim, pc, ls, st, M => match qcd y pc with
    | none => none
    | some e => if qnot e.2.1 e.2.2.2.2.2 st = true then (match qstp tb lim e.1 e.2.1 e.2.2.1 e.2.2.2.1 e.2.2.2.2.1 e.2.2.2.2.2 ls st M with
      | some (true, .inl (pc2, ls2, st2, M2)) => qrun tb n y lim pc2 ls2 st2 M2
      | some (true, .inr (.inl (y2, as, pc2, ls2, st2, M2))) => (match qrun tb n y2 (M2.1.length + qmc y2, qsz M2.1 + qms y2) 0 (qent (qmx y2) as) [] M2 with
        | some (r, M3) => if M3.1.length = M2.1.length + qmc y2 ∧ qsz M3.1 = qsz M2.1 + qms y2 then qrun tb n y lim pc2 ls2 (r.toList ++ st2) M3 else none
        | none => none)
      | some (true, .inr (.inr r)) => some (r, M)
      | _ => none) else none
theorem qrun_sound {tb tb2 : qTb} (h2 : tb 0 = tb2 0) : ∀ (n y : Nat) (lim : Nat × Nat) (pc : Nat) (ls st : List qV) (M : qM) (r : Option qV) (M2 : qM) (R : Option qV → qM → Prop), qrun tb n y lim pc ls st M = some (r, M2) → R r M2 → qW tb2 y lim pc ls st M R := by
  intro n
  induction n with
  | zero => intro y lim pc ls st M r M2 R h; cases h
  | succ n ih =>
    intro y lim pc ls st M r M2 R h hR
    unfold qrun at h
    apply qW_step
    unfold qcl
    split at h
    · cases h
    · next e he =>
      rw [he]
      dsimp only
      split at h
      · next hn =>
        rw [← qstp_tb (tb := tb) h2 hn]
        split at h
        · next pc2 ls2 st2 M3 hs =>
          rw [hs]
          exact ⟨rfl, ih _ _ _ _ _ _ _ _ _ h hR⟩
        · next y2 as pc2 ls2 st2 M3 hs =>
          rw [hs]
          split at h
          · next r3 M4 hc =>
            split at h
            · next hl => exact ⟨rfl, ih _ _ _ _ _ _ _ _ _ hc ⟨hl, ih _ _ _ _ _ _ _ _ _ h hR⟩⟩
            · cases h
          · cases h
        · next r3 hs =>
          rw [hs]
          cases h
          exact ⟨rfl, hR⟩
        · cases h
      · cases h
/-- behind the two constructors -/
def qtb0 : qTb := qtab 0 (fun _ => 0)
def MA0 : qM := ([(0, 8)], va_up (fun _ _ => 0) 0 (fun j => if qtg 8 j = 3 then -1 else 0))
def qinA : Nat := 69
def MAr : Option (Option qV × qM) := qrun qtb0 3000 69 (1 + qmc 69, 14 + qms 69) 0 (qent (qmx 69) [(3, 0)]) [] MA0
def MA : qM := (MAr.getD (none, ([], fun _ _ => 0))).2
def MB0 : qM := (MA.1 ++ [(0, 9)], va_up MA.2 MA.1.length (fun j => if qtg 9 j = 3 then -1 else 0))
def MBr : Option (Option qV × qM) := qrun qtb0 3000 102 (MB0.1.length + qmc 102, qsz MB0.1 + qms 102) 0 (qent (qmx 102) [(3, 69)]) [] MB0
def MB : qM := (MBr.getD (none, ([], fun _ _ => 0))).2
theorem MAr_ok : (match MAr with
    | some (none, _) => true
    | _ => false) = true := by decide +kernel
theorem MBr_ok : (match MBr with
    | some (none, _) => true
    | _ => false) = true := by decide +kernel
theorem MA_eq : MAr = some (none, MA) := by
  have h := MAr_ok
  unfold MA
  split at h
  · next M hM => rw [hM]; rfl
  · cases h
theorem MB_eq : MBr = some (none, MB) := by
  have h := MBr_ok
  unfold MB
  split at h
  · next M hM => rw [hM]; rfl
  · cases h
theorem MA_len : MA.1.length = 69 ∧ qsz MA.1 = 601 := by decide +kernel
theorem MB_lay : MB.1 = LAY := by decide +kernel
def FI : Nat → Nat → Int := MB.2
