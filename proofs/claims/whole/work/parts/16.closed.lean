set_option maxHeartbeats 8000000 in
/-- one step of the small machine is one of the machine's -/
theorem qS_closed (l : Launch) (D : va_G) (cy : Nat → ClassId) (sa : Nat → Nat) (tb : qTb) : ∀ y lim pc ls st M R, qcl tb (qS l D cy sa tb) y lim pc ls st M R → qS l D cy sa tb y lim pc ls st M R := by
  intro y lim pc ls st M Rr h
  unfold qcl at h
  split at h
  · exact h.elim
  next ent he =>
  intro p e R s m args below meth c A H locs cells slots ad ad0 lsA c0 s0 n0 Q C
  obtain ⟨hpc, hd, hck⟩ := qcd_ok C.1.1 he
  have hrm := qrm_ok C.1.1 he
  clear he
  obtain ⟨pc2, ins, len, a, b, v⟩ := ent
  dsimp only at hpc hd hck hrm h
  subst hpc
  have hb2 := Bool.and_eq_true_iff.mp (show (_ && _) = true from hck)
  cases ins with
  | iload i =>
    obtain rfl : len = 2 := qchk_len hck (by simp [qexl])
    exact qs_iload C hd h
  | iload_n i =>
    obtain rfl : len = 1 := qchk_len hck (by simp [qexl])
    exact qs_iload_n C hd h
  | lload i =>
    obtain rfl : len = 2 := qchk_len hck (by simp [qexl])
    exact qs_lload C hd h
  | lload_n i =>
    obtain rfl : len = 1 := qchk_len hck (by simp [qexl])
    exact qs_lload_n C hd h
  | fload_n i =>
    obtain rfl : len = 1 := qchk_len hck (by simp [qexl])
    exact qs_fload_n C hd h
  | dload_n i =>
    obtain rfl : len = 1 := qchk_len hck (by simp [qexl])
    exact qs_dload_n C hd h
  | aload i =>
    obtain rfl : len = 2 := qchk_len hck (by simp [qexl])
    exact qs_aload C hd h
  | aload_n i =>
    obtain rfl : len = 1 := qchk_len hck (by simp [qexl])
    exact qs_aload_n C hd h
  | istore i =>
    obtain rfl : len = 2 := qchk_len hck (by simp [qexl])
    exact qs_istore C hd h
  | istore_n i =>
    obtain rfl : len = 1 := qchk_len hck (by simp [qexl])
    exact qs_istore_n C hd h
  | astore i =>
    obtain rfl : len = 2 := qchk_len hck (by simp [qexl])
    exact qs_astore C hd h
  | astore_n i =>
    obtain rfl : len = 1 := qchk_len hck (by simp [qexl])
    exact qs_astore_n C hd h
  | lstore i =>
    obtain rfl : len = 2 := qchk_len hck (by simp [qexl])
    exact qs_lstore C hd h
  | lstore_n i =>
    obtain rfl : len = 1 := qchk_len hck (by simp [qexl])
    exact qs_lstore_n C hd h
  | dstore_n i =>
    obtain rfl : len = 1 := qchk_len hck (by simp [qexl])
    exact qs_dstore_n C hd h
  | iinc i n =>
    obtain rfl : len = 3 := qchk_len hck (by simp [qexl])
    exact qs_iinc C hd h
  | lconst n =>
    obtain rfl : len = 1 := qchk_len hck (by simp [qexl])
    exact qs_lconst C hd h
  | dconst n =>
    obtain rfl : len = 1 := qchk_len hck (by simp [qexl])
    exact qs_dconst C hd h
  | iadd =>
    obtain rfl : len = 1 := qchk_len hck (by simp [qexl])
    exact qs_iadd C hd h
  | isub =>
    obtain rfl : len = 1 := qchk_len hck (by simp [qexl])
    exact qs_isub C hd h
  | imul =>
    obtain rfl : len = 1 := qchk_len hck (by simp [qexl])
    exact qs_imul C hd h
  | iand =>
    obtain rfl : len = 1 := qchk_len hck (by simp [qexl])
    exact qs_iand C hd h
  | ior =>
    obtain rfl : len = 1 := qchk_len hck (by simp [qexl])
    exact qs_ior C hd h
  | ixor =>
    obtain rfl : len = 1 := qchk_len hck (by simp [qexl])
    exact qs_ixor C hd h
  | ishl =>
    obtain rfl : len = 1 := qchk_len hck (by simp [qexl])
    exact qs_ishl C hd h
  | ishr =>
    obtain rfl : len = 1 := qchk_len hck (by simp [qexl])
    exact qs_ishr C hd h
  | iushr =>
    obtain rfl : len = 1 := qchk_len hck (by simp [qexl])
    exact qs_iushr C hd h
  | idiv =>
    obtain rfl : len = 1 := qchk_len hck (by simp [qexl])
    exact qs_idiv C hd h
  | irem =>
    obtain rfl : len = 1 := qchk_len hck (by simp [qexl])
    exact qs_irem C hd h
  | ineg =>
    obtain rfl : len = 1 := qchk_len hck (by simp [qexl])
    exact qs_ineg C hd h
  | ladd =>
    obtain rfl : len = 1 := qchk_len hck (by simp [qexl])
    exact qs_ladd C hd h
  | lsub =>
    obtain rfl : len = 1 := qchk_len hck (by simp [qexl])
    exact qs_lsub C hd h
  | lmul =>
    obtain rfl : len = 1 := qchk_len hck (by simp [qexl])
    exact qs_lmul C hd h
  | land =>
    obtain rfl : len = 1 := qchk_len hck (by simp [qexl])
    exact qs_land C hd h
  | lor =>
    obtain rfl : len = 1 := qchk_len hck (by simp [qexl])
    exact qs_lor C hd h
  | ldiv =>
    obtain rfl : len = 1 := qchk_len hck (by simp [qexl])
    exact qs_ldiv C hd h
  | lrem =>
    obtain rfl : len = 1 := qchk_len hck (by simp [qexl])
    exact qs_lrem C hd h
  | lneg =>
    obtain rfl : len = 1 := qchk_len hck (by simp [qexl])
    exact qs_lneg C hd h
  | lshl =>
    obtain rfl : len = 1 := qchk_len hck (by simp [qexl])
    exact qs_lshl C hd h
  | lshr =>
    obtain rfl : len = 1 := qchk_len hck (by simp [qexl])
    exact qs_lshr C hd h
  | lushr =>
    obtain rfl : len = 1 := qchk_len hck (by simp [qexl])
    exact qs_lushr C hd h
  | i2l =>
    obtain rfl : len = 1 := qchk_len hck (by simp [qexl])
    exact qs_i2l C hd h
  | l2i =>
    obtain rfl : len = 1 := qchk_len hck (by simp [qexl])
    exact qs_l2i C hd h
  | i2f =>
    obtain rfl : len = 1 := qchk_len hck (by simp [qexl])
    exact qs_i2f C hd h
  | d2i =>
    obtain rfl : len = 1 := qchk_len hck (by simp [qexl])
    exact qs_d2i C hd h
  | f2d =>
    obtain rfl : len = 1 := qchk_len hck (by simp [qexl])
    exact qs_f2d C hd h
  | fadd =>
    obtain rfl : len = 1 := qchk_len hck (by simp [qexl])
    exact qs_fadd C hd h
  | fsub =>
    obtain rfl : len = 1 := qchk_len hck (by simp [qexl])
    exact qs_fsub C hd h
  | fmul =>
    obtain rfl : len = 1 := qchk_len hck (by simp [qexl])
    exact qs_fmul C hd h
  | dmul =>
    obtain rfl : len = 1 := qchk_len hck (by simp [qexl])
    exact qs_dmul C hd h
  | ddiv =>
    obtain rfl : len = 1 := qchk_len hck (by simp [qexl])
    exact qs_ddiv C hd h
  | lcmp =>
    obtain rfl : len = 1 := qchk_len hck (by simp [qexl])
    exact qs_lcmp C hd h
  | dup =>
    obtain rfl : len = 1 := qchk_len hck (by simp [qexl])
    exact qs_dup C hd h
  | pop =>
    obtain rfl : len = 1 := qchk_len hck (by simp [qexl])
    exact qs_pop C hd h
  | dup2 =>
    obtain rfl : len = 1 := qchk_len hck (by simp [qexl])
    exact qs_dup2 C hd h
  | iaload =>
    obtain rfl : len = 1 := qchk_len hck (by simp [qexl])
    exact qs_iaload C hd h
  | baload =>
    obtain rfl : len = 1 := qchk_len hck (by simp [qexl])
    exact qs_baload C hd h
  | laload =>
    obtain rfl : len = 1 := qchk_len hck (by simp [qexl])
    exact qs_laload C hd h
  | aaload =>
    obtain rfl : len = 1 := qchk_len hck (by simp [qexl])
    exact qs_aaload C hd h
  | iastore =>
    obtain rfl : len = 1 := qchk_len hck (by simp [qexl])
    exact qs_iastore C hd h
  | bastore =>
    obtain rfl : len = 1 := qchk_len hck (by simp [qexl])
    exact qs_bastore C hd h
  | aastore =>
    obtain rfl : len = 1 := qchk_len hck (by simp [qexl])
    exact qs_aastore C hd h
  | arraylength =>
    obtain rfl : len = 1 := qchk_len hck (by simp [qexl])
    exact qs_arraylength C hd h
  | fcmp o =>
    obtain rfl : len = 1 := qchk_len hck (by simp [qexl])
    exact qs_fcmp C hd h
  | dcmp o =>
    obtain rfl : len = 1 := qchk_len hck (by simp [qexl])
    exact qs_dcmp C hd h
  | iconst n =>
    obtain rfl : len = 1 := qchk_len hck (by simp [qexl])
    have hc : (decide (-128 ≤ n) && decide (n < 128)) = true := hb2.2
    simp only [Bool.and_eq_true, Bool.or_eq_true, beq_iff_eq, decide_eq_true_eq] at hc
    exact qs_iconst C hc hd h
  | bipush n =>
    obtain rfl : len = 2 := qchk_len hck (by simp [qexl])
    have hc : (decide (-128 ≤ n) && decide (n < 128)) = true := hb2.2
    simp only [Bool.and_eq_true, Bool.or_eq_true, beq_iff_eq, decide_eq_true_eq] at hc
    exact qs_bipush C hc hd h
  | sipush n =>
    obtain rfl : len = 3 := qchk_len hck (by simp [qexl])
    have hc : (decide (-32768 ≤ n) && decide (n < 32768)) = true := hb2.2
    simp only [Bool.and_eq_true, Bool.or_eq_true, beq_iff_eq, decide_eq_true_eq] at hc
    exact qs_sipush C hc hd h
  | fconst n =>
    obtain rfl : len = 1 := qchk_len hck (by simp [qexl])
    have hc : (decide ((n : Nat) < 2)) = true := hb2.2
    simp only [Bool.and_eq_true, Bool.or_eq_true, beq_iff_eq, decide_eq_true_eq] at hc
    exact qs_fconst C hc hd h
  | ldc idx =>
    obtain rfl : len = 2 := qchk_len hck (by simp [qexl])
    have hc : (decide ((qow y, idx, a, v) ∈ qkl) && decide (a < 2)) = true := hb2.2
    simp only [Bool.and_eq_true, Bool.or_eq_true, beq_iff_eq, decide_eq_true_eq] at hc
    exact qs_ldc C hc.1 hc.2 hd h
  | ldc_w idx =>
    obtain rfl : len = 3 := qchk_len hck (by simp [qexl])
    have hc : (decide ((qow y, idx, a, v) ∈ qkl) && (a == 0)) = true := hb2.2
    simp only [Bool.and_eq_true, Bool.or_eq_true, beq_iff_eq, decide_eq_true_eq] at hc
    exact qs_ldc_w C hc.1 hc.2 hd h
  | ldc2_w idx =>
    obtain rfl : len = 3 := qchk_len hck (by simp [qexl])
    have hc : (decide ((qow y, idx, a, v) ∈ qkl) && (a == 2 || a == 3)) = true := hb2.2
    simp only [Bool.and_eq_true, Bool.or_eq_true, beq_iff_eq, decide_eq_true_eq] at hc
    exact qs_ldc2_w C hc.1 hc.2 hd h
  | ifCond k off =>
    obtain rfl : len = 3 := qchk_len hck (by simp [qexl])
    have hc : (decide (0 ≤ (pc2 : Int) + off)) = true := hb2.2
    simp only [Bool.and_eq_true, Bool.or_eq_true, beq_iff_eq, decide_eq_true_eq] at hc
    exact qs_if1 C hc hd h
  | if_icmp k off =>
    obtain rfl : len = 3 := qchk_len hck (by simp [qexl])
    have hc : (decide (0 ≤ (pc2 : Int) + off)) = true := hb2.2
    simp only [Bool.and_eq_true, Bool.or_eq_true, beq_iff_eq, decide_eq_true_eq] at hc
    exact qs_if2 C hc hd h
  | goto off =>
    obtain rfl : len = 3 := qchk_len hck (by simp [qexl])
    have hc : (decide (0 ≤ (pc2 : Int) + off)) = true := hb2.2
    simp only [Bool.and_eq_true, Bool.or_eq_true, beq_iff_eq, decide_eq_true_eq] at hc
    exact qs_goto C hc hd h
  | tableswitch d lo hi offs =>
    have hc : (decide (0 ≤ (pc2 : Int) + d) && (decide (lo ≤ hi) && (decide ((offs.size : Int) = hi - lo + 1) && offs.toList.all (fun q => decide (0 ≤ (pc2 : Int) + q))))) = true := hb2.2
    simp only [Bool.and_eq_true, decide_eq_true_eq, List.all_eq_true] at hc
    exact qs_tsw C hc.1 hc.2.1 hc.2.2.1 hc.2.2.2 hd h
  | lookupswitch d ps =>
    have hc : (decide (0 ≤ (pc2 : Int) + d) && (ps.toList.all (fun q => decide (0 ≤ (pc2 : Int) + q.2)) && (ps.toList.zip (ps.toList.drop 1)).all (fun (a, next) => a.1 < next.1))) = true := hb2.2
    rw [Bool.and_eq_true, Bool.and_eq_true, decide_eq_true_eq] at hc
    exact qs_lsw C hc.1 (fun q hq => of_decide_eq_true (List.all_eq_true.mp hc.2.1 q hq)) hc.2.2 hd h
  | ireturn =>
    obtain rfl : len = 1 := qchk_len hck (by simp [qexl])
    have hc : ((a == 0 && decide (qrt y = some .int)) || (a == 1 && decide (qrt y = some .boolean))) = true := hb2.2
    simp only [Bool.and_eq_true, Bool.or_eq_true, beq_iff_eq, decide_eq_true_eq] at hc
    exact qs_ireturn C hc hd h
  | lreturn =>
    obtain rfl : len = 1 := qchk_len hck (by simp [qexl])
    have hc : (decide (qrt y = some .long)) = true := hb2.2
    simp only [Bool.and_eq_true, Bool.or_eq_true, beq_iff_eq, decide_eq_true_eq] at hc
    exact qs_lreturn C hc hd h
  | return_ =>
    obtain rfl : len = 1 := qchk_len hck (by simp [qexl])
    have hc : (decide (qrt y = none)) = true := hb2.2
    simp only [Bool.and_eq_true, Bool.or_eq_true, beq_iff_eq, decide_eq_true_eq] at hc
    exact qs_return C hc hd h
  | getfield idx =>
    obtain rfl : len = 3 := qchk_len hck (by simp [qexl])
    have hc : (decide ((qow y, idx, a, b) ∈ qfl) && decide (b < qnf a)) = true := hb2.2
    simp only [Bool.and_eq_true, Bool.or_eq_true, beq_iff_eq, decide_eq_true_eq] at hc
    exact qs_getfield C hc.1 hc.2 hd h
  | putfield idx =>
    obtain rfl : len = 3 := qchk_len hck (by simp [qexl])
    have hc : (decide ((qow y, idx, a, b) ∈ qfl) && (decide (b < qnf a) && (!(qFT a b).2.2.2 || (decide (y ∈ qinits) && qow y == a)))) = true := hb2.2
    simp only [Bool.and_eq_true, Bool.or_eq_true, beq_iff_eq, decide_eq_true_eq, Bool.not_eq_true'] at hc
    exact qs_putfield C hc.1 hc.2.1 hc.2.2 hd h
  | getstatic idx =>
    obtain rfl : len = 3 := qchk_len hck (by simp [qexl])
    have hc : (decide ((qow y, idx, a, v) ∈ qsl) && decide (a < 5)) = true := hb2.2
    simp only [Bool.and_eq_true, Bool.or_eq_true, beq_iff_eq, decide_eq_true_eq] at hc
    exact qs_getstatic C hc.1 hc.2 hd h
  | new idx =>
    obtain rfl : len = 3 := qchk_len hck (by simp [qexl])
    have hc : (decide ((qow y, idx, 0, a) ∈ qcll) && decide (a < 10)) = true := hb2.2
    simp only [Bool.and_eq_true, Bool.or_eq_true, beq_iff_eq, decide_eq_true_eq] at hc
    exact qs_new C hc.1 hc.2 hd h
  | newarray t =>
    obtain rfl : len = 2 := qchk_len hck (by simp [qexl])
    cases t with
    | int => exact qs_newi C hd h
    | boolean => exact qs_newz C hd h
    | _ => exact h.elim
  | anewarray idx =>
    obtain rfl : len = 3 := qchk_len hck (by simp [qexl])
    have hc : (decide ((qow y, idx, 1, a) ∈ qcll) && (a == 3 || a == 4)) = true := hb2.2
    simp only [Bool.and_eq_true, Bool.or_eq_true, beq_iff_eq, decide_eq_true_eq] at hc
    exact qs_anew C hc.1 hc.2 hd h
  | invokevirtual idx =>
    obtain rfl : len = 3 := qchk_len hck (by simp [qexl])
    have hc : (decide ((qow y, idx, a, b, v) ∈ qml) && (v == 0)) = true := hb2.2
    simp only [Bool.and_eq_true, Bool.or_eq_true, beq_iff_eq, decide_eq_true_eq] at hc
    obtain ⟨h1, rfl⟩ := hc
    exact qs_invV C h1 hrm hd h
  | invokestatic idx =>
    obtain rfl : len = 3 := qchk_len hck (by simp [qexl])
    have hc : (decide ((qow y, idx, a, b, v) ∈ qml) && (v == 1 || (v == 4 || (v == 7 || (v == 8 || v == 9))))) = true := hb2.2
    simp only [Bool.and_eq_true, Bool.or_eq_true, beq_iff_eq, decide_eq_true_eq] at hc
    obtain ⟨h1, h2⟩ := hc
    rcases h2 with rfl | rfl | rfl | rfl | rfl
    · exact qs_invS C h1 hrm hd h
    · exact qs_invSN C h1 hrm hd h
    · exact qs_copy C h1 hrm hd h
    · exact qs_min C h1 hrm hd h
    · exact qs_abs C h1 hrm hd h
  | invokespecial idx =>
    obtain rfl : len = 3 := qchk_len hck (by simp [qexl])
    have hc : (decide ((qow y, idx, a, b, v) ∈ qml) && ((v == 2 || v == 5 || v == 6) && (v == 6 || decide (a ∈ qinits)))) = true := hb2.2
    simp only [Bool.and_eq_true, Bool.or_eq_true, beq_iff_eq, decide_eq_true_eq] at hc
    obtain ⟨h1, h2, h3⟩ := hc
    rcases h2 with (rfl | rfl) | rfl
    · exact qs_invI C h1 (h3.resolve_left (by decide)) hrm hd h
    · exact qs_invIN C h1 (h3.resolve_left (by decide)) hrm hd h
    · exact qs_obj C h1 hrm hd h
  | _ => exact h.elim
/-- THE SMALL MACHINE'S RUN IS THE MACHINE'S -/
theorem qS_of {l : Launch} {D : va_G} {cy : Nat → ClassId} {sa : Nat → Nat} {tb : qTb} {y : Nat} {lim : Nat × Nat} {pc : Nat} {ls st : List qV} {M : qM} {R : Option qV → qM → Prop} (h : qW tb y lim pc ls st M R) : qS l D cy sa tb y lim pc ls st M R := h (qS l D cy sa tb) (qS_mono l D cy sa tb) (qS_closed l D cy sa tb)
