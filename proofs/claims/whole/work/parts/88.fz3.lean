/-! floats, 7: the bits of a whole number times a power of two -/
theorem w32_hi {T : Int} (h : 0 ≤ T ∧ T < 2147483648) : w32 (T + 2147483648) = T - 2147483648 := by
  have e : w32 (T + 2147483648) = w32 (T - 2147483648) := by
    unfold w32
    rw [Int32.toInt_ofInt, Int32.toInt_ofInt, show T + 2147483648 = T - 2147483648 + ((4294967296 : Nat) : Int) by omega]
    exact Int.add_bmod_right _ _
  rw [e]
  exact w32_id ⟨by omega, by omega⟩
theorem p2n (k : Nat) : (2 : Int) ^ k = ((2 ^ k : Nat) : Int) := by
  rw [Int.natCast_pow]
  rfl
theorem y_lstore9 (tb : qTb) (y : Nat) (lim : Nat × Nat) (R : Option qV → qM → Prop) (pc : Nat) (len : Nat) (a : Nat) (b : Nat) (v : Int) (M : qM) (v0 v1 v2 v3 v4 v5 v6 v7 v8 : qV) (w w2 : qV) (x : Int) (l r : List qV) : qy tb y lim R (pc, .lstore 9, len, a, b, v) (v0 :: v1 :: v2 :: v3 :: v4 :: v5 :: v6 :: v7 :: v8 :: w :: w2 :: l) ((1, x) :: r) M = (qcat v8.1 = 1 ∧ qW tb y lim (pc + len) (v0 :: v1 :: v2 :: v3 :: v4 :: v5 :: v6 :: v7 :: v8 :: (1, x) :: (9, 0) :: l) (r) (M) R) := by simp [qy, qgo, qstp, qst2, qnx, qfre, fin3]
theorem g113_32 (tb : qTb) (lim : Nat × Nat) (R : Option qV → qM → Prop) (ls st : List qV) (M : qM) : qW tb 113 lim 32 ls st M R = qy tb 113 lim R (32, .lconst 0, 1, 0, 0, 0) ls st M := qW_at (qcdB_spec (e := (32, .lconst 0, 1, 0, 0, 0)) (by decide +kernel))
theorem g113_33 (tb : qTb) (lim : Nat × Nat) (R : Option qV → qM → Prop) (ls st : List qV) (M : qM) : qW tb 113 lim 33 ls st M R = qy tb 113 lim R (33, .lcmp, 1, 0, 0, 0) ls st M := qW_at (qcdB_spec (e := (33, .lcmp, 1, 0, 0, 0)) (by decide +kernel))
theorem g113_34 (tb : qTb) (lim : Nat × Nat) (R : Option qV → qM → Prop) (ls st : List qV) (M : qM) : qW tb 113 lim 34 ls st M R = qy tb 113 lim R (34, .ifCond .le 15, 3, 0, 0, 0) ls st M := qW_at (qcdB_spec (e := (34, .ifCond .le 15, 3, 0, 0, 0)) (by decide +kernel))
theorem g113_37 (tb : qTb) (lim : Nat × Nat) (R : Option qV → qM → Prop) (ls st : List qV) (M : qM) : qW tb 113 lim 37 ls st M R = qy tb 113 lim R (37, .iinc 6 1, 3, 0, 0, 0) ls st M := qW_at (qcdB_spec (e := (37, .iinc 6 1, 3, 0, 0, 0)) (by decide +kernel))
theorem g113_40 (tb : qTb) (lim : Nat × Nat) (R : Option qV → qM → Prop) (ls st : List qV) (M : qM) : qW tb 113 lim 40 ls st M R = qy tb 113 lim R (40, .lload 7, 2, 0, 0, 0) ls st M := qW_at (qcdB_spec (e := (40, .lload 7, 2, 0, 0, 0)) (by decide +kernel))
theorem g113_42 (tb : qTb) (lim : Nat × Nat) (R : Option qV → qM → Prop) (ls st : List qV) (M : qM) : qW tb 113 lim 42 ls st M R = qy tb 113 lim R (42, .iconst 1, 1, 0, 0, 0) ls st M := qW_at (qcdB_spec (e := (42, .iconst 1, 1, 0, 0, 0)) (by decide +kernel))
theorem g113_43 (tb : qTb) (lim : Nat × Nat) (R : Option qV → qM → Prop) (ls st : List qV) (M : qM) : qW tb 113 lim 43 ls st M R = qy tb 113 lim R (43, .lshr, 1, 0, 0, 0) ls st M := qW_at (qcdB_spec (e := (43, .lshr, 1, 0, 0, 0)) (by decide +kernel))
theorem g113_44 (tb : qTb) (lim : Nat × Nat) (R : Option qV → qM → Prop) (ls st : List qV) (M : qM) : qW tb 113 lim 44 ls st M R = qy tb 113 lim R (44, .lstore 7, 2, 0, 0, 0) ls st M := qW_at (qcdB_spec (e := (44, .lstore 7, 2, 0, 0, 0)) (by decide +kernel))
theorem g113_46 (tb : qTb) (lim : Nat × Nat) (R : Option qV → qM → Prop) (ls st : List qV) (M : qM) : qW tb 113 lim 46 ls st M R = qy tb 113 lim R (46, .goto (-16), 3, 0, 0, 0) ls st M := qW_at (qcdB_spec (e := (46, .goto (-16), 3, 0, 0, 0)) (by decide +kernel))
theorem g113_49 (tb : qTb) (lim : Nat × Nat) (R : Option qV → qM → Prop) (ls st : List qV) (M : qM) : qW tb 113 lim 49 ls st M R = qy tb 113 lim R (49, .iload 6, 2, 0, 0, 0) ls st M := qW_at (qcdB_spec (e := (49, .iload 6, 2, 0, 0, 0)) (by decide +kernel))
theorem g113_51 (tb : qTb) (lim : Nat × Nat) (R : Option qV → qM → Prop) (ls st : List qV) (M : qM) : qW tb 113 lim 51 ls st M R = qy tb 113 lim R (51, .bipush 24, 2, 0, 0, 0) ls st M := qW_at (qcdB_spec (e := (51, .bipush 24, 2, 0, 0, 0)) (by decide +kernel))
theorem g113_53 (tb : qTb) (lim : Nat × Nat) (R : Option qV → qM → Prop) (ls st : List qV) (M : qM) : qW tb 113 lim 53 ls st M R = qy tb 113 lim R (53, .if_icmp .le 80, 3, 0, 0, 0) ls st M := qW_at (qcdB_spec (e := (53, .if_icmp .le 80, 3, 0, 0, 0)) (by decide +kernel))
theorem g113_56 (tb : qTb) (lim : Nat × Nat) (R : Option qV → qM → Prop) (ls st : List qV) (M : qM) : qW tb 113 lim 56 ls st M R = qy tb 113 lim R (56, .lload_n 3, 1, 0, 0, 0) ls st M := qW_at (qcdB_spec (e := (56, .lload_n 3, 1, 0, 0, 0)) (by decide +kernel))
theorem g113_57 (tb : qTb) (lim : Nat × Nat) (R : Option qV → qM → Prop) (ls st : List qV) (M : qM) : qW tb 113 lim 57 ls st M R = qy tb 113 lim R (57, .lconst 1, 1, 0, 0, 0) ls st M := qW_at (qcdB_spec (e := (57, .lconst 1, 1, 0, 0, 0)) (by decide +kernel))
theorem g113_58 (tb : qTb) (lim : Nat × Nat) (R : Option qV → qM → Prop) (ls st : List qV) (M : qM) : qW tb 113 lim 58 ls st M R = qy tb 113 lim R (58, .iload 6, 2, 0, 0, 0) ls st M := qW_at (qcdB_spec (e := (58, .iload 6, 2, 0, 0, 0)) (by decide +kernel))
theorem g113_60 (tb : qTb) (lim : Nat × Nat) (R : Option qV → qM → Prop) (ls st : List qV) (M : qM) : qW tb 113 lim 60 ls st M R = qy tb 113 lim R (60, .bipush 24, 2, 0, 0, 0) ls st M := qW_at (qcdB_spec (e := (60, .bipush 24, 2, 0, 0, 0)) (by decide +kernel))
theorem g113_62 (tb : qTb) (lim : Nat × Nat) (R : Option qV → qM → Prop) (ls st : List qV) (M : qM) : qW tb 113 lim 62 ls st M R = qy tb 113 lim R (62, .isub, 1, 0, 0, 0) ls st M := qW_at (qcdB_spec (e := (62, .isub, 1, 0, 0, 0)) (by decide +kernel))
theorem g113_63 (tb : qTb) (lim : Nat × Nat) (R : Option qV → qM → Prop) (ls st : List qV) (M : qM) : qW tb 113 lim 63 ls st M R = qy tb 113 lim R (63, .lshl, 1, 0, 0, 0) ls st M := qW_at (qcdB_spec (e := (63, .lshl, 1, 0, 0, 0)) (by decide +kernel))
theorem g113_64 (tb : qTb) (lim : Nat × Nat) (R : Option qV → qM → Prop) (ls st : List qV) (M : qM) : qW tb 113 lim 64 ls st M R = qy tb 113 lim R (64, .lconst 1, 1, 0, 0, 0) ls st M := qW_at (qcdB_spec (e := (64, .lconst 1, 1, 0, 0, 0)) (by decide +kernel))
theorem g113_65 (tb : qTb) (lim : Nat × Nat) (R : Option qV → qM → Prop) (ls st : List qV) (M : qM) : qW tb 113 lim 65 ls st M R = qy tb 113 lim R (65, .lsub, 1, 0, 0, 0) ls st M := qW_at (qcdB_spec (e := (65, .lsub, 1, 0, 0, 0)) (by decide +kernel))
theorem g113_66 (tb : qTb) (lim : Nat × Nat) (R : Option qV → qM → Prop) (ls st : List qV) (M : qM) : qW tb 113 lim 66 ls st M R = qy tb 113 lim R (66, .land, 1, 0, 0, 0) ls st M := qW_at (qcdB_spec (e := (66, .land, 1, 0, 0, 0)) (by decide +kernel))
theorem g113_67 (tb : qTb) (lim : Nat × Nat) (R : Option qV → qM → Prop) (ls st : List qV) (M : qM) : qW tb 113 lim 67 ls st M R = qy tb 113 lim R (67, .lstore 7, 2, 0, 0, 0) ls st M := qW_at (qcdB_spec (e := (67, .lstore 7, 2, 0, 0, 0)) (by decide +kernel))
theorem g113_69 (tb : qTb) (lim : Nat × Nat) (R : Option qV → qM → Prop) (ls st : List qV) (M : qM) : qW tb 113 lim 69 ls st M R = qy tb 113 lim R (69, .lconst 1, 1, 0, 0, 0) ls st M := qW_at (qcdB_spec (e := (69, .lconst 1, 1, 0, 0, 0)) (by decide +kernel))
theorem g113_70 (tb : qTb) (lim : Nat × Nat) (R : Option qV → qM → Prop) (ls st : List qV) (M : qM) : qW tb 113 lim 70 ls st M R = qy tb 113 lim R (70, .iload 6, 2, 0, 0, 0) ls st M := qW_at (qcdB_spec (e := (70, .iload 6, 2, 0, 0, 0)) (by decide +kernel))
theorem g113_72 (tb : qTb) (lim : Nat × Nat) (R : Option qV → qM → Prop) (ls st : List qV) (M : qM) : qW tb 113 lim 72 ls st M R = qy tb 113 lim R (72, .bipush 25, 2, 0, 0, 0) ls st M := qW_at (qcdB_spec (e := (72, .bipush 25, 2, 0, 0, 0)) (by decide +kernel))
theorem g113_74 (tb : qTb) (lim : Nat × Nat) (R : Option qV → qM → Prop) (ls st : List qV) (M : qM) : qW tb 113 lim 74 ls st M R = qy tb 113 lim R (74, .isub, 1, 0, 0, 0) ls st M := qW_at (qcdB_spec (e := (74, .isub, 1, 0, 0, 0)) (by decide +kernel))
theorem g113_75 (tb : qTb) (lim : Nat × Nat) (R : Option qV → qM → Prop) (ls st : List qV) (M : qM) : qW tb 113 lim 75 ls st M R = qy tb 113 lim R (75, .lshl, 1, 0, 0, 0) ls st M := qW_at (qcdB_spec (e := (75, .lshl, 1, 0, 0, 0)) (by decide +kernel))
theorem g113_76 (tb : qTb) (lim : Nat × Nat) (R : Option qV → qM → Prop) (ls st : List qV) (M : qM) : qW tb 113 lim 76 ls st M R = qy tb 113 lim R (76, .lstore 9, 2, 0, 0, 0) ls st M := qW_at (qcdB_spec (e := (76, .lstore 9, 2, 0, 0, 0)) (by decide +kernel))
theorem g113_78 (tb : qTb) (lim : Nat × Nat) (R : Option qV → qM → Prop) (ls st : List qV) (M : qM) : qW tb 113 lim 78 ls st M R = qy tb 113 lim R (78, .lload_n 3, 1, 0, 0, 0) ls st M := qW_at (qcdB_spec (e := (78, .lload_n 3, 1, 0, 0, 0)) (by decide +kernel))
theorem g113_79 (tb : qTb) (lim : Nat × Nat) (R : Option qV → qM → Prop) (ls st : List qV) (M : qM) : qW tb 113 lim 79 ls st M R = qy tb 113 lim R (79, .iload 6, 2, 0, 0, 0) ls st M := qW_at (qcdB_spec (e := (79, .iload 6, 2, 0, 0, 0)) (by decide +kernel))
theorem g113_81 (tb : qTb) (lim : Nat × Nat) (R : Option qV → qM → Prop) (ls st : List qV) (M : qM) : qW tb 113 lim 81 ls st M R = qy tb 113 lim R (81, .bipush 24, 2, 0, 0, 0) ls st M := qW_at (qcdB_spec (e := (81, .bipush 24, 2, 0, 0, 0)) (by decide +kernel))
theorem g113_83 (tb : qTb) (lim : Nat × Nat) (R : Option qV → qM → Prop) (ls st : List qV) (M : qM) : qW tb 113 lim 83 ls st M R = qy tb 113 lim R (83, .isub, 1, 0, 0, 0) ls st M := qW_at (qcdB_spec (e := (83, .isub, 1, 0, 0, 0)) (by decide +kernel))
theorem g113_84 (tb : qTb) (lim : Nat × Nat) (R : Option qV → qM → Prop) (ls st : List qV) (M : qM) : qW tb 113 lim 84 ls st M R = qy tb 113 lim R (84, .lshr, 1, 0, 0, 0) ls st M := qW_at (qcdB_spec (e := (84, .lshr, 1, 0, 0, 0)) (by decide +kernel))
theorem g113_85 (tb : qTb) (lim : Nat × Nat) (R : Option qV → qM → Prop) (ls st : List qV) (M : qM) : qW tb 113 lim 85 ls st M R = qy tb 113 lim R (85, .lstore_n 3, 1, 0, 0, 0) ls st M := qW_at (qcdB_spec (e := (85, .lstore_n 3, 1, 0, 0, 0)) (by decide +kernel))
theorem g113_86 (tb : qTb) (lim : Nat × Nat) (R : Option qV → qM → Prop) (ls st : List qV) (M : qM) : qW tb 113 lim 86 ls st M R = qy tb 113 lim R (86, .iload 5, 2, 0, 0, 0) ls st M := qW_at (qcdB_spec (e := (86, .iload 5, 2, 0, 0, 0)) (by decide +kernel))
theorem g113_88 (tb : qTb) (lim : Nat × Nat) (R : Option qV → qM → Prop) (ls st : List qV) (M : qM) : qW tb 113 lim 88 ls st M R = qy tb 113 lim R (88, .iload 6, 2, 0, 0, 0) ls st M := qW_at (qcdB_spec (e := (88, .iload 6, 2, 0, 0, 0)) (by decide +kernel))
theorem g113_90 (tb : qTb) (lim : Nat × Nat) (R : Option qV → qM → Prop) (ls st : List qV) (M : qM) : qW tb 113 lim 90 ls st M R = qy tb 113 lim R (90, .bipush 24, 2, 0, 0, 0) ls st M := qW_at (qcdB_spec (e := (90, .bipush 24, 2, 0, 0, 0)) (by decide +kernel))
theorem g113_92 (tb : qTb) (lim : Nat × Nat) (R : Option qV → qM → Prop) (ls st : List qV) (M : qM) : qW tb 113 lim 92 ls st M R = qy tb 113 lim R (92, .isub, 1, 0, 0, 0) ls st M := qW_at (qcdB_spec (e := (92, .isub, 1, 0, 0, 0)) (by decide +kernel))
theorem g113_93 (tb : qTb) (lim : Nat × Nat) (R : Option qV → qM → Prop) (ls st : List qV) (M : qM) : qW tb 113 lim 93 ls st M R = qy tb 113 lim R (93, .iadd, 1, 0, 0, 0) ls st M := qW_at (qcdB_spec (e := (93, .iadd, 1, 0, 0, 0)) (by decide +kernel))
theorem g113_94 (tb : qTb) (lim : Nat × Nat) (R : Option qV → qM → Prop) (ls st : List qV) (M : qM) : qW tb 113 lim 94 ls st M R = qy tb 113 lim R (94, .istore 5, 2, 0, 0, 0) ls st M := qW_at (qcdB_spec (e := (94, .istore 5, 2, 0, 0, 0)) (by decide +kernel))
theorem g113_96 (tb : qTb) (lim : Nat × Nat) (R : Option qV → qM → Prop) (ls st : List qV) (M : qM) : qW tb 113 lim 96 ls st M R = qy tb 113 lim R (96, .lload_n 3, 1, 0, 0, 0) ls st M := qW_at (qcdB_spec (e := (96, .lload_n 3, 1, 0, 0, 0)) (by decide +kernel))
theorem g113_97 (tb : qTb) (lim : Nat × Nat) (R : Option qV → qM → Prop) (ls st : List qV) (M : qM) : qW tb 113 lim 97 ls st M R = qy tb 113 lim R (97, .lload 7, 2, 0, 0, 0) ls st M := qW_at (qcdB_spec (e := (97, .lload 7, 2, 0, 0, 0)) (by decide +kernel))
theorem g113_99 (tb : qTb) (lim : Nat × Nat) (R : Option qV → qM → Prop) (ls st : List qV) (M : qM) : qW tb 113 lim 99 ls st M R = qy tb 113 lim R (99, .lload 9, 2, 0, 0, 0) ls st M := qW_at (qcdB_spec (e := (99, .lload 9, 2, 0, 0, 0)) (by decide +kernel))
theorem g113_101 (tb : qTb) (lim : Nat × Nat) (R : Option qV → qM → Prop) (ls st : List qV) (M : qM) : qW tb 113 lim 101 ls st M R = qy tb 113 lim R (101, .lcmp, 1, 0, 0, 0) ls st M := qW_at (qcdB_spec (e := (101, .lcmp, 1, 0, 0, 0)) (by decide +kernel))
theorem g113_102 (tb : qTb) (lim : Nat × Nat) (R : Option qV → qM → Prop) (ls st : List qV) (M : qM) : qW tb 113 lim 102 ls st M R = qy tb 113 lim R (102, .ifCond .gt 21, 3, 0, 0, 0) ls st M := qW_at (qcdB_spec (e := (102, .ifCond .gt 21, 3, 0, 0, 0)) (by decide +kernel))
theorem g113_105 (tb : qTb) (lim : Nat × Nat) (R : Option qV → qM → Prop) (ls st : List qV) (M : qM) : qW tb 113 lim 105 ls st M R = qy tb 113 lim R (105, .lload 7, 2, 0, 0, 0) ls st M := qW_at (qcdB_spec (e := (105, .lload 7, 2, 0, 0, 0)) (by decide +kernel))
theorem g113_107 (tb : qTb) (lim : Nat × Nat) (R : Option qV → qM → Prop) (ls st : List qV) (M : qM) : qW tb 113 lim 107 ls st M R = qy tb 113 lim R (107, .lload 9, 2, 0, 0, 0) ls st M := qW_at (qcdB_spec (e := (107, .lload 9, 2, 0, 0, 0)) (by decide +kernel))
theorem g113_109 (tb : qTb) (lim : Nat × Nat) (R : Option qV → qM → Prop) (ls st : List qV) (M : qM) : qW tb 113 lim 109 ls st M R = qy tb 113 lim R (109, .lcmp, 1, 0, 0, 0) ls st M := qW_at (qcdB_spec (e := (109, .lcmp, 1, 0, 0, 0)) (by decide +kernel))
theorem g113_110 (tb : qTb) (lim : Nat × Nat) (R : Option qV → qM → Prop) (ls st : List qV) (M : qM) : qW tb 113 lim 110 ls st M R = qy tb 113 lim R (110, .ifCond .ne 17, 3, 0, 0, 0) ls st M := qW_at (qcdB_spec (e := (110, .ifCond .ne 17, 3, 0, 0, 0)) (by decide +kernel))
theorem g113_113 (tb : qTb) (lim : Nat × Nat) (R : Option qV → qM → Prop) (ls st : List qV) (M : qM) : qW tb 113 lim 113 ls st M R = qy tb 113 lim R (113, .lload_n 3, 1, 0, 0, 0) ls st M := qW_at (qcdB_spec (e := (113, .lload_n 3, 1, 0, 0, 0)) (by decide +kernel))
theorem g113_114 (tb : qTb) (lim : Nat × Nat) (R : Option qV → qM → Prop) (ls st : List qV) (M : qM) : qW tb 113 lim 114 ls st M R = qy tb 113 lim R (114, .ldc2_w 167, 3, 2, 0, 2) ls st M := qW_at (qcdB_spec (e := (114, .ldc2_w 167, 3, 2, 0, 2)) (by decide +kernel))
theorem g113_117 (tb : qTb) (lim : Nat × Nat) (R : Option qV → qM → Prop) (ls st : List qV) (M : qM) : qW tb 113 lim 117 ls st M R = qy tb 113 lim R (117, .lrem, 1, 0, 0, 0) ls st M := qW_at (qcdB_spec (e := (117, .lrem, 1, 0, 0, 0)) (by decide +kernel))
theorem g113_118 (tb : qTb) (lim : Nat × Nat) (R : Option qV → qM → Prop) (ls st : List qV) (M : qM) : qW tb 113 lim 118 ls st M R = qy tb 113 lim R (118, .lconst 1, 1, 0, 0, 0) ls st M := qW_at (qcdB_spec (e := (118, .lconst 1, 1, 0, 0, 0)) (by decide +kernel))
theorem g113_119 (tb : qTb) (lim : Nat × Nat) (R : Option qV → qM → Prop) (ls st : List qV) (M : qM) : qW tb 113 lim 119 ls st M R = qy tb 113 lim R (119, .lcmp, 1, 0, 0, 0) ls st M := qW_at (qcdB_spec (e := (119, .lcmp, 1, 0, 0, 0)) (by decide +kernel))
theorem g113_120 (tb : qTb) (lim : Nat × Nat) (R : Option qV → qM → Prop) (ls st : List qV) (M : qM) : qW tb 113 lim 120 ls st M R = qy tb 113 lim R (120, .ifCond .ne 7, 3, 0, 0, 0) ls st M := qW_at (qcdB_spec (e := (120, .ifCond .ne 7, 3, 0, 0, 0)) (by decide +kernel))
theorem g113_123 (tb : qTb) (lim : Nat × Nat) (R : Option qV → qM → Prop) (ls st : List qV) (M : qM) : qW tb 113 lim 123 ls st M R = qy tb 113 lim R (123, .lconst 1, 1, 0, 0, 0) ls st M := qW_at (qcdB_spec (e := (123, .lconst 1, 1, 0, 0, 0)) (by decide +kernel))
theorem g113_124 (tb : qTb) (lim : Nat × Nat) (R : Option qV → qM → Prop) (ls st : List qV) (M : qM) : qW tb 113 lim 124 ls st M R = qy tb 113 lim R (124, .goto 4, 3, 0, 0, 0) ls st M := qW_at (qcdB_spec (e := (124, .goto 4, 3, 0, 0, 0)) (by decide +kernel))
theorem g113_127 (tb : qTb) (lim : Nat × Nat) (R : Option qV → qM → Prop) (ls st : List qV) (M : qM) : qW tb 113 lim 127 ls st M R = qy tb 113 lim R (127, .lconst 0, 1, 0, 0, 0) ls st M := qW_at (qcdB_spec (e := (127, .lconst 0, 1, 0, 0, 0)) (by decide +kernel))
theorem g113_128 (tb : qTb) (lim : Nat × Nat) (R : Option qV → qM → Prop) (ls st : List qV) (M : qM) : qW tb 113 lim 128 ls st M R = qy tb 113 lim R (128, .ladd, 1, 0, 0, 0) ls st M := qW_at (qcdB_spec (e := (128, .ladd, 1, 0, 0, 0)) (by decide +kernel))
theorem g113_129 (tb : qTb) (lim : Nat × Nat) (R : Option qV → qM → Prop) (ls st : List qV) (M : qM) : qW tb 113 lim 129 ls st M R = qy tb 113 lim R (129, .lstore_n 3, 1, 0, 0, 0) ls st M := qW_at (qcdB_spec (e := (129, .lstore_n 3, 1, 0, 0, 0)) (by decide +kernel))
theorem g113_130 (tb : qTb) (lim : Nat × Nat) (R : Option qV → qM → Prop) (ls st : List qV) (M : qM) : qW tb 113 lim 130 ls st M R = qy tb 113 lim R (130, .goto 21, 3, 0, 0, 0) ls st M := qW_at (qcdB_spec (e := (130, .goto 21, 3, 0, 0, 0)) (by decide +kernel))
theorem g113_133 (tb : qTb) (lim : Nat × Nat) (R : Option qV → qM → Prop) (ls st : List qV) (M : qM) : qW tb 113 lim 133 ls st M R = qy tb 113 lim R (133, .lload_n 3, 1, 0, 0, 0) ls st M := qW_at (qcdB_spec (e := (133, .lload_n 3, 1, 0, 0, 0)) (by decide +kernel))
theorem g113_134 (tb : qTb) (lim : Nat × Nat) (R : Option qV → qM → Prop) (ls st : List qV) (M : qM) : qW tb 113 lim 134 ls st M R = qy tb 113 lim R (134, .bipush 24, 2, 0, 0, 0) ls st M := qW_at (qcdB_spec (e := (134, .bipush 24, 2, 0, 0, 0)) (by decide +kernel))
theorem g113_136 (tb : qTb) (lim : Nat × Nat) (R : Option qV → qM → Prop) (ls st : List qV) (M : qM) : qW tb 113 lim 136 ls st M R = qy tb 113 lim R (136, .iload 6, 2, 0, 0, 0) ls st M := qW_at (qcdB_spec (e := (136, .iload 6, 2, 0, 0, 0)) (by decide +kernel))
theorem g113_138 (tb : qTb) (lim : Nat × Nat) (R : Option qV → qM → Prop) (ls st : List qV) (M : qM) : qW tb 113 lim 138 ls st M R = qy tb 113 lim R (138, .isub, 1, 0, 0, 0) ls st M := qW_at (qcdB_spec (e := (138, .isub, 1, 0, 0, 0)) (by decide +kernel))
theorem g113_139 (tb : qTb) (lim : Nat × Nat) (R : Option qV → qM → Prop) (ls st : List qV) (M : qM) : qW tb 113 lim 139 ls st M R = qy tb 113 lim R (139, .lshl, 1, 0, 0, 0) ls st M := qW_at (qcdB_spec (e := (139, .lshl, 1, 0, 0, 0)) (by decide +kernel))
theorem g113_140 (tb : qTb) (lim : Nat × Nat) (R : Option qV → qM → Prop) (ls st : List qV) (M : qM) : qW tb 113 lim 140 ls st M R = qy tb 113 lim R (140, .lstore_n 3, 1, 0, 0, 0) ls st M := qW_at (qcdB_spec (e := (140, .lstore_n 3, 1, 0, 0, 0)) (by decide +kernel))
theorem g113_141 (tb : qTb) (lim : Nat × Nat) (R : Option qV → qM → Prop) (ls st : List qV) (M : qM) : qW tb 113 lim 141 ls st M R = qy tb 113 lim R (141, .iload 5, 2, 0, 0, 0) ls st M := qW_at (qcdB_spec (e := (141, .iload 5, 2, 0, 0, 0)) (by decide +kernel))
theorem g113_143 (tb : qTb) (lim : Nat × Nat) (R : Option qV → qM → Prop) (ls st : List qV) (M : qM) : qW tb 113 lim 143 ls st M R = qy tb 113 lim R (143, .bipush 24, 2, 0, 0, 0) ls st M := qW_at (qcdB_spec (e := (143, .bipush 24, 2, 0, 0, 0)) (by decide +kernel))
theorem g113_145 (tb : qTb) (lim : Nat × Nat) (R : Option qV → qM → Prop) (ls st : List qV) (M : qM) : qW tb 113 lim 145 ls st M R = qy tb 113 lim R (145, .iload 6, 2, 0, 0, 0) ls st M := qW_at (qcdB_spec (e := (145, .iload 6, 2, 0, 0, 0)) (by decide +kernel))
theorem g113_147 (tb : qTb) (lim : Nat × Nat) (R : Option qV → qM → Prop) (ls st : List qV) (M : qM) : qW tb 113 lim 147 ls st M R = qy tb 113 lim R (147, .isub, 1, 0, 0, 0) ls st M := qW_at (qcdB_spec (e := (147, .isub, 1, 0, 0, 0)) (by decide +kernel))
theorem g113_148 (tb : qTb) (lim : Nat × Nat) (R : Option qV → qM → Prop) (ls st : List qV) (M : qM) : qW tb 113 lim 148 ls st M R = qy tb 113 lim R (148, .isub, 1, 0, 0, 0) ls st M := qW_at (qcdB_spec (e := (148, .isub, 1, 0, 0, 0)) (by decide +kernel))
theorem g113_149 (tb : qTb) (lim : Nat × Nat) (R : Option qV → qM → Prop) (ls st : List qV) (M : qM) : qW tb 113 lim 149 ls st M R = qy tb 113 lim R (149, .istore 5, 2, 0, 0, 0) ls st M := qW_at (qcdB_spec (e := (149, .istore 5, 2, 0, 0, 0)) (by decide +kernel))
theorem g113_151 (tb : qTb) (lim : Nat × Nat) (R : Option qV → qM → Prop) (ls st : List qV) (M : qM) : qW tb 113 lim 151 ls st M R = qy tb 113 lim R (151, .lload_n 3, 1, 0, 0, 0) ls st M := qW_at (qcdB_spec (e := (151, .lload_n 3, 1, 0, 0, 0)) (by decide +kernel))
theorem g113_152 (tb : qTb) (lim : Nat × Nat) (R : Option qV → qM → Prop) (ls st : List qV) (M : qM) : qW tb 113 lim 152 ls st M R = qy tb 113 lim R (152, .ldc2_w 169, 3, 2, 0, 16777216) ls st M := qW_at (qcdB_spec (e := (152, .ldc2_w 169, 3, 2, 0, 16777216)) (by decide +kernel))
theorem g113_155 (tb : qTb) (lim : Nat × Nat) (R : Option qV → qM → Prop) (ls st : List qV) (M : qM) : qW tb 113 lim 155 ls st M R = qy tb 113 lim R (155, .lcmp, 1, 0, 0, 0) ls st M := qW_at (qcdB_spec (e := (155, .lcmp, 1, 0, 0, 0)) (by decide +kernel))
theorem g113_156 (tb : qTb) (lim : Nat × Nat) (R : Option qV → qM → Prop) (ls st : List qV) (M : qM) : qW tb 113 lim 156 ls st M R = qy tb 113 lim R (156, .ifCond .ne 10, 3, 0, 0, 0) ls st M := qW_at (qcdB_spec (e := (156, .ifCond .ne 10, 3, 0, 0, 0)) (by decide +kernel))
theorem g113_159 (tb : qTb) (lim : Nat × Nat) (R : Option qV → qM → Prop) (ls st : List qV) (M : qM) : qW tb 113 lim 159 ls st M R = qy tb 113 lim R (159, .lload_n 3, 1, 0, 0, 0) ls st M := qW_at (qcdB_spec (e := (159, .lload_n 3, 1, 0, 0, 0)) (by decide +kernel))
theorem g113_160 (tb : qTb) (lim : Nat × Nat) (R : Option qV → qM → Prop) (ls st : List qV) (M : qM) : qW tb 113 lim 160 ls st M R = qy tb 113 lim R (160, .iconst 1, 1, 0, 0, 0) ls st M := qW_at (qcdB_spec (e := (160, .iconst 1, 1, 0, 0, 0)) (by decide +kernel))
theorem g113_161 (tb : qTb) (lim : Nat × Nat) (R : Option qV → qM → Prop) (ls st : List qV) (M : qM) : qW tb 113 lim 161 ls st M R = qy tb 113 lim R (161, .lshr, 1, 0, 0, 0) ls st M := qW_at (qcdB_spec (e := (161, .lshr, 1, 0, 0, 0)) (by decide +kernel))
theorem g113_162 (tb : qTb) (lim : Nat × Nat) (R : Option qV → qM → Prop) (ls st : List qV) (M : qM) : qW tb 113 lim 162 ls st M R = qy tb 113 lim R (162, .lstore_n 3, 1, 0, 0, 0) ls st M := qW_at (qcdB_spec (e := (162, .lstore_n 3, 1, 0, 0, 0)) (by decide +kernel))
theorem g113_163 (tb : qTb) (lim : Nat × Nat) (R : Option qV → qM → Prop) (ls st : List qV) (M : qM) : qW tb 113 lim 163 ls st M R = qy tb 113 lim R (163, .iinc 5 1, 3, 0, 0, 0) ls st M := qW_at (qcdB_spec (e := (163, .iinc 5 1, 3, 0, 0, 0)) (by decide +kernel))
theorem r113L {tb : qTb} {F : XT} {R : Option qV → qM → Prop} (m e a up : Int) : ∀ (i : Nat) (n left : Int), 0 ≤ left → left < ((2 ^ i : Nat) : Int) → (i = 0 ∨ ((2 ^ i : Nat) : Int) ≤ 2 * left) → 0 ≤ n → n + i ≤ 63 → qW tb 113 (119, 1262) 49 [(1, m), (9, 0), (0, e), (1, a), (9, 0), (0, up), (0, n + i), (1, 0), (9, 0), (9, 0), (9, 0)] [] (LAY, F) R → qW tb 113 (119, 1262) 30 [(1, m), (9, 0), (0, e), (1, a), (9, 0), (0, up), (0, n), (1, left), (9, 0), (9, 0), (9, 0)] [] (LAY, F) R := by
  intro i
  induction i with
  | zero =>
    intro n left h0 h1 h2 h3 h4 hk
    obtain rfl : left = 0 := by omega
    rw [show n + ((0 : Nat) : Int) = n by omega] at hk
    rw [h113_30]
    simp only [YK, g113_32, g113_33, g113_34, g113_37, g113_40, g113_42, g113_43, g113_44, g113_46, t113, tgK, lyK, rkK, wK, rfK, qRes_eq, qNon_eq, qup_ap, vup_ap, vcpy_ap, kc8_0, kc8_1, kc8_2, lc_lt, lc_gt, lc_eq, Option.toList_some, Option.toList_none, List.cons_append, List.nil_append, lay_len, lay_sz, Nat.reduceAdd, Nat.reduceSub, Nat.reduceMul, Int.reduceToNat, Int.reduceLE, Int.reduceLT, Int.reduceEq, Int.reduceAdd, Int.reduceSub, Int.reduceMul, Int.reduceNeg, Nat.reduceLeDiff, Nat.reduceLT, true_and, and_true, false_and, and_false, qcat_0, qcat_1, qcat_3, qcat_9, Nat.reduceEqDiff, if_true, if_false, ite_self, or_true, true_or, or_false, false_or, forall_const, not_true_eq_false, not_false_eq_true, false_implies, implies_true, qtK0, qtK1, qtK2, qtK3, qtK4, List.getD_cons_zero, List.getD_cons_succ, Int.toNat_natCast, ne_eq, qcK, hbF, bsetF, bclrF]
    exact hk
  | succ j ih =>
    intro n left h0 h1 h2 h3 h4 hk
    have h5 : ((2 ^ (j + 1) : Nat) : Int) ≤ 2 * left := h2.resolve_left (by omega)
    rw [Nat.pow_succ] at h1 h5
    have hp := Nat.two_pow_pos j
    have hP : 2 ^ j ≤ 2 ^ 62 := Nat.pow_le_pow_right (by decide) (by omega)
    have f1 : (0 < left) = True := eq_true (by omega)
    have e1 : (l1 left >>> ((i1 1).toInt64 &&& 63)).toInt = left / 2 := lshr_v (k := 1) ⟨by omega, by omega⟩ (by decide)
    have w1 : w32 (n + 1) = n + 1 := w32_id ⟨by omega, by omega⟩
    rw [h113_30]
    simp only [YK, g113_32, g113_33, g113_34, g113_37, g113_40, g113_42, g113_43, g113_44, g113_46, t113, tgK, lyK, rkK, wK, rfK, qRes_eq, qNon_eq, qup_ap, vup_ap, vcpy_ap, kc8_0, kc8_1, kc8_2, lc_lt, lc_gt, lc_eq, Option.toList_some, Option.toList_none, List.cons_append, List.nil_append, lay_len, lay_sz, Nat.reduceAdd, Nat.reduceSub, Nat.reduceMul, Int.reduceToNat, Int.reduceLE, Int.reduceLT, Int.reduceEq, Int.reduceAdd, Int.reduceSub, Int.reduceMul, Int.reduceNeg, Nat.reduceLeDiff, Nat.reduceLT, true_and, and_true, false_and, and_false, qcat_0, qcat_1, qcat_3, qcat_9, Nat.reduceEqDiff, if_true, if_false, ite_self, or_true, true_or, or_false, false_or, forall_const, not_true_eq_false, not_false_eq_true, false_implies, implies_true, qtK0, qtK1, qtK2, qtK3, qtK4, List.getD_cons_zero, List.getD_cons_succ, Int.toNat_natCast, ne_eq, qcK, hbF, bsetF, bclrF, f1, e1, w1]
    refine ih (n + 1) (left / 2) (by omega) (by omega) ?_ (by omega) (by omega) ?_
    · by_cases hj : j = 0
      · exact .inl hj
      · right
        have := Nat.pow_add 2 (j - 1) 1
        rw [show j - 1 + 1 = j by omega] at this
        omega
    · rw [show n + 1 + (j : Int) = n + ((j + 1 : Nat) : Int) by omega]
      exact hk
theorem r113G {tb : qTb} {F : XT} {R : Option qV → qM → Prop} (m e c q n : Int) (w7 w8 w9 w10 : qV) (hc : 8388608 ≤ c ∧ c < 16777216) (hq : -149 ≤ q ∧ q ≤ 100) (hk : R (some (0, (if m < 0 then -2147483648 else 0) + ((q + 149) * 8388608 + c))) (LAY, F)) : qW tb 113 (119, 1262) 166 [(1, m), (9, 0), (0, e), (1, c), (9, 0), (0, q), (0, n), w7, w8, w9, w10] [] (LAY, F) R := by
  have w1 : w64 (c - 8388608) = c - 8388608 := w64_id ⟨by omega, by omega⟩
  have w2 : w32 (q + 150) = q + 150 := w32_id ⟨by omega, by omega⟩
  obtain ⟨Z, hZ⟩ : ∃ Z : Int, Z = (q + 150) * 8388608 := ⟨_, rfl⟩
  have s1 : (l1 (q + 150) <<< ((i1 23).toInt64 &&& 63)).toInt = Z := by
    rw [hZ]
    exact lshl_v (k := 23) ⟨by omega, by omega⟩ ⟨by omega, by omega⟩ (by decide)
  obtain ⟨T, hT⟩ : ∃ T : Int, T = Z + (c - 8388608) := ⟨_, rfl⟩
  have s2 : (l1 (c - 8388608) ||| l1 Z).toInt = T := by
    have h := lor_v (a := c - 8388608) (b := q + 150) (k := 23) ⟨by omega, by omega⟩ (by omega) (by omega)
    rw [hT, hZ]
    exact h
  have s3 : (l1 T ||| l1 2147483648).toInt = T + 2147483648 := by
    have h := lor_v (a := T) (b := 1) (k := 31) ⟨by omega, by omega⟩ (by omega) (by omega)
    rw [Int.add_comm T]
    exact h
  have w3 := w32_hi (T := T) ⟨by omega, by omega⟩
  have w4 : w32 T = T := w32_id ⟨by omega, by omega⟩
  by_cases c2 : m < 0
  · rw [if_pos c2, show -2147483648 + ((q + 149) * 8388608 + c) = T - 2147483648 by omega] at hk
    have f1 : (0 < m) = False := eq_false (by omega)
    have f2 : (m = 0) = False := eq_false (by omega)
    simp only [YK, c113, t113, tgK, lyK, rkK, wK, rfK, qRes_eq, qNon_eq, qup_ap, vup_ap, vcpy_ap, kc8_0, kc8_1, kc8_2, lc_lt, lc_gt, lc_eq, Option.toList_some, Option.toList_none, List.cons_append, List.nil_append, lay_len, lay_sz, Nat.reduceAdd, Nat.reduceSub, Nat.reduceMul, Int.reduceToNat, Int.reduceLE, Int.reduceLT, Int.reduceEq, Int.reduceAdd, Int.reduceSub, Int.reduceMul, Int.reduceNeg, Nat.reduceLeDiff, Nat.reduceLT, true_and, and_true, false_and, and_false, qcat_0, qcat_1, qcat_3, qcat_9, Nat.reduceEqDiff, if_true, if_false, ite_self, or_true, true_or, or_false, false_or, forall_const, not_true_eq_false, not_false_eq_true, false_implies, implies_true, qtK0, qtK1, qtK2, qtK3, qtK4, List.getD_cons_zero, List.getD_cons_succ, Int.toNat_natCast, ne_eq, qcK, hbF, bsetF, bclrF, w1, w2, s1, s2, s3, w3, w4, f1, f2]
    exact hk
  · rw [if_neg c2, show 0 + ((q + 149) * 8388608 + c) = T by omega] at hk
    by_cases c3 : m = 0
    · subst c3
      simp only [YK, c113, t113, tgK, lyK, rkK, wK, rfK, qRes_eq, qNon_eq, qup_ap, vup_ap, vcpy_ap, kc8_0, kc8_1, kc8_2, lc_lt, lc_gt, lc_eq, Option.toList_some, Option.toList_none, List.cons_append, List.nil_append, lay_len, lay_sz, Nat.reduceAdd, Nat.reduceSub, Nat.reduceMul, Int.reduceToNat, Int.reduceLE, Int.reduceLT, Int.reduceEq, Int.reduceAdd, Int.reduceSub, Int.reduceMul, Int.reduceNeg, Nat.reduceLeDiff, Nat.reduceLT, true_and, and_true, false_and, and_false, qcat_0, qcat_1, qcat_3, qcat_9, Nat.reduceEqDiff, if_true, if_false, ite_self, or_true, true_or, or_false, false_or, forall_const, not_true_eq_false, not_false_eq_true, false_implies, implies_true, qtK0, qtK1, qtK2, qtK3, qtK4, List.getD_cons_zero, List.getD_cons_succ, Int.toNat_natCast, ne_eq, qcK, hbF, bsetF, bclrF, w1, w2, s1, s2, s3, w3, w4]
      exact hk
    · have f1 : (0 < m) = True := eq_true (by omega)
      simp only [YK, c113, t113, tgK, lyK, rkK, wK, rfK, qRes_eq, qNon_eq, qup_ap, vup_ap, vcpy_ap, kc8_0, kc8_1, kc8_2, lc_lt, lc_gt, lc_eq, Option.toList_some, Option.toList_none, List.cons_append, List.nil_append, lay_len, lay_sz, Nat.reduceAdd, Nat.reduceSub, Nat.reduceMul, Int.reduceToNat, Int.reduceLE, Int.reduceLT, Int.reduceEq, Int.reduceAdd, Int.reduceSub, Int.reduceMul, Int.reduceNeg, Nat.reduceLeDiff, Nat.reduceLT, true_and, and_true, false_and, and_false, qcat_0, qcat_1, qcat_3, qcat_9, Nat.reduceEqDiff, if_true, if_false, ite_self, or_true, true_or, or_false, false_or, forall_const, not_true_eq_false, not_false_eq_true, false_implies, implies_true, qtK0, qtK1, qtK2, qtK3, qtK4, List.getD_cons_zero, List.getD_cons_succ, Int.toNat_natCast, ne_eq, qcK, hbF, bsetF, bclrF, w1, w2, s1, s2, s3, w3, w4, f1]
      exact hk
theorem r113F {tb : qTb} {F : XT} {R : Option qV → qM → Prop} (m e c q n : Int) (w7 w8 w9 w10 : qV) (hc : 8388608 ≤ c ∧ c ≤ 16777216) (hq : -149 ≤ q ∧ q ≤ 99) (hk : R (some (0, (if m < 0 then -2147483648 else 0) + ((q + 149) * 8388608 + c))) (LAY, F)) : qW tb 113 (119, 1262) 151 [(1, m), (9, 0), (0, e), (1, c), (9, 0), (0, q), (0, n), w7, w8, w9, w10] [] (LAY, F) R := by
  by_cases c1 : c = 16777216
  · subst c1
    have e1 : (l1 16777216 >>> ((i1 1).toInt64 &&& 63)).toInt = 8388608 := by decide +kernel
    have w1 : w32 (q + 1) = q + 1 := w32_id ⟨by omega, by omega⟩
    rw [show (q + 149) * 8388608 + 16777216 = (q + 1 + 149) * 8388608 + 8388608 by omega] at hk
    simp only [YK, g113_151, g113_152, g113_155, g113_156, g113_159, g113_160, g113_161, g113_162, g113_163, t113, tgK, lyK, rkK, wK, rfK, qRes_eq, qNon_eq, qup_ap, vup_ap, vcpy_ap, kc8_0, kc8_1, kc8_2, lc_lt, lc_gt, lc_eq, Option.toList_some, Option.toList_none, List.cons_append, List.nil_append, lay_len, lay_sz, Nat.reduceAdd, Nat.reduceSub, Nat.reduceMul, Int.reduceToNat, Int.reduceLE, Int.reduceLT, Int.reduceEq, Int.reduceAdd, Int.reduceSub, Int.reduceMul, Int.reduceNeg, Nat.reduceLeDiff, Nat.reduceLT, true_and, and_true, false_and, and_false, qcat_0, qcat_1, qcat_3, qcat_9, Nat.reduceEqDiff, if_true, if_false, ite_self, or_true, true_or, or_false, false_or, forall_const, not_true_eq_false, not_false_eq_true, false_implies, implies_true, qtK0, qtK1, qtK2, qtK3, qtK4, List.getD_cons_zero, List.getD_cons_succ, Int.toNat_natCast, ne_eq, qcK, hbF, bsetF, bclrF, e1, w1]
    exact r113G m e 8388608 (q + 1) n _ _ _ _ ⟨by omega, by omega⟩ ⟨by omega, by omega⟩ hk
  · have f1 : (16777216 < c) = False := eq_false (by omega)
    have f2 : (c = 16777216) = False := eq_false c1
    simp only [YK, g113_151, g113_152, g113_155, g113_156, g113_159, g113_160, g113_161, g113_162, g113_163, t113, tgK, lyK, rkK, wK, rfK, qRes_eq, qNon_eq, qup_ap, vup_ap, vcpy_ap, kc8_0, kc8_1, kc8_2, lc_lt, lc_gt, lc_eq, Option.toList_some, Option.toList_none, List.cons_append, List.nil_append, lay_len, lay_sz, Nat.reduceAdd, Nat.reduceSub, Nat.reduceMul, Int.reduceToNat, Int.reduceLE, Int.reduceLT, Int.reduceEq, Int.reduceAdd, Int.reduceSub, Int.reduceMul, Int.reduceNeg, Nat.reduceLeDiff, Nat.reduceLT, true_and, and_true, false_and, and_false, qcat_0, qcat_1, qcat_3, qcat_9, Nat.reduceEqDiff, if_true, if_false, ite_self, or_true, true_or, or_false, false_or, forall_const, not_true_eq_false, not_false_eq_true, false_implies, implies_true, qtK0, qtK1, qtK2, qtK3, qtK4, List.getD_cons_zero, List.getD_cons_succ, Int.toNat_natCast, ne_eq, qcK, hbF, bsetF, bclrF, f1, f2]
    exact r113G m e c q n _ _ _ _ ⟨by omega, by omega⟩ ⟨by omega, by omega⟩ hk
theorem r113M {tb : qTb} {F : XT} {R : Option qV → qM → Prop} (m e n : Int) (A j : Nat) (hn : n = (j : Int) + 25) (hj : j ≤ 37) (hA : A < 2 ^ (j + 25)) (hA1 : 2 ^ (j + 24) ≤ A) (he : -149 ≤ e ∧ e ≤ 50) (hk : R (some (0, (if m < 0 then -2147483648 else 0) + ((e + (j + 1) + 149) * 8388608 + (FP.Core.nearest A (2 ^ (j + 1)) : Int)))) (LAY, F)) : qW tb 113 (119, 1262) 49 [(1, m), (9, 0), (0, e), (1, (A : Int)), (9, 0), (0, e), (0, n), (1, 0), (9, 0), (9, 0), (9, 0)] [] (LAY, F) R := by
  have hp := Nat.two_pow_pos j
  have hP : 2 ^ j ≤ 2 ^ 37 := Nat.pow_le_pow_right (by decide) hj
  have hA2 : A < 2 ^ 62 := Nat.lt_of_lt_of_le hA (Nat.pow_le_pow_right (by decide) (by omega))
  have hc1 : 8388608 ≤ FP.Core.nearest A (2 ^ (j + 1)) := fz_ge (Nat.two_pow_pos _) (by
    rw [show j + 24 = 23 + (j + 1) by omega, Nat.pow_add] at hA1
    exact hA1)
  have hc2 : FP.Core.nearest A (2 ^ (j + 1)) ≤ 16777216 := fz_le (Nat.two_pow_pos _) (by
    rw [show j + 25 = 24 + (j + 1) by omega, Nat.pow_add] at hA
    exact Nat.le_of_lt hA)
  obtain ⟨K, hK⟩ : ∃ K : Int, K = ((j + 1 : Nat) : Int) := ⟨_, rfl⟩
  obtain ⟨J, hJ⟩ : ∃ J : Int, J = (j : Int) := ⟨_, rfl⟩
  obtain ⟨H, hH⟩ : ∃ H : Int, H = ((2 ^ j : Nat) : Int) := ⟨_, rfl⟩
  obtain ⟨B, hB⟩ : ∃ B : Int, B = ((2 ^ (j + 1) : Nat) : Int) := ⟨_, rfl⟩
  obtain ⟨Q, hQ⟩ : ∃ Q : Int, Q = ((A / 2 ^ (j + 1) : Nat) : Int) := ⟨_, rfl⟩
  obtain ⟨Z, hZ⟩ : ∃ Z : Int, Z = ((A % 2 ^ (j + 1) : Nat) : Int) := ⟨_, rfl⟩
  have hBH : B = 2 * H := by
    rw [hB, hH, Nat.pow_succ]
    omega
  have hQ1 : 0 ≤ Q ∧ Q < 4611686018427387904 := by
    have h1 := Nat.div_le_self A (2 ^ (j + 1))
    rw [hQ]
    generalize A / 2 ^ (j + 1) = q1 at h1 ⊢
    omega
  have w1 : w32 (n - 24) = K := by
    rw [hK, show n - 24 = ((j + 1 : Nat) : Int) by omega]
    exact w32_id ⟨by omega, by omega⟩
  have w2 : w32 (n - 25) = J := by
    rw [hJ, show n - 25 = (j : Int) by omega]
    exact w32_id ⟨by omega, by omega⟩
  have s1 : (l1 1 <<< ((i1 K).toInt64 &&& 63)).toInt = B := by
    rw [hK, lshl_v (x := 1) (k := j + 1) ⟨by omega, by omega⟩ (by rw [p2n, Nat.pow_succ]; omega) (by omega), p2n, hB, Int.one_mul]
  have s1b : w64 (B - 1) = B - 1 := w64_id ⟨by omega, by omega⟩
  have s2 : (l1 (A : Int) &&& l1 (B - 1)).toInt = Z := by
    have h := land_v (x := (A : Int)) (k := j + 1) ⟨by omega, by omega⟩ (by omega)
    rw [p2n] at h
    rw [hB, h, hZ, Int.natCast_emod]
  have s3 : (l1 1 <<< ((i1 J).toInt64 &&& 63)).toInt = H := by
    rw [hJ, lshl_v (x := 1) (k := j) ⟨by omega, by omega⟩ (by rw [p2n]; omega) (by omega), p2n, hH, Int.one_mul]
  have s4 : (l1 (A : Int) >>> ((i1 K).toInt64 &&& 63)).toInt = Q := by
    rw [hK, lshr_v (x := (A : Int)) (k := j + 1) ⟨by omega, by omega⟩ (by omega), p2n, hQ, Int.natCast_ediv]
  have w3 : w32 (e + K) = e + K := w32_id ⟨by omega, by omega⟩
  have w4 : w64 (Q + 1) = Q + 1 := w64_id ⟨by omega, by omega⟩
  have w5 : w64 (Q + 0) = Q := by
    rw [Int.add_zero]
    exact w64_id ⟨by omega, by omega⟩
  have w6 : w64 (Q.tmod 2) = Q % 2 := by
    rw [Int.tmod_eq_emod_of_nonneg hQ1.1]
    exact w64_id ⟨by omega, by omega⟩
  have fn : (24 < n) = True := eq_true (by omega)
  rw [show e + (j + 1) + 149 = e + K + 149 by omega] at hk
  have hN : (FP.Core.nearest A (2 ^ (j + 1)) : Int) = if H < Z then Q + 1 else if Z = H then Q + Q % 2 else Q := by
    rw [Nat.pow_succ] at hB hQ hZ ⊢
    unfold FP.Core.nearest
    generalize A / (2 ^ j * 2) = q1 at hQ ⊢
    generalize A % (2 ^ j * 2) = z1 at hZ ⊢
    rcases Nat.lt_trichotomy z1 (2 ^ j) with h | h | h
    · rw [if_pos (by omega), if_neg (by omega), if_neg (by omega)]
      omega
    · rw [if_neg (by omega), if_neg (by omega), if_neg (by omega), if_pos (by omega)]
      omega
    · rw [if_neg (by omega), if_pos (by omega), if_pos (by omega)]
      omega
  obtain ⟨c, hc⟩ : ∃ c : Int, c = (FP.Core.nearest A (2 ^ (j + 1)) : Int) := ⟨_, rfl⟩
  rw [← hc] at hk hN
  have hcc : 8388608 ≤ c ∧ c ≤ 16777216 := by omega
  by_cases c1 : H < Z
  · rw [if_pos c1] at hN
    have f1 : (H < Z) = True := eq_true c1
    simp only [YK, g113_49, g113_51, g113_53, g113_56, g113_57, g113_58, g113_60, g113_62, g113_63, g113_64, g113_65, g113_66, g113_67, g113_69, g113_70, g113_72, g113_74, g113_75, g113_76, g113_78, g113_79, g113_81, g113_83, g113_84, g113_85, g113_86, g113_88, g113_90, g113_92, g113_93, g113_94, g113_96, g113_97, g113_99, g113_101, g113_102, g113_105, g113_107, g113_109, g113_110, g113_113, g113_114, g113_117, g113_118, g113_119, g113_120, g113_123, g113_124, g113_127, g113_128, g113_129, g113_130, g113_133, g113_134, g113_136, g113_138, g113_139, g113_140, g113_141, g113_143, g113_145, g113_147, g113_148, g113_149, t113, tgK, lyK, rkK, wK, rfK, qRes_eq, qNon_eq, qup_ap, vup_ap, vcpy_ap, kc8_0, kc8_1, kc8_2, lc_lt, lc_gt, lc_eq, Option.toList_some, Option.toList_none, List.cons_append, List.nil_append, lay_len, lay_sz, Nat.reduceAdd, Nat.reduceSub, Nat.reduceMul, Int.reduceToNat, Int.reduceLE, Int.reduceLT, Int.reduceEq, Int.reduceAdd, Int.reduceSub, Int.reduceMul, Int.reduceNeg, Nat.reduceLeDiff, Nat.reduceLT, true_and, and_true, false_and, and_false, qcat_0, qcat_1, qcat_3, qcat_9, Nat.reduceEqDiff, if_true, if_false, ite_self, or_true, true_or, or_false, false_or, forall_const, not_true_eq_false, not_false_eq_true, false_implies, implies_true, qtK0, qtK1, qtK2, qtK3, qtK4, List.getD_cons_zero, List.getD_cons_succ, Int.toNat_natCast, ne_eq, qcK, hbF, bsetF, bclrF, y_lstore9, w1, w2, s1, s1b, s2, s3, s4, w3, w4, w5, w6, fn, f1]
    rw [← hN]
    exact r113F m e c (e + K) n _ _ _ _ hcc ⟨by omega, by omega⟩ hk
  · rw [if_neg c1] at hN
    have f1 : (H < Z) = False := eq_false c1
    by_cases c2 : Z = H
    · rw [if_pos c2] at hN
      have f2 : (Z = H) = True := eq_true c2
      by_cases c3 : Q % 2 = 1
      · rw [c3] at hN
        rw [c3] at w6
        simp only [YK, g113_49, g113_51, g113_53, g113_56, g113_57, g113_58, g113_60, g113_62, g113_63, g113_64, g113_65, g113_66, g113_67, g113_69, g113_70, g113_72, g113_74, g113_75, g113_76, g113_78, g113_79, g113_81, g113_83, g113_84, g113_85, g113_86, g113_88, g113_90, g113_92, g113_93, g113_94, g113_96, g113_97, g113_99, g113_101, g113_102, g113_105, g113_107, g113_109, g113_110, g113_113, g113_114, g113_117, g113_118, g113_119, g113_120, g113_123, g113_124, g113_127, g113_128, g113_129, g113_130, g113_133, g113_134, g113_136, g113_138, g113_139, g113_140, g113_141, g113_143, g113_145, g113_147, g113_148, g113_149, t113, tgK, lyK, rkK, wK, rfK, qRes_eq, qNon_eq, qup_ap, vup_ap, vcpy_ap, kc8_0, kc8_1, kc8_2, lc_lt, lc_gt, lc_eq, Option.toList_some, Option.toList_none, List.cons_append, List.nil_append, lay_len, lay_sz, Nat.reduceAdd, Nat.reduceSub, Nat.reduceMul, Int.reduceToNat, Int.reduceLE, Int.reduceLT, Int.reduceEq, Int.reduceAdd, Int.reduceSub, Int.reduceMul, Int.reduceNeg, Nat.reduceLeDiff, Nat.reduceLT, true_and, and_true, false_and, and_false, qcat_0, qcat_1, qcat_3, qcat_9, Nat.reduceEqDiff, if_true, if_false, ite_self, or_true, true_or, or_false, false_or, forall_const, not_true_eq_false, not_false_eq_true, false_implies, implies_true, qtK0, qtK1, qtK2, qtK3, qtK4, List.getD_cons_zero, List.getD_cons_succ, Int.toNat_natCast, ne_eq, qcK, hbF, bsetF, bclrF, y_lstore9, w1, w2, s1, s1b, s2, s3, s4, w3, w4, w5, w6, fn, f1, f2]
        rw [← hN]
        exact r113F m e c (e + K) n _ _ _ _ hcc ⟨by omega, by omega⟩ hk
      · have c4 : Q % 2 = 0 := by omega
        rw [c4, Int.add_zero] at hN
        rw [c4] at w6
        simp only [YK, g113_49, g113_51, g113_53, g113_56, g113_57, g113_58, g113_60, g113_62, g113_63, g113_64, g113_65, g113_66, g113_67, g113_69, g113_70, g113_72, g113_74, g113_75, g113_76, g113_78, g113_79, g113_81, g113_83, g113_84, g113_85, g113_86, g113_88, g113_90, g113_92, g113_93, g113_94, g113_96, g113_97, g113_99, g113_101, g113_102, g113_105, g113_107, g113_109, g113_110, g113_113, g113_114, g113_117, g113_118, g113_119, g113_120, g113_123, g113_124, g113_127, g113_128, g113_129, g113_130, g113_133, g113_134, g113_136, g113_138, g113_139, g113_140, g113_141, g113_143, g113_145, g113_147, g113_148, g113_149, t113, tgK, lyK, rkK, wK, rfK, qRes_eq, qNon_eq, qup_ap, vup_ap, vcpy_ap, kc8_0, kc8_1, kc8_2, lc_lt, lc_gt, lc_eq, Option.toList_some, Option.toList_none, List.cons_append, List.nil_append, lay_len, lay_sz, Nat.reduceAdd, Nat.reduceSub, Nat.reduceMul, Int.reduceToNat, Int.reduceLE, Int.reduceLT, Int.reduceEq, Int.reduceAdd, Int.reduceSub, Int.reduceMul, Int.reduceNeg, Nat.reduceLeDiff, Nat.reduceLT, true_and, and_true, false_and, and_false, qcat_0, qcat_1, qcat_3, qcat_9, Nat.reduceEqDiff, if_true, if_false, ite_self, or_true, true_or, or_false, false_or, forall_const, not_true_eq_false, not_false_eq_true, false_implies, implies_true, qtK0, qtK1, qtK2, qtK3, qtK4, List.getD_cons_zero, List.getD_cons_succ, Int.toNat_natCast, ne_eq, qcK, hbF, bsetF, bclrF, y_lstore9, w1, w2, s1, s1b, s2, s3, s4, w3, w4, w5, w6, fn, f1, f2]
        rw [← hN]
        exact r113F m e c (e + K) n _ _ _ _ hcc ⟨by omega, by omega⟩ hk
    · rw [if_neg c2] at hN
      have f2 : (Z = H) = False := eq_false c2
      simp only [YK, g113_49, g113_51, g113_53, g113_56, g113_57, g113_58, g113_60, g113_62, g113_63, g113_64, g113_65, g113_66, g113_67, g113_69, g113_70, g113_72, g113_74, g113_75, g113_76, g113_78, g113_79, g113_81, g113_83, g113_84, g113_85, g113_86, g113_88, g113_90, g113_92, g113_93, g113_94, g113_96, g113_97, g113_99, g113_101, g113_102, g113_105, g113_107, g113_109, g113_110, g113_113, g113_114, g113_117, g113_118, g113_119, g113_120, g113_123, g113_124, g113_127, g113_128, g113_129, g113_130, g113_133, g113_134, g113_136, g113_138, g113_139, g113_140, g113_141, g113_143, g113_145, g113_147, g113_148, g113_149, t113, tgK, lyK, rkK, wK, rfK, qRes_eq, qNon_eq, qup_ap, vup_ap, vcpy_ap, kc8_0, kc8_1, kc8_2, lc_lt, lc_gt, lc_eq, Option.toList_some, Option.toList_none, List.cons_append, List.nil_append, lay_len, lay_sz, Nat.reduceAdd, Nat.reduceSub, Nat.reduceMul, Int.reduceToNat, Int.reduceLE, Int.reduceLT, Int.reduceEq, Int.reduceAdd, Int.reduceSub, Int.reduceMul, Int.reduceNeg, Nat.reduceLeDiff, Nat.reduceLT, true_and, and_true, false_and, and_false, qcat_0, qcat_1, qcat_3, qcat_9, Nat.reduceEqDiff, if_true, if_false, ite_self, or_true, true_or, or_false, false_or, forall_const, not_true_eq_false, not_false_eq_true, false_implies, implies_true, qtK0, qtK1, qtK2, qtK3, qtK4, List.getD_cons_zero, List.getD_cons_succ, Int.toNat_natCast, ne_eq, qcK, hbF, bsetF, bclrF, y_lstore9, w1, w2, s1, s1b, s2, s3, s4, w3, w4, w5, w6, fn, f1, f2]
      rw [← hN]
      exact r113F m e c (e + K) n _ _ _ _ hcc ⟨by omega, by omega⟩ hk
theorem r113S {tb : qTb} {F : XT} {R : Option qV → qM → Prop} (m e n : Int) (A k : Nat) (hn : n + k = 24) (hk24 : k ≤ 24) (hA : A * 2 ^ k < 16777216) (hA1 : 8388608 ≤ A * 2 ^ k) (he : -149 ≤ e - k ∧ e ≤ 50) (hk : R (some (0, (if m < 0 then -2147483648 else 0) + ((e - k + 149) * 8388608 + ((A * 2 ^ k : Nat) : Int)))) (LAY, F)) : qW tb 113 (119, 1262) 49 [(1, m), (9, 0), (0, e), (1, (A : Int)), (9, 0), (0, e), (0, n), (1, 0), (9, 0), (9, 0), (9, 0)] [] (LAY, F) R := by
  have hp := Nat.two_pow_pos k
  have hA0 : A ≤ A * 2 ^ k := Nat.le_mul_of_pos_right _ hp
  obtain ⟨K, hK⟩ : ∃ K : Int, K = (k : Int) := ⟨_, rfl⟩
  obtain ⟨c, hc⟩ : ∃ c : Int, c = ((A * 2 ^ k : Nat) : Int) := ⟨_, rfl⟩
  have w1 : w32 (24 - n) = K := by
    rw [hK, show 24 - n = (k : Int) by omega]
    exact w32_id ⟨by omega, by omega⟩
  have s1 : (l1 (A : Int) <<< ((i1 K).toInt64 &&& 63)).toInt = c := by
    have e1 : (A : Int) * 2 ^ k = ((A * 2 ^ k : Nat) : Int) := by rw [p2n, Int.natCast_mul]
    rw [hK, lshl_v (x := (A : Int)) (k := k) ⟨by omega, by omega⟩ (by rw [e1]; omega) (by omega), e1, hc]
  have w3 : w32 (e - K) = e - K := w32_id ⟨by omega, by omega⟩
  have fn : (24 < n) = False := eq_false (by omega)
  rw [← hc, ← hK] at hk
  simp only [YK, g113_49, g113_51, g113_53, g113_56, g113_57, g113_58, g113_60, g113_62, g113_63, g113_64, g113_65, g113_66, g113_67, g113_69, g113_70, g113_72, g113_74, g113_75, g113_76, g113_78, g113_79, g113_81, g113_83, g113_84, g113_85, g113_86, g113_88, g113_90, g113_92, g113_93, g113_94, g113_96, g113_97, g113_99, g113_101, g113_102, g113_105, g113_107, g113_109, g113_110, g113_113, g113_114, g113_117, g113_118, g113_119, g113_120, g113_123, g113_124, g113_127, g113_128, g113_129, g113_130, g113_133, g113_134, g113_136, g113_138, g113_139, g113_140, g113_141, g113_143, g113_145, g113_147, g113_148, g113_149, t113, tgK, lyK, rkK, wK, rfK, qRes_eq, qNon_eq, qup_ap, vup_ap, vcpy_ap, kc8_0, kc8_1, kc8_2, lc_lt, lc_gt, lc_eq, Option.toList_some, Option.toList_none, List.cons_append, List.nil_append, lay_len, lay_sz, Nat.reduceAdd, Nat.reduceSub, Nat.reduceMul, Int.reduceToNat, Int.reduceLE, Int.reduceLT, Int.reduceEq, Int.reduceAdd, Int.reduceSub, Int.reduceMul, Int.reduceNeg, Nat.reduceLeDiff, Nat.reduceLT, true_and, and_true, false_and, and_false, qcat_0, qcat_1, qcat_3, qcat_9, Nat.reduceEqDiff, if_true, if_false, ite_self, or_true, true_or, or_false, false_or, forall_const, not_true_eq_false, not_false_eq_true, false_implies, implies_true, qtK0, qtK1, qtK2, qtK3, qtK4, List.getD_cons_zero, List.getD_cons_succ, Int.toNat_natCast, ne_eq, qcK, hbF, bsetF, bclrF, w1, s1, w3, fn]
  exact r113F m e c (e - K) n _ _ _ _ ⟨by omega, by omega⟩ ⟨by omega, by omega⟩ hk
theorem r113 {tb : qTb} {F : XT} {R : Option qV → qM → Prop} (m e : Int) (g : Nat) (hg : e + 149 = g) (hm : m.natAbs < 2 ^ 62) (he : e ≤ 50) (hb : m = 0 ∨ (8388608 ≤ m.natAbs * 2 ^ g)) (hk : R (some (0, bX (m * ((2 ^ g : Nat) : Int)))) (LAY, F)) : qW tb 113 (119, 1262) 0 [(1, m), (9, 0), (0, e), (9, 0), (9, 0), (9, 0), (9, 0), (9, 0), (9, 0), (9, 0), (9, 0)] [] (LAY, F) R := by
  by_cases h0 : m = 0
  · subst h0
    rw [Int.zero_mul] at hk
    have hz : bX 0 = 0 := rfl
    rw [hz] at hk
    simp only [YK, c113, t113, tgK, lyK, rkK, wK, rfK, qRes_eq, qNon_eq, qup_ap, vup_ap, vcpy_ap, kc8_0, kc8_1, kc8_2, lc_lt, lc_gt, lc_eq, Option.toList_some, Option.toList_none, List.cons_append, List.nil_append, lay_len, lay_sz, Nat.reduceAdd, Nat.reduceSub, Nat.reduceMul, Int.reduceToNat, Int.reduceLE, Int.reduceLT, Int.reduceEq, Int.reduceAdd, Int.reduceSub, Int.reduceMul, Int.reduceNeg, Nat.reduceLeDiff, Nat.reduceLT, true_and, and_true, false_and, and_false, qcat_0, qcat_1, qcat_3, qcat_9, Nat.reduceEqDiff, if_true, if_false, ite_self, or_true, true_or, or_false, false_or, forall_const, not_true_eq_false, not_false_eq_true, false_implies, implies_true, qtK0, qtK1, qtK2, qtK3, qtK4, List.getD_cons_zero, List.getD_cons_succ, Int.toNat_natCast, ne_eq, qcK, hbF, bsetF, bclrF]
    exact hk
  · have hb1 := hb.resolve_left h0
    obtain ⟨A, hA⟩ : ∃ A : Nat, A = m.natAbs := ⟨_, rfl⟩
    rw [← hA] at hm hb1
    have hne : A ≠ 0 := by omega
    obtain ⟨L, hL⟩ : ∃ L : Nat, L = A.log2 := ⟨_, rfl⟩
    have l1' : 2 ^ L ≤ A := by
      rw [hL]
      exact Nat.log2_self_le hne
    have l2 : A < 2 ^ (L + 1) := by
      rw [hL]
      exact Nat.lt_log2_self
    have hL62 : L ≤ 61 := by
      have : 2 ^ L < 2 ^ 62 := by omega
      have := (Nat.pow_lt_pow_iff_right (by decide)).mp this
      omega
    have l3 := fz_lgm A L g l1' l2
    have hgp := Nat.two_pow_pos g
    have hlg : 23 ≤ L + g := by
      have h1 : 2 ^ 23 < 2 ^ (L + 1 + g) := by
        rw [Nat.pow_add (m := L + 1)]
        have := Nat.mul_lt_mul_of_pos_right l2 hgp
        omega
      have := (Nat.pow_lt_pow_iff_right (by decide)).mp h1
      omega
    have hbx : bX (m * ((2 ^ g : Nat) : Int)) = (if m < 0 then -2147483648 else 0) + (mx (A * 2 ^ g) : Int) := by
      unfold bX
      have e0 : ¬ m * ((2 ^ g : Nat) : Int) = 0 := by
        intro h
        rcases Int.mul_eq_zero.mp h with h | h
        · exact h0 h
        · omega
      have e1 : (m * ((2 ^ g : Nat) : Int) < 0) = (m < 0) := by
        apply propext
        constructor
        · intro h
          apply Int.lt_of_not_ge
          intro h2
          have := Int.mul_nonneg h2 (Int.natCast_nonneg (2 ^ g))
          omega
        · intro h
          exact Int.mul_neg_of_neg_of_pos h (by omega)
      rw [if_neg e0, Int.natAbs_mul, Int.natAbs_natCast, ← hA]
      simp only [e1]
    rw [hbx] at hk
    unfold mx at hk
    rw [l3] at hk
    have go : qW tb 113 (119, 1262) 30 [(1, m), (9, 0), (0, e), (1, (A : Int)), (9, 0), (0, e), (0, 0), (1, (A : Int)), (9, 0), (9, 0), (9, 0)] [] (LAY, F) R := by
      refine r113L m e (A : Int) e (L + 1) 0 (A : Int) (by omega) (by omega) (.inr ?_) (by omega) (by omega) ?_
      · rw [Nat.pow_succ]
        omega
      · by_cases hc : 24 ≤ L
        · refine r113M m e _ A (L - 24) (by omega) (by omega) ?_ ?_ ⟨by omega, by omega⟩ ?_
          · rw [show L - 24 + 25 = L + 1 by omega]
            exact l2
          · rw [show L - 24 + 24 = L by omega]
            exact l1'
          · have e2 : FP.Core.nearest (A * 2 ^ g) (2 ^ (L + g - 23)) = FP.Core.nearest A (2 ^ (L - 24 + 1)) := by
              rw [show L + g - 23 = L - 24 + 1 + g by omega, Nat.pow_add (m := L - 24 + 1)]
              exact fz_sc _ _ _ hgp
            rw [e2] at hk
            rw [show e + (((L - 24 : Nat) : Int) + 1) + 149 = ((L + g - 23 : Nat) : Int) by omega]
            rw [Int.natCast_add, Int.natCast_mul] at hk
            exact hk
        · have e3 : A * 2 ^ g = A * 2 ^ (23 - L) * 2 ^ (L + g - 23) := by
            rw [Nat.mul_assoc, ← Nat.pow_add, show 23 - L + (L + g - 23) = g by omega]
          have e4 : 8388608 = 2 ^ L * 2 ^ (23 - L) := by
            rw [← Nat.pow_add, show L + (23 - L) = 23 by omega]
          have e5 : 16777216 = 2 ^ (L + 1) * 2 ^ (23 - L) := by
            rw [← Nat.pow_add, show L + 1 + (23 - L) = 24 by omega]
          refine r113S m e _ A (23 - L) (by omega) (by omega) ?_ ?_ ⟨by omega, by omega⟩ ?_
          · rw [e5]
            exact Nat.mul_lt_mul_of_pos_right l2 (Nat.two_pow_pos _)
          · rw [e4]
            exact Nat.mul_le_mul_right _ l1'
          · rw [e3, fz_ex _ _ (Nat.two_pow_pos _)] at hk
            rw [show e - ((23 - L : Nat) : Int) + 149 = ((L + g - 23 : Nat) : Int) by omega]
            rw [Int.natCast_add, Int.natCast_mul] at hk
            exact hk
    by_cases c2 : m < 0
    · have f1 : (0 < m) = False := eq_false (by omega)
      have f2 : (m = 0) = False := eq_false h0
      have w1 : w64 (-m) = (A : Int) := by
        rw [show -m = (A : Int) by omega]
        exact w64_id ⟨by omega, by omega⟩
      simp only [YK, c113, t113, tgK, lyK, rkK, wK, rfK, qRes_eq, qNon_eq, qup_ap, vup_ap, vcpy_ap, kc8_0, kc8_1, kc8_2, lc_lt, lc_gt, lc_eq, Option.toList_some, Option.toList_none, List.cons_append, List.nil_append, lay_len, lay_sz, Nat.reduceAdd, Nat.reduceSub, Nat.reduceMul, Int.reduceToNat, Int.reduceLE, Int.reduceLT, Int.reduceEq, Int.reduceAdd, Int.reduceSub, Int.reduceMul, Int.reduceNeg, Nat.reduceLeDiff, Nat.reduceLT, true_and, and_true, false_and, and_false, qcat_0, qcat_1, qcat_3, qcat_9, Nat.reduceEqDiff, if_true, if_false, ite_self, or_true, true_or, or_false, false_or, forall_const, not_true_eq_false, not_false_eq_true, false_implies, implies_true, qtK0, qtK1, qtK2, qtK3, qtK4, List.getD_cons_zero, List.getD_cons_succ, Int.toNat_natCast, ne_eq, qcK, hbF, bsetF, bclrF, f1, f2, w1]
      exact go
    · have f1 : (0 < m) = True := eq_true (by omega)
      have hmA : m = (A : Int) := by omega
      rw [hmA] at f1 go ⊢
      simp only [YK, c113, t113, tgK, lyK, rkK, wK, rfK, qRes_eq, qNon_eq, qup_ap, vup_ap, vcpy_ap, kc8_0, kc8_1, kc8_2, lc_lt, lc_gt, lc_eq, Option.toList_some, Option.toList_none, List.cons_append, List.nil_append, lay_len, lay_sz, Nat.reduceAdd, Nat.reduceSub, Nat.reduceMul, Int.reduceToNat, Int.reduceLE, Int.reduceLT, Int.reduceEq, Int.reduceAdd, Int.reduceSub, Int.reduceMul, Int.reduceNeg, Nat.reduceLeDiff, Nat.reduceLT, true_and, and_true, false_and, and_false, qcat_0, qcat_1, qcat_3, qcat_9, Nat.reduceEqDiff, if_true, if_false, ite_self, or_true, true_or, or_false, false_or, forall_const, not_true_eq_false, not_false_eq_true, false_implies, implies_true, qtK0, qtK1, qtK2, qtK3, qtK4, List.getD_cons_zero, List.getD_cons_succ, Int.toNat_natCast, ne_eq, qcK, hbF, bsetF, bclrF, f1]
      exact go
