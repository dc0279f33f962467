/-! the class: an ask ends, a work ends -/
theorem d12a (tb : qTb) (lim : Nat × Nat) (R : Option qV → qM → Prop) (ls st : List qV) (M : qM) : qW tb 12 lim 0 ls st M R = qy tb 12 lim R (0, .aload_n 0, 1, 0, 0, 0) ls st M ∧ qW tb 12 lim 1 ls st M R = qy tb 12 lim R (1, .getfield 11, 3, 1, 0, 0) ls st M ∧ qW tb 12 lim 4 ls st M R = qy tb 12 lim R (4, .iload_n 1, 1, 0, 0, 0) ls st M ∧ qW tb 12 lim 5 ls st M R = qy tb 12 lim R (5, .aaload, 1, 0, 0, 0) ls st M ∧ qW tb 12 lim 6 ls st M R = qy tb 12 lim R (6, .astore_n 3, 1, 0, 0, 0) ls st M ∧ qW tb 12 lim 7 ls st M R = qy tb 12 lim R (7, .aload_n 3, 1, 0, 0, 0) ls st M ∧ qW tb 12 lim 8 ls st M R = qy tb 12 lim R (8, .invokevirtual 129, 3, 43, 0, 0) ls st M ∧ qW tb 12 lim 11 ls st M R = qy tb 12 lim R (11, .istore 4, 2, 0, 0, 0) ls st M ∧ qW tb 12 lim 13 ls st M R = qy tb 12 lim R (13, .aload_n 0, 1, 0, 0, 0) ls st M ∧ qW tb 12 lim 14 ls st M R = qy tb 12 lim R (14, .iload_n 1, 1, 0, 0, 0) ls st M ∧ qW tb 12 lim 15 ls st M R = qy tb 12 lim R (15, .iload_n 2, 1, 0, 0, 0) ls st M ∧ qW tb 12 lim 16 ls st M R = qy tb 12 lim R (16, .invokevirtual 133, 3, 13, 2, 0) ls st M ∧ qW tb 12 lim 19 ls st M R = qy tb 12 lim R (19, .istore 5, 2, 0, 0, 0) ls st M ∧ qW tb 12 lim 21 ls st M R = qy tb 12 lim R (21, .aload_n 0, 1, 0, 0, 0) ls st M ∧ qW tb 12 lim 22 ls st M R = qy tb 12 lim R (22, .dup, 1, 0, 0, 0) ls st M ∧ qW tb 12 lim 23 ls st M R = qy tb 12 lim R (23, .getfield 113, 3, 1, 17, 0) ls st M ∧ qW tb 12 lim 26 ls st M R = qy tb 12 lim R (26, .iconst 1, 1, 0, 0, 0) ls st M ∧ qW tb 12 lim 27 ls st M R = qy tb 12 lim R (27, .isub, 1, 0, 0, 0) ls st M ∧ qW tb 12 lim 28 ls st M R = qy tb 12 lim R (28, .putfield 113, 3, 1, 17, 0) ls st M ∧ qW tb 12 lim 31 ls st M R = qy tb 12 lim R (31, .aload_n 3, 1, 0, 0, 0) ls st M ∧ qW tb 12 lim 32 ls st M R = qy tb 12 lim R (32, .dup, 1, 0, 0, 0) ls st M ∧ qW tb 12 lim 33 ls st M R = qy tb 12 lim R (33, .getfield 137, 3, 3, 7, 0) ls st M ∧ qW tb 12 lim 36 ls st M R = qy tb 12 lim R (36, .iconst 1, 1, 0, 0, 0) ls st M ∧ qW tb 12 lim 37 ls st M R = qy tb 12 lim R (37, .iadd, 1, 0, 0, 0) ls st M ∧ qW tb 12 lim 38 ls st M R = qy tb 12 lim R (38, .putfield 137, 3, 3, 7, 0) ls st M ∧ qW tb 12 lim 41 ls st M R = qy tb 12 lim R (41, .iload 5, 2, 0, 0, 0) ls st M ∧ qW tb 12 lim 43 ls st M R = qy tb 12 lim R (43, .ifCond .eq 13, 3, 0, 0, 0) ls st M ∧ qW tb 12 lim 46 ls st M R = qy tb 12 lim R (46, .aload_n 3, 1, 0, 0, 0) ls st M ∧ qW tb 12 lim 47 ls st M R = qy tb 12 lim R (47, .dup, 1, 0, 0, 0) ls st M ∧ qW tb 12 lim 48 ls st M R = qy tb 12 lim R (48, .getfield 140, 3, 3, 8, 0) ls st M ∧ qW tb 12 lim 51 ls st M R = qy tb 12 lim R (51, .iconst 1, 1, 0, 0, 0) ls st M ∧ qW tb 12 lim 52 ls st M R = qy tb 12 lim R (52, .iadd, 1, 0, 0, 0) ls st M ∧ qW tb 12 lim 53 ls st M R = qy tb 12 lim R (53, .putfield 140, 3, 3, 8, 0) ls st M := ⟨qW_at (qcdB_spec (e := (0, .aload_n 0, 1, 0, 0, 0)) (by decide +kernel)), qW_at (qcdB_spec (e := (1, .getfield 11, 3, 1, 0, 0)) (by decide +kernel)), qW_at (qcdB_spec (e := (4, .iload_n 1, 1, 0, 0, 0)) (by decide +kernel)), qW_at (qcdB_spec (e := (5, .aaload, 1, 0, 0, 0)) (by decide +kernel)), qW_at (qcdB_spec (e := (6, .astore_n 3, 1, 0, 0, 0)) (by decide +kernel)), qW_at (qcdB_spec (e := (7, .aload_n 3, 1, 0, 0, 0)) (by decide +kernel)), qW_at (qcdB_spec (e := (8, .invokevirtual 129, 3, 43, 0, 0)) (by decide +kernel)), qW_at (qcdB_spec (e := (11, .istore 4, 2, 0, 0, 0)) (by decide +kernel)), qW_at (qcdB_spec (e := (13, .aload_n 0, 1, 0, 0, 0)) (by decide +kernel)), qW_at (qcdB_spec (e := (14, .iload_n 1, 1, 0, 0, 0)) (by decide +kernel)), qW_at (qcdB_spec (e := (15, .iload_n 2, 1, 0, 0, 0)) (by decide +kernel)), qW_at (qcdB_spec (e := (16, .invokevirtual 133, 3, 13, 2, 0)) (by decide +kernel)), qW_at (qcdB_spec (e := (19, .istore 5, 2, 0, 0, 0)) (by decide +kernel)), qW_at (qcdB_spec (e := (21, .aload_n 0, 1, 0, 0, 0)) (by decide +kernel)), qW_at (qcdB_spec (e := (22, .dup, 1, 0, 0, 0)) (by decide +kernel)), qW_at (qcdB_spec (e := (23, .getfield 113, 3, 1, 17, 0)) (by decide +kernel)), qW_at (qcdB_spec (e := (26, .iconst 1, 1, 0, 0, 0)) (by decide +kernel)), qW_at (qcdB_spec (e := (27, .isub, 1, 0, 0, 0)) (by decide +kernel)), qW_at (qcdB_spec (e := (28, .putfield 113, 3, 1, 17, 0)) (by decide +kernel)), qW_at (qcdB_spec (e := (31, .aload_n 3, 1, 0, 0, 0)) (by decide +kernel)), qW_at (qcdB_spec (e := (32, .dup, 1, 0, 0, 0)) (by decide +kernel)), qW_at (qcdB_spec (e := (33, .getfield 137, 3, 3, 7, 0)) (by decide +kernel)), qW_at (qcdB_spec (e := (36, .iconst 1, 1, 0, 0, 0)) (by decide +kernel)), qW_at (qcdB_spec (e := (37, .iadd, 1, 0, 0, 0)) (by decide +kernel)), qW_at (qcdB_spec (e := (38, .putfield 137, 3, 3, 7, 0)) (by decide +kernel)), qW_at (qcdB_spec (e := (41, .iload 5, 2, 0, 0, 0)) (by decide +kernel)), qW_at (qcdB_spec (e := (43, .ifCond .eq 13, 3, 0, 0, 0)) (by decide +kernel)), qW_at (qcdB_spec (e := (46, .aload_n 3, 1, 0, 0, 0)) (by decide +kernel)), qW_at (qcdB_spec (e := (47, .dup, 1, 0, 0, 0)) (by decide +kernel)), qW_at (qcdB_spec (e := (48, .getfield 140, 3, 3, 8, 0)) (by decide +kernel)), qW_at (qcdB_spec (e := (51, .iconst 1, 1, 0, 0, 0)) (by decide +kernel)), qW_at (qcdB_spec (e := (52, .iadd, 1, 0, 0, 0)) (by decide +kernel)), qW_at (qcdB_spec (e := (53, .putfield 140, 3, 3, 8, 0)) (by decide +kernel))⟩
theorem d12b (tb : qTb) (lim : Nat × Nat) (R : Option qV → qM → Prop) (ls st : List qV) (M : qM) : qW tb 12 lim 56 ls st M R = qy tb 12 lim R (56, .aload_n 0, 1, 0, 0, 0) ls st M ∧ qW tb 12 lim 57 ls st M R = qy tb 12 lim R (57, .getfield 17, 3, 1, 1, 0) ls st M ∧ qW tb 12 lim 60 ls st M R = qy tb 12 lim R (60, .iload 4, 2, 0, 0, 0) ls st M ∧ qW tb 12 lim 62 ls st M R = qy tb 12 lim R (62, .iaload, 1, 0, 0, 0) ls st M ∧ qW tb 12 lim 63 ls st M R = qy tb 12 lim R (63, .iconst 1, 1, 0, 0, 0) ls st M ∧ qW tb 12 lim 64 ls st M R = qy tb 12 lim R (64, .if_icmp .eq 16, 3, 0, 0, 0) ls st M ∧ qW tb 12 lim 67 ls st M R = qy tb 12 lim R (67, .aload_n 3, 1, 0, 0, 0) ls st M ∧ qW tb 12 lim 68 ls st M R = qy tb 12 lim R (68, .dup, 1, 0, 0, 0) ls st M ∧ qW tb 12 lim 69 ls st M R = qy tb 12 lim R (69, .getfield 143, 3, 3, 9, 0) ls st M ∧ qW tb 12 lim 72 ls st M R = qy tb 12 lim R (72, .iconst 1, 1, 0, 0, 0) ls st M ∧ qW tb 12 lim 73 ls st M R = qy tb 12 lim R (73, .iadd, 1, 0, 0, 0) ls st M ∧ qW tb 12 lim 74 ls st M R = qy tb 12 lim R (74, .putfield 143, 3, 3, 9, 0) ls st M ∧ qW tb 12 lim 77 ls st M R = qy tb 12 lim R (77, .goto 51, 3, 0, 0, 0) ls st M ∧ qW tb 12 lim 80 ls st M R = qy tb 12 lim R (80, .iload 5, 2, 0, 0, 0) ls st M ∧ qW tb 12 lim 82 ls st M R = qy tb 12 lim R (82, .ifCond .ne 46, 3, 0, 0, 0) ls st M ∧ qW tb 12 lim 85 ls st M R = qy tb 12 lim R (85, .aload_n 0, 1, 0, 0, 0) ls st M ∧ qW tb 12 lim 86 ls st M R = qy tb 12 lim R (86, .iload 4, 2, 0, 0, 0) ls st M ∧ qW tb 12 lim 88 ls st M R = qy tb 12 lim R (88, .iconst 2, 1, 0, 0, 0) ls st M ∧ qW tb 12 lim 89 ls st M R = qy tb 12 lim R (89, .iload_n 2, 1, 0, 0, 0) ls st M ∧ qW tb 12 lim 90 ls st M R = qy tb 12 lim R (90, .invokevirtual 146, 3, 14, 3, 0) ls st M ∧ qW tb 12 lim 93 ls st M R = qy tb 12 lim R (93, .aload_n 0, 1, 0, 0, 0) ls st M ∧ qW tb 12 lim 94 ls st M R = qy tb 12 lim R (94, .getfield 24, 3, 1, 4, 0) ls st M ∧ qW tb 12 lim 97 ls st M R = qy tb 12 lim R (97, .iload 4, 2, 0, 0, 0) ls st M ∧ qW tb 12 lim 99 ls st M R = qy tb 12 lim R (99, .iload_n 1, 1, 0, 0, 0) ls st M ∧ qW tb 12 lim 100 ls st M R = qy tb 12 lim R (100, .iastore, 1, 0, 0, 0) ls st M ∧ qW tb 12 lim 101 ls st M R = qy tb 12 lim R (101, .aload_n 0, 1, 0, 0, 0) ls st M ∧ qW tb 12 lim 102 ls st M R = qy tb 12 lim R (102, .aload_n 0, 1, 0, 0, 0) ls st M ∧ qW tb 12 lim 103 ls st M R = qy tb 12 lim R (103, .getfield 94, 3, 1, 11, 0) ls st M ∧ qW tb 12 lim 106 ls st M R = qy tb 12 lim R (106, .ldc 150, 2, 1, 0, 1048576000) ls st M ∧ qW tb 12 lim 108 ls st M R = qy tb 12 lim R (108, .iload_n 2, 1, 0, 0, 0) ls st M ∧ qW tb 12 lim 109 ls st M R = qy tb 12 lim R (109, .aload_n 0, 1, 0, 0, 0) ls st M ∧ qW tb 12 lim 110 ls st M R = qy tb 12 lim R (110, .getfield 49, 3, 1, 8, 0) ls st M ∧ qW tb 12 lim 113 ls st M R = qy tb 12 lim R (113, .iload 4, 2, 0, 0, 0) ls st M ∧ qW tb 12 lim 115 ls st M R = qy tb 12 lim R (115, .iaload, 1, 0, 0, 0) ls st M ∧ qW tb 12 lim 116 ls st M R = qy tb 12 lim R (116, .isub, 1, 0, 0, 0) ls st M ∧ qW tb 12 lim 117 ls st M R = qy tb 12 lim R (117, .i2f, 1, 0, 0, 0) ls st M ∧ qW tb 12 lim 118 ls st M R = qy tb 12 lim R (118, .aload_n 0, 1, 0, 0, 0) ls st M ∧ qW tb 12 lim 119 ls st M R = qy tb 12 lim R (119, .getfield 94, 3, 1, 11, 0) ls st M ∧ qW tb 12 lim 122 ls st M R = qy tb 12 lim R (122, .fsub, 1, 0, 0, 0) ls st M ∧ qW tb 12 lim 123 ls st M R = qy tb 12 lim R (123, .fmul, 1, 0, 0, 0) ls st M ∧ qW tb 12 lim 124 ls st M R = qy tb 12 lim R (124, .fadd, 1, 0, 0, 0) ls st M ∧ qW tb 12 lim 125 ls st M R = qy tb 12 lim R (125, .putfield 94, 3, 1, 11, 0) ls st M := ⟨qW_at (qcdB_spec (e := (56, .aload_n 0, 1, 0, 0, 0)) (by decide +kernel)), qW_at (qcdB_spec (e := (57, .getfield 17, 3, 1, 1, 0)) (by decide +kernel)), qW_at (qcdB_spec (e := (60, .iload 4, 2, 0, 0, 0)) (by decide +kernel)), qW_at (qcdB_spec (e := (62, .iaload, 1, 0, 0, 0)) (by decide +kernel)), qW_at (qcdB_spec (e := (63, .iconst 1, 1, 0, 0, 0)) (by decide +kernel)), qW_at (qcdB_spec (e := (64, .if_icmp .eq 16, 3, 0, 0, 0)) (by decide +kernel)), qW_at (qcdB_spec (e := (67, .aload_n 3, 1, 0, 0, 0)) (by decide +kernel)), qW_at (qcdB_spec (e := (68, .dup, 1, 0, 0, 0)) (by decide +kernel)), qW_at (qcdB_spec (e := (69, .getfield 143, 3, 3, 9, 0)) (by decide +kernel)), qW_at (qcdB_spec (e := (72, .iconst 1, 1, 0, 0, 0)) (by decide +kernel)), qW_at (qcdB_spec (e := (73, .iadd, 1, 0, 0, 0)) (by decide +kernel)), qW_at (qcdB_spec (e := (74, .putfield 143, 3, 3, 9, 0)) (by decide +kernel)), qW_at (qcdB_spec (e := (77, .goto 51, 3, 0, 0, 0)) (by decide +kernel)), qW_at (qcdB_spec (e := (80, .iload 5, 2, 0, 0, 0)) (by decide +kernel)), qW_at (qcdB_spec (e := (82, .ifCond .ne 46, 3, 0, 0, 0)) (by decide +kernel)), qW_at (qcdB_spec (e := (85, .aload_n 0, 1, 0, 0, 0)) (by decide +kernel)), qW_at (qcdB_spec (e := (86, .iload 4, 2, 0, 0, 0)) (by decide +kernel)), qW_at (qcdB_spec (e := (88, .iconst 2, 1, 0, 0, 0)) (by decide +kernel)), qW_at (qcdB_spec (e := (89, .iload_n 2, 1, 0, 0, 0)) (by decide +kernel)), qW_at (qcdB_spec (e := (90, .invokevirtual 146, 3, 14, 3, 0)) (by decide +kernel)), qW_at (qcdB_spec (e := (93, .aload_n 0, 1, 0, 0, 0)) (by decide +kernel)), qW_at (qcdB_spec (e := (94, .getfield 24, 3, 1, 4, 0)) (by decide +kernel)), qW_at (qcdB_spec (e := (97, .iload 4, 2, 0, 0, 0)) (by decide +kernel)), qW_at (qcdB_spec (e := (99, .iload_n 1, 1, 0, 0, 0)) (by decide +kernel)), qW_at (qcdB_spec (e := (100, .iastore, 1, 0, 0, 0)) (by decide +kernel)), qW_at (qcdB_spec (e := (101, .aload_n 0, 1, 0, 0, 0)) (by decide +kernel)), qW_at (qcdB_spec (e := (102, .aload_n 0, 1, 0, 0, 0)) (by decide +kernel)), qW_at (qcdB_spec (e := (103, .getfield 94, 3, 1, 11, 0)) (by decide +kernel)), qW_at (qcdB_spec (e := (106, .ldc 150, 2, 1, 0, 1048576000)) (by decide +kernel)), qW_at (qcdB_spec (e := (108, .iload_n 2, 1, 0, 0, 0)) (by decide +kernel)), qW_at (qcdB_spec (e := (109, .aload_n 0, 1, 0, 0, 0)) (by decide +kernel)), qW_at (qcdB_spec (e := (110, .getfield 49, 3, 1, 8, 0)) (by decide +kernel)), qW_at (qcdB_spec (e := (113, .iload 4, 2, 0, 0, 0)) (by decide +kernel)), qW_at (qcdB_spec (e := (115, .iaload, 1, 0, 0, 0)) (by decide +kernel)), qW_at (qcdB_spec (e := (116, .isub, 1, 0, 0, 0)) (by decide +kernel)), qW_at (qcdB_spec (e := (117, .i2f, 1, 0, 0, 0)) (by decide +kernel)), qW_at (qcdB_spec (e := (118, .aload_n 0, 1, 0, 0, 0)) (by decide +kernel)), qW_at (qcdB_spec (e := (119, .getfield 94, 3, 1, 11, 0)) (by decide +kernel)), qW_at (qcdB_spec (e := (122, .fsub, 1, 0, 0, 0)) (by decide +kernel)), qW_at (qcdB_spec (e := (123, .fmul, 1, 0, 0, 0)) (by decide +kernel)), qW_at (qcdB_spec (e := (124, .fadd, 1, 0, 0, 0)) (by decide +kernel)), qW_at (qcdB_spec (e := (125, .putfield 94, 3, 1, 11, 0)) (by decide +kernel))⟩
theorem d12c (tb : qTb) (lim : Nat × Nat) (R : Option qV → qM → Prop) (ls st : List qV) (M : qM) : qW tb 12 lim 128 ls st M R = qy tb 12 lim R (128, .aload_n 3, 1, 0, 0, 0) ls st M ∧ qW tb 12 lim 129 ls st M R = qy tb 12 lim R (129, .getfield 151, 3, 3, 0, 0) ls st M ∧ qW tb 12 lim 132 ls st M R = qy tb 12 lim R (132, .iload 5, 2, 0, 0, 0) ls st M ∧ qW tb 12 lim 134 ls st M R = qy tb 12 lim R (134, .iload_n 2, 1, 0, 0, 0) ls st M ∧ qW tb 12 lim 135 ls st M R = qy tb 12 lim R (135, .aload_n 0, 1, 0, 0, 0) ls st M ∧ qW tb 12 lim 136 ls st M R = qy tb 12 lim R (136, .getfield 40, 3, 1, 7, 0) ls st M ∧ qW tb 12 lim 139 ls st M R = qy tb 12 lim R (139, .getfield 155, 3, 5, 0, 0) ls st M ∧ qW tb 12 lim 142 ls st M R = qy tb 12 lim R (142, .iconst 3, 1, 0, 0, 0) ls st M ∧ qW tb 12 lim 143 ls st M R = qy tb 12 lim R (143, .iaload, 1, 0, 0, 0) ls st M ∧ qW tb 12 lim 144 ls st M R = qy tb 12 lim R (144, .invokevirtual 158, 3, 5, 3, 0) ls st M ∧ qW tb 12 lim 147 ls st M R = qy tb 12 lim R (147, .return_, 1, 0, 0, 0) ls st M := ⟨qW_at (qcdB_spec (e := (128, .aload_n 3, 1, 0, 0, 0)) (by decide +kernel)), qW_at (qcdB_spec (e := (129, .getfield 151, 3, 3, 0, 0)) (by decide +kernel)), qW_at (qcdB_spec (e := (132, .iload 5, 2, 0, 0, 0)) (by decide +kernel)), qW_at (qcdB_spec (e := (134, .iload_n 2, 1, 0, 0, 0)) (by decide +kernel)), qW_at (qcdB_spec (e := (135, .aload_n 0, 1, 0, 0, 0)) (by decide +kernel)), qW_at (qcdB_spec (e := (136, .getfield 40, 3, 1, 7, 0)) (by decide +kernel)), qW_at (qcdB_spec (e := (139, .getfield 155, 3, 5, 0, 0)) (by decide +kernel)), qW_at (qcdB_spec (e := (142, .iconst 3, 1, 0, 0, 0)) (by decide +kernel)), qW_at (qcdB_spec (e := (143, .iaload, 1, 0, 0, 0)) (by decide +kernel)), qW_at (qcdB_spec (e := (144, .invokevirtual 158, 3, 5, 3, 0)) (by decide +kernel)), qW_at (qcdB_spec (e := (147, .return_, 1, 0, 0, 0)) (by decide +kernel))⟩
theorem er_flt {l : List Int} {a : Int} (hn : l.Nodup) {k : Nat} (hk : k < l.length) (e : l.getD k 0 = a) : l.eraseIdx k = flt a l := by
  have e1 : l.eraseIdx k = l.erase a := by
    rw [← e, getD_at hk]
    exact (List.erase_eq_eraseIdx_of_idxOf (List.Nodup.idxOf_getElem hn k hk)).symm
  rw [e1, List.Nodup.erase_eq_filter hn]
  unfold flt
  congr 1
  funext c
  by_cases h : c = a
  · simp [h]
  · simp [h]
theorem flt_id {l : List Int} {a : Int} (h : a ∉ l) : flt a l = l := by
  unfold flt
  apply List.filter_eq_self.mpr
  intro c hc
  exact decide_eq_true (fun e => h (e ▸ hc))
theorem dropTo_at (a : Int) (L : LT) (h : Nat) : dropTo a L h 0 h = L 0 h ∧ dropTo a L h 1 h = L 1 h := by
  unfold dropTo
  exact ⟨if_neg (by omega), if_neg (by omega)⟩
theorem k14 {tb : qTb} {n ns na p s u : Nat} {sp : Int} {C X F : XT} {L : LT} {e b : Int} {R : Option qV → qM → Prop} (hR : CR p u sp C X L e b F) (hST : ST n ns na p s u sp C X) (a : Nat) (ha : a < 12) (how t : Int) (hI : ∀ h : Nat, h < 4 → HI L h) (hk : ∀ F2, CR p u sp C (qup (qup X 98 a how) 99 a t) (dropTo (a : Int) L n) (w32 (e + 1)) b F2 → R none (LAY, F2)) : qW tb 14 (119, 1262) 0 [(3, 35), (0, (a : Int)), (0, how), (0, t), (9, 0)] [] (LAY, F) R := by
  have hr := Rf_k hR.rf
  have hx := hR.k
  unfold CD at hx
  obtain ⟨hPS, ⟨t1, t1b⟩, ⟨t2, t2b⟩, ⟨t3, t3b⟩, t4, t5, t6, ⟨t7, t8, t9⟩, t10⟩ := hST
  have hp0 := psK hPS
  have hps := hR.ps hPS
  have b0 : (0 ≤ (a : Int) ∧ (a : Int) < 12) = True := eq_true (by omega)
  have hR1 : CR p u sp C (qup (qup X 98 a how) 99 a t) L (w32 (e + 1)) b (qup (qup (qup F 37 a how) 38 a t) 35 16 (w32 (e + 1))) := ((hR.ask 0 (by decide) a how).ask 1 (by decide) a t).e (w32 (e + 1))
  have hloop : ∀ (m h : Nat) (F : XT), h + m = n → CR p u sp C (qup (qup X 98 a how) 99 a t) (dropTo (a : Int) L h) (w32 (e + 1)) b F → qW tb 14 (119, 1262) 27 [(3, 35), (0, (a : Int)), (0, how), (0, t), (0, (h : Int))] [] (LAY, F) R := by
    clear hr hx hps hR1
    intro m
    induction m with
    | zero =>
      intro h F hm hR
      have hr := Rf_k hR.rf
      have hx := hR.k
      unfold CD at hx
      have eh : h = n := by omega
      subst eh
      have b1 : ((h : Int) < (h : Int)) = False := eq_false (by omega)
      have hq := hk F hR
      rw [h14_27]
      simp only [YK, c14, t14, tgK, lyK, rkK, wK, rfK, hr, qRes_eq, qNon_eq, qup_ap, vup_ap, vcpy_ap, kc8_0, kc8_1, kc8_2, lc_lt, lc_gt, lc_eq, Option.toList_some, Option.toList_none, List.cons_append, List.nil_append, lay_len, lay_sz, Nat.reduceAdd, Nat.reduceSub, Nat.reduceMul, Int.reduceToNat, Int.reduceLE, Int.reduceLT, Int.reduceEq, Int.reduceAdd, Int.reduceSub, Int.reduceMul, Int.reduceNeg, Nat.reduceLeDiff, Nat.reduceLT, true_and, and_true, false_and, and_false, qcat_0, qcat_1, qcat_3, qcat_9, Nat.reduceEqDiff, if_true, if_false, ite_self, or_true, true_or, or_false, false_or, forall_const, not_true_eq_false, not_false_eq_true, false_implies, implies_true, qtK0, qtK1, qtK2, qtK3, qtK4, List.getD_cons_zero, List.getD_cons_succ, hx, Int.toNat_natCast, ne_eq, qcK, hbF, bsetF, bclrF, t1, b1]
      exact hq
    | succ m ih =>
      intro h F hm hR
      have hr := Rf_k hR.rf
      have hx := hR.k
      unfold CD at hx
      have hh : h < 4 := by omega
      have hg := hR.h hh
      have hc0 := hcK0 hh
      have hc1 := hcK1 h
      have b1 : ((h : Int) < (n : Int)) = True := eq_true (by omega)
      have b2 : (0 ≤ (h : Int) ∧ (h : Int) < 4) = True := eq_true (by omega)
      have w1 : w32 ((h : Int) + 1) = ((h + 1 : Nat) : Int) := by rw [w32_id ⟨by omega, by omega⟩]; omega
      obtain ⟨d0, d1⟩ := dropTo_at (a : Int) L h
      have hds := dropTo_step (a : Int) L h
      have hIh : HI (dropTo (a : Int) L h) h := by unfold HI; rw [d0, d1]; exact hI h hh
      rw [h14_27]
      simp only [YK, c14, t14, cl40, tgK, lyK, rkK, wK, rfK, hr, qRes_eq, qNon_eq, qup_ap, vup_ap, vcpy_ap, kc8_0, kc8_1, kc8_2, lc_lt, lc_gt, lc_eq, Option.toList_some, Option.toList_none, List.cons_append, List.nil_append, lay_len, lay_sz, Nat.reduceAdd, Nat.reduceSub, Nat.reduceMul, Int.reduceToNat, Int.reduceLE, Int.reduceLT, Int.reduceEq, Int.reduceAdd, Int.reduceSub, Int.reduceMul, Int.reduceNeg, Nat.reduceLeDiff, Nat.reduceLT, true_and, and_true, false_and, and_false, qcat_0, qcat_1, qcat_3, qcat_9, Nat.reduceEqDiff, if_true, if_false, ite_self, or_true, true_or, or_false, false_or, forall_const, not_true_eq_false, not_false_eq_true, false_implies, implies_true, qtK0, qtK1, qtK2, qtK3, qtK4, List.getD_cons_zero, List.getD_cons_succ, hx, Int.toNat_natCast, ne_eq, qcK, hbF, bsetF, bclrF, t1, b1, b2, hg, hc0, hc1]
      refine k40 hR h hh (a : Int) ?_
      intro v hv
      rcases hv with ⟨rfl, hn⟩ | ⟨k, hkl, rfl, ek⟩
      · simp only [YK, c14, t14, cl39, tgK, lyK, rkK, wK, rfK, qRes_eq, qNon_eq, qup_ap, vup_ap, vcpy_ap, kc8_0, kc8_1, kc8_2, lc_lt, lc_gt, lc_eq, Option.toList_some, Option.toList_none, List.cons_append, List.nil_append, lay_len, lay_sz, Nat.reduceAdd, Nat.reduceSub, Nat.reduceMul, Int.reduceToNat, Int.reduceLE, Int.reduceLT, Int.reduceEq, Int.reduceAdd, Int.reduceSub, Int.reduceMul, Int.reduceNeg, Nat.reduceLeDiff, Nat.reduceLT, true_and, and_true, false_and, and_false, qcat_0, qcat_1, qcat_3, qcat_9, Nat.reduceEqDiff, if_true, if_false, ite_self, or_true, true_or, or_false, false_or, forall_const, not_true_eq_false, not_false_eq_true, false_implies, implies_true, qtK0, qtK1, qtK2, qtK3, qtK4, List.getD_cons_zero, List.getD_cons_succ, Int.toNat_natCast, ne_eq, qcK, hbF, bsetF, bclrF, hc0, hc1]
        refine k39n hR h hh ?_
        rw [d0] at hn
        rw [flt_id hn] at hds
        have hq := ih (h + 1) F (by omega) (by rw [← hds, ← d0, lset_id]; exact hR)
        simp only [YK, c14, t14, tgK, lyK, rkK, wK, rfK, qRes_eq, qNon_eq, qup_ap, vup_ap, vcpy_ap, kc8_0, kc8_1, kc8_2, lc_lt, lc_gt, lc_eq, Option.toList_some, Option.toList_none, List.cons_append, List.nil_append, lay_len, lay_sz, Nat.reduceAdd, Nat.reduceSub, Nat.reduceMul, Int.reduceToNat, Int.reduceLE, Int.reduceLT, Int.reduceEq, Int.reduceAdd, Int.reduceSub, Int.reduceMul, Int.reduceNeg, Nat.reduceLeDiff, Nat.reduceLT, true_and, and_true, false_and, and_false, qcat_0, qcat_1, qcat_3, qcat_9, Nat.reduceEqDiff, if_true, if_false, ite_self, or_true, true_or, or_false, false_or, forall_const, not_true_eq_false, not_false_eq_true, false_implies, implies_true, qtK0, qtK1, qtK2, qtK3, qtK4, List.getD_cons_zero, List.getD_cons_succ, Int.toNat_natCast, ne_eq, qcK, hbF, bsetF, bclrF, w1]
        exact hq
      · simp only [YK, c14, t14, cl39, tgK, lyK, rkK, wK, rfK, qRes_eq, qNon_eq, qup_ap, vup_ap, vcpy_ap, kc8_0, kc8_1, kc8_2, lc_lt, lc_gt, lc_eq, Option.toList_some, Option.toList_none, List.cons_append, List.nil_append, lay_len, lay_sz, Nat.reduceAdd, Nat.reduceSub, Nat.reduceMul, Int.reduceToNat, Int.reduceLE, Int.reduceLT, Int.reduceEq, Int.reduceAdd, Int.reduceSub, Int.reduceMul, Int.reduceNeg, Nat.reduceLeDiff, Nat.reduceLT, true_and, and_true, false_and, and_false, qcat_0, qcat_1, qcat_3, qcat_9, Nat.reduceEqDiff, if_true, if_false, ite_self, or_true, true_or, or_false, false_or, forall_const, not_true_eq_false, not_false_eq_true, false_implies, implies_true, qtK0, qtK1, qtK2, qtK3, qtK4, List.getD_cons_zero, List.getD_cons_succ, Int.toNat_natCast, ne_eq, qcK, hbF, bsetF, bclrF, hc0, hc1]
        refine k39 hR h hh k hkl hIh ?_
        intro F2 hR2
        rw [d0] at hkl ek hR2
        rw [er_flt (hI h hh).2.2.1 hkl ek, hds] at hR2
        have hq := ih (h + 1) F2 (by omega) hR2
        simp only [YK, c14, t14, tgK, lyK, rkK, wK, rfK, qRes_eq, qNon_eq, qup_ap, vup_ap, vcpy_ap, kc8_0, kc8_1, kc8_2, lc_lt, lc_gt, lc_eq, Option.toList_some, Option.toList_none, List.cons_append, List.nil_append, lay_len, lay_sz, Nat.reduceAdd, Nat.reduceSub, Nat.reduceMul, Int.reduceToNat, Int.reduceLE, Int.reduceLT, Int.reduceEq, Int.reduceAdd, Int.reduceSub, Int.reduceMul, Int.reduceNeg, Nat.reduceLeDiff, Nat.reduceLT, true_and, and_true, false_and, and_false, qcat_0, qcat_1, qcat_3, qcat_9, Nat.reduceEqDiff, if_true, if_false, ite_self, or_true, true_or, or_false, false_or, forall_const, not_true_eq_false, not_false_eq_true, false_implies, implies_true, qtK0, qtK1, qtK2, qtK3, qtK4, List.getD_cons_zero, List.getD_cons_succ, Int.toNat_natCast, ne_eq, qcK, hbF, bsetF, bclrF, w1]
        exact hq
  have hq := hloop n 0 _ (by omega) (by rw [dropTo_zero]; exact hR1)
  simp only [YK, c14, t14, tgK, lyK, rkK, wK, rfK, hr, qRes_eq, qNon_eq, qup_ap, vup_ap, vcpy_ap, kc8_0, kc8_1, kc8_2, lc_lt, lc_gt, lc_eq, Option.toList_some, Option.toList_none, List.cons_append, List.nil_append, lay_len, lay_sz, Nat.reduceAdd, Nat.reduceSub, Nat.reduceMul, Int.reduceToNat, Int.reduceLE, Int.reduceLT, Int.reduceEq, Int.reduceAdd, Int.reduceSub, Int.reduceMul, Int.reduceNeg, Nat.reduceLeDiff, Nat.reduceLT, true_and, and_true, false_and, and_false, qcat_0, qcat_1, qcat_3, qcat_9, Nat.reduceEqDiff, if_true, if_false, ite_self, or_true, true_or, or_false, false_or, forall_const, not_true_eq_false, not_false_eq_true, false_implies, implies_true, qtK0, qtK1, qtK2, qtK3, qtK4, List.getD_cons_zero, List.getD_cons_succ, hx, Int.toNat_natCast, ne_eq, qcK, hbF, bsetF, bclrF, hp0, hps, t1, t2, t3, t7, b0]
  exact hq
theorem qup_id (X : XT) (c j : Nat) : qup X c j (X c j) = X := by
  funext c2 j2
  rw [qup_ap]
  by_cases h1 : c2 = c
  · rw [if_pos h1]
    by_cases h2 : j2 = j
    · rw [if_pos h2, h1, h2]
    · rw [if_neg h2]
  · rw [if_neg h1]
/-- what a breaker must be like when it is told of a work -/
def NB (X : XT) (h : Nat) (bad : Bool) : Prop := OB X h ∧ (0 ≤ X 97 3 ∧ X 97 3 ≤ 3) ∧ (0 ≤ X 110 h ∧ X 110 h < 256) ∧ (0 ≤ X 111 h ∧ X 111 h ≤ 8) ∧ (X 97 3 ≠ 3 → X 112 h = 0) ∧ (X 97 3 = 3 → FG (X 112 h) (bi bad) ∧ FHalf (twF (X 112 h) (bi bad)))
theorem NB_eq {X Y : XT} {h : Nat} {bad : Bool} (hN : NB X h bad) (e : ∀ c, (c = 97 ∨ c = 108 ∨ c = 109 ∨ c = 110 ∨ c = 111 ∨ c = 112) → Y c = X c) : NB Y h bad := by
  unfold NB OB at hN ⊢
  rw [e 97 (by decide), e 108 (by decide), e 109 (by decide), e 110 (by decide), e 111 (by decide), e 112 (by decide)]
  exact hN
theorem k5' {tb : qTb} {p u : Nat} {sp : Int} {C X F : XT} {L : LT} {e b : Int} {R : Option qV → qM → Prop} (hR : CR p u sp C X L e b F) (h : Nat) (hh : h < 4) (bad : Bool) (t : Int) (ht : 0 ≤ t ∧ t ≤ 80) (hN : NB X h bad) (hk : ∀ F2, CR p u sp C (pNote X h bad t) L e b F2 → R none (LAY, F2)) : qW tb 5 (119, 1262) 0 [(3, ((hB h : Nat) : Int)), (0, bi bad), (0, t), (0, X 97 3), (9, 0)] [] (LAY, F) R := k5 hR h hh bad t ht hN.1 hN.2.1 hN.2.2.1 hN.2.2.2.1 hN.2.2.2.2.1 hN.2.2.2.2.2 hk
theorem pEndOne_a {n ns : Nat} {S : XT × LT} {h : Nat} {a : Nat} {t : Int} (c : ¬ S.1 98 a = 1) : pEndOne n ns S h (a : Int) t = (pNote (qup (pE1 S.1 ns h t) 115 h (w32 (S.1 115 h + 1))) h (pSp S.1 ns (h : Int) t) t, S.2) := by
  unfold pEndOne
  rw [Int.toNat_natCast, if_neg c]
theorem pEndOne_b {n ns : Nat} {S : XT × LT} {h : Nat} {a : Nat} {t : Int} (c : S.1 98 a = 1) (c2 : pSp S.1 ns (h : Int) t = true) : pEndOne n ns S h (a : Int) t = (pNote (pE1 S.1 ns h t) h true t, S.2) := by
  unfold pEndOne
  rw [Int.toNat_natCast, if_pos c, if_pos c2]
theorem pEndOne_c {n ns : Nat} {S : XT × LT} {h : Nat} {a : Nat} {t : Int} (c : S.1 98 a = 1) (c2 : pSp S.1 ns (h : Int) t = false) : pEndOne n ns S h (a : Int) t = (pNote (qup (qup (qup (qup (pE1 S.1 ns h t) 98 a 2) 99 a t) 100 a (h : Int)) 69 63 (twF (S.1 69 63) (w32 (t - S.1 96 a)))) h false t, dropTo (a : Int) S.2 n) := by
  unfold pEndOne
  rw [Int.toNat_natCast, if_pos c, if_neg (by rw [c2]; decide)]
/-- from where all ways of a work's end meet: the breaker is told -/
theorem k12z {tb : qTb} {n ns na p s u : Nat} {sp : Int} {C X F : XT} {L : LT} {e b : Int} {R : Option qV → qM → Prop} (hR : CR p u sp C X L e b F) (hST : ST n ns na p s u sp C X) (h : Nat) (hh : h < 4) (bad : Bool) (t : Int) (ht : 0 ≤ t ∧ t ≤ 80) (hN : NB X h bad) (v4 : qV) (hk : ∀ F2, CR p u sp C (pNote X h bad t) L e b F2 → R none (LAY, F2)) : qW tb 12 (119, 1262) 128 [(3, 35), (0, (h : Int)), (0, t), (3, ((hO h : Nat) : Int)), v4, (0, bi bad)] [] (LAY, F) R := by
  have hr := Rf_k hR.rf
  have hx := hR.k
  unfold CD at hx
  obtain ⟨hPS, ⟨t1, t1b⟩, ⟨t2, t2b⟩, ⟨t3, t3b⟩, t4, t5, t6, ⟨t7, t8, t9⟩, t10⟩ := hST
  have hp0 := psK hPS
  have hps := hR.ps hPS
  have hg := hR.h hh
  have hc0 := hcK0 hh
  have hc1 := hcK1 h
  have s3 := t8 3 (by decide)
  simp only [YK, d12c, t12, cl5, tgK, lyK, rkK, wK, rfK, hr, qRes_eq, qNon_eq, qup_ap, vup_ap, vcpy_ap, kc8_0, kc8_1, kc8_2, lc_lt, lc_gt, lc_eq, Option.toList_some, Option.toList_none, List.cons_append, List.nil_append, lay_len, lay_sz, Nat.reduceAdd, Nat.reduceSub, Nat.reduceMul, Int.reduceToNat, Int.reduceLE, Int.reduceLT, Int.reduceEq, Int.reduceAdd, Int.reduceSub, Int.reduceMul, Int.reduceNeg, Nat.reduceLeDiff, Nat.reduceLT, true_and, and_true, false_and, and_false, qcat_0, qcat_1, qcat_3, qcat_9, Nat.reduceEqDiff, if_true, if_false, ite_self, or_true, true_or, or_false, false_or, forall_const, not_true_eq_false, not_false_eq_true, false_implies, implies_true, qtK0, qtK1, qtK2, qtK3, qtK4, List.getD_cons_zero, List.getD_cons_succ, hx, Int.toNat_natCast, ne_eq, qcK, hbF, bsetF, bclrF, hp0, hps, t1, t2, t3, t7, hg, hc0, hc1, s3]
  refine k5' hR h hh bad t ht hN ?_
  intro F2 hR2
  have hq := hk F2 hR2
  simp only [YK, d12c, t12, tgK, lyK, rkK, wK, rfK, qRes_eq, qNon_eq, qup_ap, vup_ap, vcpy_ap, kc8_0, kc8_1, kc8_2, lc_lt, lc_gt, lc_eq, Option.toList_some, Option.toList_none, List.cons_append, List.nil_append, lay_len, lay_sz, Nat.reduceAdd, Nat.reduceSub, Nat.reduceMul, Int.reduceToNat, Int.reduceLE, Int.reduceLT, Int.reduceEq, Int.reduceAdd, Int.reduceSub, Int.reduceMul, Int.reduceNeg, Nat.reduceLeDiff, Nat.reduceLT, true_and, and_true, false_and, and_false, qcat_0, qcat_1, qcat_3, qcat_9, Nat.reduceEqDiff, if_true, if_false, ite_self, or_true, true_or, or_false, false_or, forall_const, not_true_eq_false, not_false_eq_true, false_implies, implies_true, qtK0, qtK1, qtK2, qtK3, qtK4, List.getD_cons_zero, List.getD_cons_succ, Int.toNat_natCast, ne_eq, qcK, hbF, bsetF, bclrF]
  exact hq
/-- a work has ended and is counted -/
theorem k12y {tb : qTb} {n ns na p s u : Nat} {sp : Int} {C X F : XT} {L : LT} {e b : Int} {R : Option qV → qM → Prop} (hR : CR p u sp C X L e b F) (hST : ST n ns na p s u sp C X) (h a : Nat) (hh : h < 4) (ha : a < na) (t : Int) (ht : 0 ≤ t ∧ t ≤ 80) (hI : ∀ h : Nat, h < 4 → HI L h) (bad : Bool) (hN : NB X h bad) (hFG : X 98 a = 1 → bad = false → FG (X 69 63) (w32 (t - X 96 a)))
    (hk1 : ¬ X 98 a = 1 → ∀ F2, CR p u sp C (pNote (qup X 115 h (w32 (X 115 h + 1))) h bad t) L e b F2 → R none (LAY, F2))
    (hk2 : X 98 a = 1 → bad = true → ∀ F2, CR p u sp C (pNote X h true t) L e b F2 → R none (LAY, F2))
    (hk3 : X 98 a = 1 → bad = false → ∀ F2, CR p u sp C (pNote (qup (qup (qup (qup X 98 a 2) 99 a t) 100 a (h : Int)) 69 63 (twF (X 69 63) (w32 (t - X 96 a)))) h false t) (dropTo (a : Int) L n) (w32 (e + 1)) b F2 → R none (LAY, F2)) : qW tb 12 (119, 1262) 56 [(3, 35), (0, (h : Int)), (0, t), (3, ((hO h : Nat) : Int)), (0, (a : Int)), (0, bi bad)] [] (LAY, F) R := by
  have hST0 := hST
  have hr := Rf_k hR.rf
  have hx := hR.k
  unfold CD at hx
  obtain ⟨hPS, ⟨t1, t1b⟩, ⟨t2, t2b⟩, ⟨t3, t3b⟩, t4, t5, t6, ⟨t7, t8, t9⟩, t10⟩ := hST
  have hp0 := psK hPS
  have hps := hR.ps hPS
  have hg := hR.h hh
  have hc0 := hcK0 hh
  have hc1 := hcK1 h
  have hc2 := hcK2 h
  have hc3 := hcK3 hh
  have b0 : (0 ≤ (a : Int) ∧ (a : Int) < 12) = True := eq_true (by omega)
  have e37 := (hR.2.2.2.2.1 a (by omega)).1
  obtain ⟨-, -, e96⟩ := t6 a ha
  by_cases c : X 98 a = 1
  · cases hbd : bad with
    | true =>
      subst hbd
      simp only [YK, d12b, t12, tgK, lyK, rkK, wK, rfK, hr, qRes_eq, qNon_eq, qup_ap, vup_ap, vcpy_ap, kc8_0, kc8_1, kc8_2, lc_lt, lc_gt, lc_eq, Option.toList_some, Option.toList_none, List.cons_append, List.nil_append, lay_len, lay_sz, Nat.reduceAdd, Nat.reduceSub, Nat.reduceMul, Int.reduceToNat, Int.reduceLE, Int.reduceLT, Int.reduceEq, Int.reduceAdd, Int.reduceSub, Int.reduceMul, Int.reduceNeg, Nat.reduceLeDiff, Nat.reduceLT, true_and, and_true, false_and, and_false, qcat_0, qcat_1, qcat_3, qcat_9, Nat.reduceEqDiff, if_true, if_false, ite_self, or_true, true_or, or_false, false_or, forall_const, not_true_eq_false, not_false_eq_true, false_implies, implies_true, qtK0, qtK1, qtK2, qtK3, qtK4, List.getD_cons_zero, List.getD_cons_succ, hx, Int.toNat_natCast, ne_eq, qcK, hbF, bsetF, bclrF, hp0, hps, t1, t2, t3, t7, hg, hc0, hc1, b0, e37, c, bi_t]
      refine k12z hR hST0 h hh true t ht hN _ (hk2 c rfl)
    | false =>
      subst hbd
      obtain ⟨g1, g2, g3⟩ := hFG c rfl
      have hk3 := hk3 c rfl
      unfold twF at hk3
      simp only [YK, d12b, t12, cl14, tgK, lyK, rkK, wK, rfK, hr, qRes_eq, qNon_eq, qup_ap, vup_ap, vcpy_ap, kc8_0, kc8_1, kc8_2, lc_lt, lc_gt, lc_eq, Option.toList_some, Option.toList_none, List.cons_append, List.nil_append, lay_len, lay_sz, Nat.reduceAdd, Nat.reduceSub, Nat.reduceMul, Int.reduceToNat, Int.reduceLE, Int.reduceLT, Int.reduceEq, Int.reduceAdd, Int.reduceSub, Int.reduceMul, Int.reduceNeg, Nat.reduceLeDiff, Nat.reduceLT, true_and, and_true, false_and, and_false, qcat_0, qcat_1, qcat_3, qcat_9, Nat.reduceEqDiff, if_true, if_false, ite_self, or_true, true_or, or_false, false_or, forall_const, not_true_eq_false, not_false_eq_true, false_implies, implies_true, qtK0, qtK1, qtK2, qtK3, qtK4, List.getD_cons_zero, List.getD_cons_succ, hx, Int.toNat_natCast, ne_eq, qcK, hbF, bsetF, bclrF, hp0, hps, t1, t2, t3, t7, hg, hc0, hc1, b0, e37, c, bi_f]
      refine k14 hR hST0 a (by omega) 2 t hI ?_
      clear hr hx hg hps e37
      intro F2 hR2
      have hr := Rf_k hR2.rf
      have hx := hR2.k
      unfold CD at hx
      have hps := hR2.ps hPS
      have hp2 := psK2 hPS
      have eX : qup (qup X 98 a 2) 99 a t 69 63 = X 69 63 := by rw [qup_c (by decide), qup_c (by decide)]
      have hR3 : CR p u sp C (qup (qup (qup (qup X 98 a 2) 99 a t) 100 a (h : Int)) 69 63 ((FP.fadd (f1 (X 69 63)) (FP.fmul 1048576000 (FP.fsub (FP.i2f (i1 (w32 (t - X 96 a)))) (f1 (X 69 63))))).toNat : Int)) (dropTo (a : Int) L n) (w32 (e + 1)) b (qup (qup F2 39 a (h : Int)) 35 11 ((FP.fadd (f1 (X 69 63)) (FP.fmul 1048576000 (FP.fsub (FP.i2f (i1 (w32 (t - X 96 a)))) (f1 (X 69 63))))).toNat : Int)) := (hR2.ask 2 (by decide) a (h : Int)).day 11 (by decide) _
      have hST3 := ST_69 (ST_up (ST_up (ST_up hST0 98 a (by decide) 2) 99 a (by decide) t) 100 a (by decide) (h : Int)) 63 (by decide) ((FP.fadd (f1 (X 69 63)) (FP.fmul 1048576000 (FP.fsub (FP.i2f (i1 (w32 (t - X 96 a)))) (f1 (X 69 63))))).toNat : Int)
      have hN3 : NB (qup (qup (qup (qup X 98 a 2) 99 a t) 100 a (h : Int)) 69 63 ((FP.fadd (f1 (X 69 63)) (FP.fmul 1048576000 (FP.fsub (FP.i2f (i1 (w32 (t - X 96 a)))) (f1 (X 69 63))))).toNat : Int)) h false := NB_eq hN (fun c hc => by rw [qup_c (by omega), qup_c (by omega), qup_c (by omega), qup_c (by omega)])
      have hq := k12z (tb := tb) (R := R) hR3 hST3 h hh false t ht hN3 (0, (a : Int)) hk3
      simp only [YK, d12b, t12, tgK, lyK, rkK, wK, rfK, hr, qRes_eq, qNon_eq, qup_ap, vup_ap, vcpy_ap, kc8_0, kc8_1, kc8_2, lc_lt, lc_gt, lc_eq, Option.toList_some, Option.toList_none, List.cons_append, List.nil_append, lay_len, lay_sz, Nat.reduceAdd, Nat.reduceSub, Nat.reduceMul, Int.reduceToNat, Int.reduceLE, Int.reduceLT, Int.reduceEq, Int.reduceAdd, Int.reduceSub, Int.reduceMul, Int.reduceNeg, Nat.reduceLeDiff, Nat.reduceLT, true_and, and_true, false_and, and_false, qcat_0, qcat_1, qcat_3, qcat_9, Nat.reduceEqDiff, if_true, if_false, ite_self, or_true, true_or, or_false, false_or, forall_const, not_true_eq_false, not_false_eq_true, false_implies, implies_true, qtK0, qtK1, qtK2, qtK3, qtK4, List.getD_cons_zero, List.getD_cons_succ, hx, Int.toNat_natCast, ne_eq, qcK, hbF, bsetF, bclrF, hp2, hp0, hps, t1, t2, t3, t7, b0, e96, eX, f1N, fK, g1, g2, g3, bi_f]
      exact hq
  · have hR1 := hR.cnt hh 9 115 (by omega) (w32 (X 115 h + 1)) (w32_rng _)
    have hq := k12z (tb := tb) (R := R) hR1 (ST_up hST0 115 h (by decide) _) h hh bad t ht (NB_eq hN (fun c hc => qup_c (by omega))) (0, (a : Int)) (hk1 c)
    simp only [YK, d12b, t12, tgK, lyK, rkK, wK, rfK, hr, qRes_eq, qNon_eq, qup_ap, vup_ap, vcpy_ap, kc8_0, kc8_1, kc8_2, lc_lt, lc_gt, lc_eq, Option.toList_some, Option.toList_none, List.cons_append, List.nil_append, lay_len, lay_sz, Nat.reduceAdd, Nat.reduceSub, Nat.reduceMul, Int.reduceToNat, Int.reduceLE, Int.reduceLT, Int.reduceEq, Int.reduceAdd, Int.reduceSub, Int.reduceMul, Int.reduceNeg, Nat.reduceLeDiff, Nat.reduceLT, true_and, and_true, false_and, and_false, qcat_0, qcat_1, qcat_3, qcat_9, Nat.reduceEqDiff, if_true, if_false, ite_self, or_true, true_or, or_false, false_or, forall_const, not_true_eq_false, not_false_eq_true, false_implies, implies_true, qtK0, qtK1, qtK2, qtK3, qtK4, List.getD_cons_zero, List.getD_cons_succ, hx, Int.toNat_natCast, ne_eq, qcK, hbF, bsetF, bclrF, hp0, hps, t1, t2, t3, t7, hg, hc0, hc1, hc2, hc3, b0, e37, c]
    exact hq
