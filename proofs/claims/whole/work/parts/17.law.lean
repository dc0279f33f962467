def R_law : String := "SoftAsksLaw"
def lw_P (b : Addr) (xs : List Int32) (args : Array Value) (s : State) : Prop := args = #[.ref b] ∧ s.IntsAt b xs ∧ xs.length ≤ 2048 ∧ (Jvm.Cond.and given_1 narrow_1).before args s = true
/-- what a walk over the start with the record d0 says of its end, said of the start itself -/
theorem lw_closed {s t : State} {o : Outcome} {d0 : Drawn} {L : List Loc} {k n : Nat} (hd0 : s.drawn.sameBut d0 lw_cs) (hv : ∃ v, o = .returned v) (hW : (s.setDrawn d0).WarmedH t.vm) (hs : (s.setDrawn d0).sameButNew ({ t with vm := s.vm } : State) L k n) : State.butDraws s t lw_cs (fun t1 => Framed s o t1 L k n) := by
  have h2 : t.drawn = d0 := congrArg State.drawn hs.1
  refine ⟨⟨hv, hW, State.sameButNew.setDrawn hs s.drawn⟩, ?_, by decide⟩
  rw [h2]
  exact hd0
def lw_Q (_ : Array Value) (s : State) (o : Outcome) (t : State) : Prop := o = .returned (some (.int 1)) ∧ State.butDraws s t lw_cs (fun t1 => Framed s o t1 [] 600000 7302250)
def lw_Z (below : List Frame) (a : Array Value) (s : State) : State → Prop := fun t => ∃ o, t.status = .running ∧ Ended t below o ∧ lw_Q a s o t
/-- the law's own end, with 1 on the stack, nothing written that was there before, its room as the claim has it; d0: the record of draws at this point (at the entry s.drawn: begin with 'refine W.base ?_' and 'have hd0 := Drawn.sameBut.refl s.drawn lw_cs') -/
theorem lw_ret {p : Program} {l : Launch} {e : Env} {s : State} {m : MethodId} {below : List Frame} {meth : Method} {c : Code} {b : Nat} {d0 : Drawn} (hd0 : s.drawn.sameBut d0 lw_cs) (hx : p.tables.exec = Jvm.exec) (hb : c.code = code) (hr : meth.sig.returnType = ret) (hlocks : meth.locks = false) {pc : Nat} {H : Heap} {ls : Array Slot} (hdg : decode code pc = .ok (.ireturn, 1)) : W p l e room_1 (s.setDrawn d0) m #[Value.ref b] below meth c H [] 600000 7302250 (lw_Z below #[Value.ref b] s) (F0 m pc ls [.int 1]) := by
  intro T hT X
  obtain ⟨fs, hret, hrun, hended, hW, hframe⟩ := X.leave (v := some (.int 1)) (hlocks := hlocks) (fun h => by rw [hr] at h; cases h)
  have hmeth' : T.vm.method? m = some meth := X.method'
  refine ⟨T.setFrames fs, ?_, .returned (some (.int 1)), hrun, hended, rfl, lw_closed hd0 ⟨_, rfl⟩ hW hframe⟩
  jvm_step X.here [X.here.top, hx, hb, hdg, hmeth', hr, ret, narrow_b1]
  (try refine ⟨rfl, ?_⟩); (try refine ⟨rfl, ?_⟩)
  first | (intro acts; rw [hret _ acts rfl rfl rfl]) | rw [hret _ _ rfl rfl rfl]
  exact Steps.refl _
/-- what holds at the law's entry: the machine, the code, the tables' words (any of lw_tbl by 'hts w (by decide +kernel)'), the script of L ints xs at the cell b, what the Statement gives of the start (any of its parts by flat_of_before) -/
def lw_At (p : Program) (s : State) (m : MethodId) (meth : Method) (c : Code) (b L : Nat) (xs : Nat → Int32) : Prop :=
  p.tables.exec = Jvm.exec ∧ c.code = code ∧ meth.sig.returnType = ret ∧ c.maxLocals = 4 ∧ s.vm.findClass R_law = some m.cls ∧ (∀ w ∈ lw_tbl, w.before #[Value.ref b] s = true) ∧ va_X b L xs s s.heap ∧ b < s.heap.size ∧ meth.locks = false ∧ (Jvm.Cond.and given_1 narrow_1).before #[Value.ref b] s = true
/-- the tables: five of the class, and the script -/
def qtab (L : Nat) (xs : Nat → Int) : qTb := fun k => match k with
  | 0 => (5, fun j => ([2, 2, 0, 1, 0] : List Int).getD j 0)
  | 1 => (5, fun j => ([1, 0, 0, 0, 0] : List Int).getD j 0)
  | 2 => (5, fun j => ([4, 8, 2, 3, 2] : List Int).getD j 0)
  | 3 => (5, fun j => ([1, 1, 2, 6, 24] : List Int).getD j 0)
  | 4 => (5, fun j => ([1, 10000, 100000000, 1000000000000, 10000000000000000] : List Int).getD j 0)
  | 5 => (L, xs)
  | _ => (0, fun _ => 0)
theorem eq_int {args : Array Value} {s : State} {t : Term} {v : Int32} (h : (Cond.eq t (.int v)).before args s = true) : t.eval args s none [] s = some (.int v) := by
  obtain ⟨y, h1, h2⟩ := Cond.eq_one h
  cases h2
  exact h1
theorem eq_long {args : Array Value} {s : State} {t : Term} {v : Int64} (h : (Cond.eq t (.long v)).before args s = true) : t.eval args s none [] s = some (.long v) := by
  obtain ⟨y, h1, h2⟩ := Cond.eq_one h
  cases h2
  exact h1
set_option maxRecDepth 20000 in
theorem qtab0 {b : Nat} {s : State} {A : Nat → Prop} (hgv : (Jvm.Cond.and given_1 narrow_1).before #[Value.ref b] s = true) (hA : ∀ a : Nat, a < s.heap.size → ¬ A a) : ∃ t : Nat, (Term.static "SoftAsks" "AT_FIRST" "[I").eval #[Value.ref b] s none [] s = some (.ref t) ∧ va_T .int t 5 (fun j => .int (i1 (([2, 2, 0, 1, 0] : List Int).getD j 0))) A s s.heap := by
  have hs := flat_of_before _ hgv
  refine va_Tof (by decide) (hs _ (by decide +kernel)) (eq_int (hs (.eq (.length (.static "SoftAsks" "AT_FIRST" "[I")) (.int 5)) (by decide +kernel))) ?_ hA
  intro j hj
  match j, hj with
  | 0, _ => exact eq_int (hs (.eq (.elem (.static "SoftAsks" "AT_FIRST" "[I") (.int 0)) (.int 2)) (by decide +kernel))
  | 1, _ => exact eq_int (hs (.eq (.elem (.static "SoftAsks" "AT_FIRST" "[I") (.int 1)) (.int 2)) (by decide +kernel))
  | 2, _ => exact eq_int (hs (.eq (.elem (.static "SoftAsks" "AT_FIRST" "[I") (.int 2)) (.int 0)) (by decide +kernel))
  | 3, _ => exact eq_int (hs (.eq (.elem (.static "SoftAsks" "AT_FIRST" "[I") (.int 3)) (.int 1)) (by decide +kernel))
  | 4, _ => exact eq_int (hs (.eq (.elem (.static "SoftAsks" "AT_FIRST" "[I") (.int 4)) (.int 0)) (by decide +kernel))
  | (k + 5), h => exact absurd h (by omega)
set_option maxRecDepth 20000 in
theorem qtab1 {b : Nat} {s : State} {A : Nat → Prop} (hgv : (Jvm.Cond.and given_1 narrow_1).before #[Value.ref b] s = true) (hA : ∀ a : Nat, a < s.heap.size → ¬ A a) : ∃ t : Nat, (Term.static "SoftAsks" "LEAST" "[I").eval #[Value.ref b] s none [] s = some (.ref t) ∧ va_T .int t 5 (fun j => .int (i1 (([1, 0, 0, 0, 0] : List Int).getD j 0))) A s s.heap := by
  have hs := flat_of_before _ hgv
  refine va_Tof (by decide) (hs _ (by decide +kernel)) (eq_int (hs (.eq (.length (.static "SoftAsks" "LEAST" "[I")) (.int 5)) (by decide +kernel))) ?_ hA
  intro j hj
  match j, hj with
  | 0, _ => exact eq_int (hs (.eq (.elem (.static "SoftAsks" "LEAST" "[I") (.int 0)) (.int 1)) (by decide +kernel))
  | 1, _ => exact eq_int (hs (.eq (.elem (.static "SoftAsks" "LEAST" "[I") (.int 1)) (.int 0)) (by decide +kernel))
  | 2, _ => exact eq_int (hs (.eq (.elem (.static "SoftAsks" "LEAST" "[I") (.int 2)) (.int 0)) (by decide +kernel))
  | 3, _ => exact eq_int (hs (.eq (.elem (.static "SoftAsks" "LEAST" "[I") (.int 3)) (.int 0)) (by decide +kernel))
  | 4, _ => exact eq_int (hs (.eq (.elem (.static "SoftAsks" "LEAST" "[I") (.int 4)) (.int 0)) (by decide +kernel))
  | (k + 5), h => exact absurd h (by omega)
set_option maxRecDepth 20000 in
theorem qtab2 {b : Nat} {s : State} {A : Nat → Prop} (hgv : (Jvm.Cond.and given_1 narrow_1).before #[Value.ref b] s = true) (hA : ∀ a : Nat, a < s.heap.size → ¬ A a) : ∃ t : Nat, (Term.static "SoftAsks" "MOST" "[I").eval #[Value.ref b] s none [] s = some (.ref t) ∧ va_T .int t 5 (fun j => .int (i1 (([4, 8, 2, 3, 2] : List Int).getD j 0))) A s s.heap := by
  have hs := flat_of_before _ hgv
  refine va_Tof (by decide) (hs _ (by decide +kernel)) (eq_int (hs (.eq (.length (.static "SoftAsks" "MOST" "[I")) (.int 5)) (by decide +kernel))) ?_ hA
  intro j hj
  match j, hj with
  | 0, _ => exact eq_int (hs (.eq (.elem (.static "SoftAsks" "MOST" "[I") (.int 0)) (.int 4)) (by decide +kernel))
  | 1, _ => exact eq_int (hs (.eq (.elem (.static "SoftAsks" "MOST" "[I") (.int 1)) (.int 8)) (by decide +kernel))
  | 2, _ => exact eq_int (hs (.eq (.elem (.static "SoftAsks" "MOST" "[I") (.int 2)) (.int 2)) (by decide +kernel))
  | 3, _ => exact eq_int (hs (.eq (.elem (.static "SoftAsks" "MOST" "[I") (.int 3)) (.int 3)) (by decide +kernel))
  | 4, _ => exact eq_int (hs (.eq (.elem (.static "SoftAsks" "MOST" "[I") (.int 4)) (.int 2)) (by decide +kernel))
  | (k + 5), h => exact absurd h (by omega)
set_option maxRecDepth 20000 in
theorem qtab3 {b : Nat} {s : State} {A : Nat → Prop} (hgv : (Jvm.Cond.and given_1 narrow_1).before #[Value.ref b] s = true) (hA : ∀ a : Nat, a < s.heap.size → ¬ A a) : ∃ t : Nat, (Term.static "SoftAsks" "FACTORIAL" "[I").eval #[Value.ref b] s none [] s = some (.ref t) ∧ va_T .int t 5 (fun j => .int (i1 (([1, 1, 2, 6, 24] : List Int).getD j 0))) A s s.heap := by
  have hs := flat_of_before _ hgv
  refine va_Tof (by decide) (hs _ (by decide +kernel)) (eq_int (hs (.eq (.length (.static "SoftAsks" "FACTORIAL" "[I")) (.int 5)) (by decide +kernel))) ?_ hA
  intro j hj
  match j, hj with
  | 0, _ => exact eq_int (hs (.eq (.elem (.static "SoftAsks" "FACTORIAL" "[I") (.int 0)) (.int 1)) (by decide +kernel))
  | 1, _ => exact eq_int (hs (.eq (.elem (.static "SoftAsks" "FACTORIAL" "[I") (.int 1)) (.int 1)) (by decide +kernel))
  | 2, _ => exact eq_int (hs (.eq (.elem (.static "SoftAsks" "FACTORIAL" "[I") (.int 2)) (.int 2)) (by decide +kernel))
  | 3, _ => exact eq_int (hs (.eq (.elem (.static "SoftAsks" "FACTORIAL" "[I") (.int 3)) (.int 6)) (by decide +kernel))
  | 4, _ => exact eq_int (hs (.eq (.elem (.static "SoftAsks" "FACTORIAL" "[I") (.int 4)) (.int 24)) (by decide +kernel))
  | (k + 5), h => exact absurd h (by omega)
set_option maxRecDepth 20000 in
theorem qtab4 {b : Nat} {s : State} {A : Nat → Prop} (hgv : (Jvm.Cond.and given_1 narrow_1).before #[Value.ref b] s = true) (hA : ∀ a : Nat, a < s.heap.size → ¬ A a) : ∃ t : Nat, (Term.static "SoftAsks" "FOUR_FIGURES" "[J").eval #[Value.ref b] s none [] s = some (.ref t) ∧ va_T .long t 5 (fun j => .long (l1 (([1, 10000, 100000000, 1000000000000, 10000000000000000] : List Int).getD j 0))) A s s.heap := by
  have hs := flat_of_before _ hgv
  refine va_Tof (by decide) (hs _ (by decide +kernel)) (eq_int (hs (.eq (.length (.static "SoftAsks" "FOUR_FIGURES" "[J")) (.int 5)) (by decide +kernel))) ?_ hA
  intro j hj
  match j, hj with
  | 0, _ => exact eq_long (hs (.eq (.elem (.static "SoftAsks" "FOUR_FIGURES" "[J") (.int 0)) (.long 1)) (by decide +kernel))
  | 1, _ => exact eq_long (hs (.eq (.elem (.static "SoftAsks" "FOUR_FIGURES" "[J") (.int 1)) (.long 10000)) (by decide +kernel))
  | 2, _ => exact eq_long (hs (.eq (.elem (.static "SoftAsks" "FOUR_FIGURES" "[J") (.int 2)) (.long 100000000)) (by decide +kernel))
  | 3, _ => exact eq_long (hs (.eq (.elem (.static "SoftAsks" "FOUR_FIGURES" "[J") (.int 3)) (.long 1000000000000)) (by decide +kernel))
  | 4, _ => exact eq_long (hs (.eq (.elem (.static "SoftAsks" "FOUR_FIGURES" "[J") (.int 4)) (.long 10000000000000000)) (by decide +kernel))
  | (k + 5), h => exact absurd h (by omega)
theorem qinst : ∀ k : Nat, k < 10 → Cond.instantiable (qos k) (qnf k) ∈ lw_tbl := by
  intro k hk
  have h1 : ∀ k : Nat, k < 10 → ∃ r ∈ qcll, r.2.2.1 = 0 ∧ r.2.2.2 = k := by decide +kernel
  obtain ⟨r, hr, h2, rfl⟩ := h1 k hk
  refine qcll_ok r hr _ ?_
  unfold qcll_w
  rw [if_pos h2]
  simp
theorem qtbok_tab {L : Nat} {xs : Nat → Int} (hL : L ≤ 2048) (hx : ∀ j, -2147483648 ≤ xs j ∧ xs j < 2147483648) : qtbok (qtab L xs) := by
  have hg : ∀ (l : List Int), (∀ x ∈ l, -2147483648 ≤ x ∧ x < 2147483648) → ∀ j, qok 0 (0, l.getD j 0) := fun l hl j => by
    rw [List.getD_eq_getElem?_getD]
    cases hq : l[j]? with
    | none => exact (show -2147483648 ≤ (0 : Int) ∧ (0 : Int) < 2147483648 from ⟨by omega, by omega⟩)
    | some x => exact hl x (List.mem_of_getElem? hq)
  have hg2 : ∀ (l : List Int), (∀ x ∈ l, -9223372036854775808 ≤ x ∧ x < 9223372036854775808) → ∀ j, qok 0 (1, l.getD j 0) := fun l hl j => by
    rw [List.getD_eq_getElem?_getD]
    cases hq : l[j]? with
    | none => exact (show -9223372036854775808 ≤ (0 : Int) ∧ (0 : Int) < 9223372036854775808 from ⟨by omega, by omega⟩)
    | some x => exact hl x (List.mem_of_getElem? hq)
  refine ⟨fun k => ?_, fun k j hk => ?_, fun j => hg2 _ (by decide) j⟩
  · match k with
    | 0 => exact (show (5 : Nat) < 2147483648 by decide)
    | 1 => exact (show (5 : Nat) < 2147483648 by decide)
    | 2 => exact (show (5 : Nat) < 2147483648 by decide)
    | 3 => exact (show (5 : Nat) < 2147483648 by decide)
    | 4 => exact (show (5 : Nat) < 2147483648 by decide)
    | 5 => exact (show L < 2147483648 by omega)
    | (k + 6) => exact (show (0 : Nat) < 2147483648 by decide)
  · match k, hk with
    | 0, _ => exact hg _ (by decide) j
    | 1, _ => exact hg _ (by decide) j
    | 2, _ => exact hg _ (by decide) j
    | 3, _ => exact hg _ (by decide) j
    | 4, h => exact absurd rfl h
    | 5, _ => exact hx j
    | (k + 6), _ => exact (show -2147483648 ≤ (0 : Int) ∧ (0 : Int) < 2147483648 from ⟨by omega, by omega⟩)
set_option maxHeartbeats 4000000 in
set_option maxRecDepth 20000 in
/-- THE LAW'S START, out of the small machine's run of the law -/
theorem qlaw_start (hrun : ∀ (L : Nat) (xs : Nat → Int), L ≤ 2048 → (∀ j, -2147483648 ≤ xs j ∧ xs j < 2147483648) → qW (qtab L xs) 183 (600000, 7302250) 0 [(3, -7), (9, 0), (9, 0), (9, 0)] [] ([], fun _ _ => 0) (fun r M => r = some (0, 1) ∧ M.1.length ≤ 600000 ∧ qsz M.1 ≤ 7302250))
    {p : Program} {e : Env} {s : State} {m : MethodId} {below : List Frame} {meth : Method} {c : Code} (l : Launch) {b L : Nat} {xs : Nat → Int32} (hL : L ≤ 2048) (C0 : lw_At p s m meth c b L xs) : W p l e room_1 s m #[Value.ref b] below meth c s.heap [] 0 0 (lw_Z below #[Value.ref b] s) (entryFrame m ([Value.ref b] : List Value).toArray 4) := by
  obtain ⟨hx, hb, hr, hml, hown, hts, hX, hbl, hlocks, hgv⟩ := C0
  have hA : ∀ a : Nat, a < s.heap.size → ¬ (fun q : Nat => s.heap.size ≤ q) a := fun a ha => Nat.not_le.mpr ha
  have htq : ∀ w ∈ qtb, w.before #[Value.ref b] s = true := fun w hw => hts w (List.mem_filter.mp hw).1
  have hk : ∀ k : Nat, ∃ (cC : ClassId) (iS : Nat → Nat), k < 10 → u_Kn s (qos k) (fun j => qFT k j) (qnf k) cC iS := by
    intro k
    by_cases hk : k < 10
    · obtain ⟨cC, iS, h⟩ := u_known (C := qos k) (T := fun j => qFT k j) (N := qnf k) (n := qnf k) htq (qly_at k hk) (hts _ (qinst k hk))
      exact ⟨cC, iS, fun _ => h⟩
    · exact ⟨0, fun _ => 0, fun h => absurd h hk⟩
  obtain ⟨dC, hk⟩ := Classical.skolem.mp hk
  obtain ⟨dI, hk⟩ := Classical.skolem.mp hk
  obtain ⟨cA1, kA1, comp1, fa1, fb1, fc1⟩ := Cond.arrayClass_spec (hts (.arrayClass .int) (qarr _ (by simp)))
  obtain ⟨cA2, kA2, comp2, fa2, fb2, fc2⟩ := Cond.arrayClass_spec (hts (.arrayClass .boolean) (qarr _ (by simp)))
  have ho3 := hts (.arrayOver (.object RX3)) (qarr _ (by simp))
  have ho4 := hts (.arrayOver (.object RX5)) (qarr _ (by simp))
  obtain ⟨comp3, cA3, kA3, fa3, -, fb3, fc3, fd3⟩ := Cond.arrayOver_spec ho3
  obtain ⟨comp4, cA4, kA4, fa4, -, fb4, fc4, fd4⟩ := Cond.arrayOver_spec ho4
  obtain ⟨cy, hcy⟩ : ∃ cy : Nat → ClassId, cy = fun k => if k = 1 then cA1 else if k = 2 then cA2 else if k = 3 then cA3 else cA4 := ⟨_, rfl⟩
  have hK : va_K (dC, dI) vwCl (qtys cy) s := by
    refine ⟨fun k q hq => ?_, fun k q hq => ?_⟩
    · have hk10 : k < 10 := (List.getElem?_eq_some_iff.mp hq).1
      rw [qcl_at k hk10] at hq
      cases hq
      exact hk k hk10
    · subst hcy
      match k, hq with
      | 0, hq => cases hq; exact ⟨fun n z => ⟨fun k h => (by cases h), kA1, fb1, comp1, fc1⟩, fa1⟩
      | 1, hq => cases hq; exact ⟨fun n z => ⟨fun k h => (by cases h), kA2, fb2, comp2, fc2⟩, fa2⟩
      | 2, hq => cases hq; exact ⟨fun n z => ⟨fun k h => (by cases h), kA3, fb3, comp3, fc3⟩, kA3, comp3, fb3, fc3, fa3, fd3⟩
      | 3, hq => cases hq; exact ⟨fun n z => ⟨fun k h => (by cases h), kA4, fb4, comp4, fc4⟩, kA4, comp4, fb4, fc4, fa4, fd4⟩
      | (k + 4), hq => simp [qtys] at hq
  clear hcy
  obtain ⟨t0, v0, T0⟩ := qtab0 hgv hA
  obtain ⟨t1, v1, T1⟩ := qtab1 hgv hA
  obtain ⟨t2, v2, T2⟩ := qtab2 hgv hA
  obtain ⟨t3, v3, T3⟩ := qtab3 hgv hA
  obtain ⟨t4, v4, T4⟩ := qtab4 hgv hA
  obtain ⟨sa, hsa⟩ : ∃ sa : Nat → Nat, sa = fun k => match k with
    | 0 => t0
    | 1 => t1
    | 2 => t2
    | 3 => t3
    | 4 => t4
    | _ => b := ⟨_, rfl⟩
  have hini := hts (.initialized "SoftAsks") (List.mem_of_getElem? (i := 71) (by decide +kernel))
  have hT5 : va_T .int b L (fun j => .int (i1 (xs j).toInt)) (fun q : Nat => s.heap.size ≤ q) s s.heap := by
    obtain ⟨scr, g1, g2, g3, g4, g5⟩ := hX
    refine ⟨scr, g1, g2, g3, by omega, by rw [g4], fun j hj => ?_, hA b hbl⟩
    rw [g5 j hj]
    exact congrArg (fun q => some (Value.int q)) (i1_toInt (xs j)).symm
  have hE : qenv (dC, dI) cy sa (qtab L (fun j => (xs j).toInt)) (fun q : Nat => s.heap.size ≤ q) s := by
    refine ⟨hK, fun w hw => va_Nw.of (qontab hw) (hts w (List.mem_filter.mp hw).1), ⟨va_AO.of ho3, va_AO.of ho4⟩, fun k hk5 => ?_, fun k hk6 hk4 => ?_, ?_, qtbok_tab hL (fun j => rng32 _)⟩
    · subst hsa
      match k, hk5 with
      | 0, _ => exact va_Zref (hts _ (qlys _ (List.mem_map.mpr ⟨0, by simp, rfl⟩))) hini v0 hA
      | 1, _ => exact va_Zref (hts _ (qlys _ (List.mem_map.mpr ⟨1, by simp, rfl⟩))) hini v1 hA
      | 2, _ => exact va_Zref (hts _ (qlys _ (List.mem_map.mpr ⟨2, by simp, rfl⟩))) hini v2 hA
      | 3, _ => exact va_Zref (hts _ (qlys _ (List.mem_map.mpr ⟨3, by simp, rfl⟩))) hini v3 hA
      | 4, _ => exact va_Zref (hts _ (qlys _ (List.mem_map.mpr ⟨4, by simp, rfl⟩))) hini v4 hA
      | (k + 5), h => exact absurd h (by omega)
    · subst hsa
      match k, hk6, hk4 with
      | 0, _, _ => exact T0
      | 1, _, _ => exact T1
      | 2, _, _ => exact T2
      | 3, _, _ => exact T3
      | 4, _, h => exact absurd rfl h
      | 5, _, _ => exact hT5
      | (k + 6), h, _ => exact absurd h (by omega)
    · subst hsa
      exact T4
  have hsb : sa 5 = b := congrFun hsa 5
  have hS := qS_of (l := l) (D := (dC, dI)) (cy := cy) (sa := sa) (hrun L (fun j => (xs j).toInt) hL (fun j => rng32 _))
  have hqL := qL.entry (ad := fun _ => 0) (sa := sa) (n := 0) (N := 4) (as := [(3, -7)]) (fun v hv => by rw [List.mem_singleton.mp hv]; exact (show (-8 : Int) < -7 ∧ (-7 : Int) < ((0 : Nat) : Int) from ⟨by decide, by decide⟩)) (by decide)
  have hmap : ([(3, -7)] : List qV).map (qv (fun _ => 0) sa) = [Value.ref b] := by
    show [qv (fun _ => 0) sa (3, -7)] = _
    rw [qv3s _ sa (by decide), show (-(-7 : Int) - 2).toNat = 5 by decide, hsb]
  rw [hmap] at hqL
  rw [lg_entry_eq]
  have hd0 := Drawn.sameBut.refl s.drawn lw_cs
  refine hS p e room_1 s m #[Value.ref b] below meth c (fun q => s.heap.size ≤ q) s.heap [] 0 0 (fun _ => 0) (fun _ => 0) _ 0 0 0 (lw_Z below #[Value.ref b] s) ⟨⟨by decide, hx, hb, hml, hown, htq, fun h => absurd h (by decide), Nat.le_of_ble_eq_true rfl, Nat.le_of_ble_eq_true rfl, rfl⟩, hE, fun q h => h, ⟨va_S.rf, fun k q h => by simp [qws] at h, ⟨fun i j p q h => by simp [qws] at h, fun k q h => by simp [qws] at h⟩, fun k kd h => by simp at h, rfl, rfl, Nat.le_refl _, fun k h => absurd h (by omega)⟩, hqL, rfl, fun v hv => absurd hv List.not_mem_nil, ?_⟩
  intro pc2 v M2 H2 locs2 cells2 slots2 ad2 lsA2 hr2 hH hok hend
  obtain ⟨rfl, hr3, hr4⟩ := hr2
  obtain ⟨hS2, -, -, -, hc2, hs2, -, -⟩ := hH
  rcases hend with ⟨x, hv, hd, -⟩ | ⟨x, hv, -, -⟩ | ⟨hv, -, -⟩
  · show W p l e room_1 s m #[Value.ref b] below meth c H2 locs2 cells2 slots2 (lw_Z below #[Value.ref b] s) (F0 m pc2 lsA2 [.int 1])
    refine va_forget (fun q hq => hS2.2.2 q hq) ?_
    refine W.widen (k := 600000) (n := 7302250) (by omega) (by omega) ?_
    exact W.base (lw_ret hd0 hx hb hr hlocks hd)
  · cases hv
  · cases hv
