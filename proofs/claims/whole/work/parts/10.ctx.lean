/-! THE SMALL MACHINE IS SOUND: what it comes to, the machine comes to -/
abbrev qTb : Type := Nat → Nat × (Nat → Int)
def qtys (cy : Nat → ClassId) : List (ClassId × FieldType) := [(cy 1, .int), (cy 2, .boolean), (cy 3, .object RX3), (cy 4, .object RX5)]
def qtbok (tb : qTb) : Prop := (∀ k, (tb k).1 < 2147483648) ∧ (∀ k j, k ≠ 4 → qok 0 (0, (tb k).2 j)) ∧ ∀ j, qok 0 (1, (tb 4).2 j)
def qenv (D : va_G) (cy : Nat → ClassId) (sa : Nat → Nat) (tb : qTb) (A : Nat → Prop) (U : State) : Prop :=
  va_K D vwCl (qtys cy) U ∧ (∀ w ∈ qnst, va_Nw w U) ∧ (va_AO RX3 U ∧ va_AO RX5 U) ∧
  (∀ k, k < 5 → va_Z RX8 (qsn k) (qsd k) (.ref (sa k)) A U U.heap) ∧
  (∀ k, k < 6 → k ≠ 4 → va_T .int (sa k) (tb k).1 (fun j => .int (i1 ((tb k).2 j))) A U U.heap) ∧
  va_T .long (sa 4) (tb 4).1 (fun j => .long (l1 ((tb 4).2 j))) A U U.heap ∧ qtbok tb
def qH (D : va_G) (cy : Nat → ClassId) (sa : Nat → Nat) (A : Nat → Prop) (H0 : Heap) (c0 s0 n0 : Nat) (ad0 ad : Nat → Nat) (M : qM) (H : Heap) (locs : List Loc) (cells slots : Nat) : Prop :=
  va_S A H0 H locs ∧ va_P D vwCl (qws ad sa cy M) H ∧ va_D A (qws ad sa cy M) ∧ qmok M ∧ cells + c0 = M.1.length ∧ slots + s0 = qsz M.1 ∧ n0 ≤ M.1.length ∧ ∀ k, k < n0 → ad k = ad0 k
def qF (p : Program) (R : Room) (s : State) (m : MethodId) (args : Array Value) (meth : Method) (c : Code) (lim : Nat × Nat) (c0 s0 y : Nat) : Prop :=
  y < 184 ∧ p.tables.exec = Jvm.exec ∧ c.code = qby y ∧ c.maxLocals = qmx y ∧ s.vm.findClass (qos (qow y)) = some m.cls ∧ (∀ w ∈ qtb, w.before args s = true) ∧ (y ∈ qinits → meth.name = "<init>") ∧ qfr y ≤ R.frames ∧ qlo y ≤ R.locals ∧ lim = (c0 + R.cells, s0 + R.slots)
def qend (y pc : Nat) (v : Option qV) : Prop :=
  (∃ x, v = some (0, x) ∧ decode (qby y) pc = .ok (.ireturn, 1) ∧ (qrt y = some .int ∨ (qrt y = some .boolean ∧ (x = 0 ∨ x = 1)))) ∨ (∃ x, v = some (1, x) ∧ decode (qby y) pc = .ok (.lreturn, 1) ∧ qrt y = some .long) ∨ (v = none ∧ decode (qby y) pc = .ok (.return_, 1) ∧ qrt y = none)
def qC (l : Launch) (D : va_G) (cy : Nat → ClassId) (sa : Nat → Nat) (tb : qTb) (y : Nat) (lim : Nat × Nat) (ls st : List qV) (M : qM) (Rr : Option qV → qM → Prop) (p : Program) (e : Env) (R : Room) (s : State) (m : MethodId) (args : Array Value) (below : List Frame) (meth : Method) (c : Code) (A : Nat → Prop) (H : Heap) (locs : List Loc) (cells slots : Nat) (ad ad0 : Nat → Nat) (lsA : Array Slot) (c0 s0 n0 : Nat) (Q : State → Prop) : Prop :=
  qF p R s m args meth c lim c0 s0 y ∧ qenv D cy sa tb A s ∧ (∀ q, s.heap.size ≤ q → A q) ∧ qH D cy sa A s.heap c0 s0 n0 ad0 ad M H locs cells slots ∧
  qL ad sa M.1.length lsA ls ∧ ls.length = qmx y ∧ (∀ v ∈ st, qok M.1.length v) ∧
  (∀ (pc2 : Nat) (v : Option qV) (M2 : qM) (H2 : Heap) (locs2 : List Loc) (cells2 slots2 : Nat) (ad2 : Nat → Nat) (lsA2 : Array Slot), Rr v M2 → qH D cy sa A s.heap c0 s0 n0 ad0 ad2 M2 H2 locs2 cells2 slots2 → (∀ x, v = some x → qok M2.1.length x) → qend y pc2 v → W p l e R s m args below meth c H2 locs2 cells2 slots2 Q (F0 m pc2 lsA2 (v.toList.map (qv ad2 sa))))
def qS (l : Launch) (D : va_G) (cy : Nat → ClassId) (sa : Nat → Nat) (tb : qTb) : qP := fun y lim pc ls st M Rr =>
  ∀ (p : Program) (e : Env) (R : Room) (s : State) (m : MethodId) (args : Array Value) (below : List Frame) (meth : Method) (c : Code) (A : Nat → Prop) (H : Heap) (locs : List Loc) (cells slots : Nat) (ad ad0 : Nat → Nat) (lsA : Array Slot) (c0 s0 n0 : Nat) (Q : State → Prop),
  qC l D cy sa tb y lim ls st M Rr p e R s m args below meth c A H locs cells slots ad ad0 lsA c0 s0 n0 Q →
  W p l e R s m args below meth c H locs cells slots Q (F0 m pc lsA (st.map (qv ad sa)))
theorem qS_mono (l : Launch) (D : va_G) (cy : Nat → ClassId) (sa : Nat → Nat) (tb : qTb) : qmono (qS l D cy sa tb) := by
  intro y lim pc ls st M R1 R2 hR h p e R s m args below meth c A H locs cells slots ad ad0 lsA c0 s0 n0 Q C
  obtain ⟨hF, hE, hA, hH, hL, hn, hst, hend⟩ := C
  exact h p e R s m args below meth c A H locs cells slots ad ad0 lsA c0 s0 n0 Q ⟨hF, hE, hA, hH, hL, hn, hst, fun pc2 v M2 H2 locs2 cells2 slots2 ad2 lsA2 hr => hend pc2 v M2 H2 locs2 cells2 slots2 ad2 lsA2 (hR _ _ hr)⟩
section QCTX
variable {l : Launch} {D : va_G} {cy : Nat → ClassId} {sa : Nat → Nat} {tb : qTb} {y : Nat} {lim : Nat × Nat} {ls st : List qV} {M : qM} {Rr : Option qV → qM → Prop} {p : Program} {e : Env} {R : Room} {s : State} {m : MethodId} {args : Array Value} {below : List Frame} {meth : Method} {c : Code} {A : Nat → Prop} {H : Heap} {locs : List Loc} {cells slots : Nat} {ad ad0 : Nat → Nat} {lsA : Array Slot} {c0 s0 n0 : Nat} {Q : State → Prop}
theorem qC.x (C : qC l D cy sa tb y lim ls st M Rr p e R s m args below meth c A H locs cells slots ad ad0 lsA c0 s0 n0 Q) : p.tables.exec = Jvm.exec := C.1.2.1
theorem qC.b (C : qC l D cy sa tb y lim ls st M Rr p e R s m args below meth c A H locs cells slots ad ad0 lsA c0 s0 n0 Q) : c.code = qby y := C.1.2.2.1
theorem qC.own (C : qC l D cy sa tb y lim ls st M Rr p e R s m args below meth c A H locs cells slots ad ad0 lsA c0 s0 n0 Q) : s.vm.findClass (qos (qow y)) = some m.cls := C.1.2.2.2.2.1
theorem qC.ts (C : qC l D cy sa tb y lim ls st M Rr p e R s m args below meth c A H locs cells slots ad ad0 lsA c0 s0 n0 Q) : ∀ w ∈ qtb, w.before args s = true := C.1.2.2.2.2.2.1
theorem qC.K (C : qC l D cy sa tb y lim ls st M Rr p e R s m args below meth c A H locs cells slots ad ad0 lsA c0 s0 n0 Q) : va_K D vwCl (qtys cy) s := C.2.1.1
theorem qC.hA (C : qC l D cy sa tb y lim ls st M Rr p e R s m args below meth c A H locs cells slots ad ad0 lsA c0 s0 n0 Q) : ∀ q, s.heap.size ≤ q → A q := C.2.2.1
theorem qC.hH (C : qC l D cy sa tb y lim ls st M Rr p e R s m args below meth c A H locs cells slots ad ad0 lsA c0 s0 n0 Q) : qH D cy sa A s.heap c0 s0 n0 ad0 ad M H locs cells slots := C.2.2.2.1
theorem qC.L (C : qC l D cy sa tb y lim ls st M Rr p e R s m args below meth c A H locs cells slots ad ad0 lsA c0 s0 n0 Q) : qL ad sa M.1.length lsA ls := C.2.2.2.2.1
theorem qC.n (C : qC l D cy sa tb y lim ls st M Rr p e R s m args below meth c A H locs cells slots ad ad0 lsA c0 s0 n0 Q) : ls.length = qmx y := C.2.2.2.2.2.1
theorem qC.hst (C : qC l D cy sa tb y lim ls st M Rr p e R s m args below meth c A H locs cells slots ad ad0 lsA c0 s0 n0 Q) : ∀ v ∈ st, qok M.1.length v := C.2.2.2.2.2.2.1
/-- the next place, nothing written -/
theorem qC.go (C : qC l D cy sa tb y lim ls st M Rr p e R s m args below meth c A H locs cells slots ad ad0 lsA c0 s0 n0 Q) {pc2 : Nat} {ls2 st2 : List qV} {lsA2 : Array Slot} (h : qS l D cy sa tb y lim pc2 ls2 st2 M Rr) (hL : qL ad sa M.1.length lsA2 ls2) (hn : ls2.length = qmx y) (ho : ∀ v ∈ st2, qok M.1.length v) : W p l e R s m args below meth c H locs cells slots Q (F0 m pc2 lsA2 (st2.map (qv ad sa))) :=
  h p e R s m args below meth c A H locs cells slots ad ad0 lsA2 c0 s0 n0 Q ⟨C.1, C.2.1, C.2.2.1, C.2.2.2.1, hL, hn, ho, C.2.2.2.2.2.2.2⟩
/-- the next place, the locals as they are -/
theorem qC.goS (C : qC l D cy sa tb y lim ls st M Rr p e R s m args below meth c A H locs cells slots ad ad0 lsA c0 s0 n0 Q) {pc2 : Nat} {st2 : List qV} (h : qS l D cy sa tb y lim pc2 ls st2 M Rr) (ho : ∀ v ∈ st2, qok M.1.length v) : W p l e R s m args below meth c H locs cells slots Q (F0 m pc2 lsA (st2.map (qv ad sa))) := C.go h C.L C.n ho
/-- the next place, the heap written -/
theorem qC.goH (C : qC l D cy sa tb y lim ls st M Rr p e R s m args below meth c A H locs cells slots ad ad0 lsA c0 s0 n0 Q) {pc2 : Nat} {st2 : List qV} {M2 : qM} {H2 : Heap} {locs2 : List Loc} {cells2 slots2 : Nat} {ad2 : Nat → Nat} (h : qS l D cy sa tb y lim pc2 ls st2 M2 Rr) (hH : qH D cy sa A s.heap c0 s0 n0 ad0 ad2 M2 H2 locs2 cells2 slots2) (hn : M.1.length ≤ M2.1.length) (ha : ∀ k, k < M.1.length → ad2 k = ad k) (ho : ∀ v ∈ st2, qok M2.1.length v) : W p l e R s m args below meth c H2 locs2 cells2 slots2 Q (F0 m pc2 lsA (st2.map (qv ad2 sa))) :=
  h p e R s m args below meth c A H2 locs2 cells2 slots2 ad2 ad0 lsA c0 s0 n0 Q ⟨C.1, C.2.1, C.2.2.1, hH, C.L.ad hn ha, C.n, ho, C.2.2.2.2.2.2.2⟩
end QCTX
theorem qchk_len {y pc : Nat} {ins : Instr} {len a b : Nat} {v : Int} (h : qchk y pc ins len a b v = true) (h0 : qexl ins ≠ 0) : len = qexl ins := by
  unfold qchk at h
  rw [Bool.and_eq_true, Bool.or_eq_true] at h
  rcases h.1 with h1 | h1
  · exact absurd (by simpa using h1) h0
  · simpa using h1
theorem ok_hd {n : Nat} {v : qV} {r : List qV} (h : ∀ w ∈ v :: r, qok n w) : qok n v := h v List.mem_cons_self
theorem ok_tl {n : Nat} {v : qV} {r : List qV} (h : ∀ w ∈ v :: r, qok n w) : ∀ w ∈ r, qok n w := fun w hw => h w (List.mem_cons_of_mem _ hw)
theorem ok_cons {n : Nat} {v : qV} {r : List qV} (h1 : qok n v) (h2 : ∀ w ∈ r, qok n w) : ∀ w ∈ v :: r, qok n w := List.forall_mem_cons.mpr ⟨h1, h2⟩
theorem vin_i1 {i : Int} {n : Nat} (hr : -2147483648 ≤ i ∧ i < 2147483648) (h0 : 0 ≤ i) (h1 : i < (n : Int)) : vp_in (i1 i) n := vp_in_iff.mpr (by rw [toInt_i1 hr]; exact ⟨h0, h1⟩)
theorem clamp_i1 {i : Int} (hr : -2147483648 ≤ i ∧ i < 2147483648) : (i1 i).toNatClampNeg = i.toNat := by
  show (i1 i).toInt.toNat = i.toNat
  rw [toInt_i1 hr]
theorem nneg_i1 {i : Int} (hr : -2147483648 ≤ i ∧ i < 2147483648) (h0 : 0 ≤ i) : ¬ i1 i < 0 := by
  rw [Int32.lt_iff_toInt_lt, toInt_i1 hr]
  have : (0 : Int32).toInt = 0 := rfl
  omega
theorem eq_i1 {x z : Int} (hx : -2147483648 ≤ x ∧ x < 2147483648) (hz : -2147483648 ≤ z ∧ z < 2147483648) : i1 x = i1 z ↔ x = z := by
  constructor
  · intro h
    have := congrArg Int32.toInt h
    rwa [toInt_i1 hx, toInt_i1 hz] at this
  · intro h; rw [h]
theorem lt_i1 {x z : Int} (hx : -2147483648 ≤ x ∧ x < 2147483648) (hz : -2147483648 ≤ z ∧ z < 2147483648) : i1 x < i1 z ↔ x < z := by rw [Int32.lt_iff_toInt_lt, toInt_i1 hx, toInt_i1 hz]
theorem le_i1 {x z : Int} (hx : -2147483648 ≤ x ∧ x < 2147483648) (hz : -2147483648 ≤ z ∧ z < 2147483648) : i1 x ≤ i1 z ↔ x ≤ z := by rw [Int32.le_iff_toInt_le, toInt_i1 hx, toInt_i1 hz]
