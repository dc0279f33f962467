theorem qkl_rng : ∀ r ∈ qkl, (r.2.2.1 = 0 → -2147483648 ≤ r.2.2.2 ∧ r.2.2.2 < 2147483648) ∧ (r.2.2.1 = 1 → 0 ≤ r.2.2.2 ∧ r.2.2.2 < 4294967296) ∧ (r.2.2.1 = 2 → -9223372036854775808 ≤ r.2.2.2 ∧ r.2.2.2 < 9223372036854775808) ∧ (r.2.2.1 = 3 → 0 ≤ r.2.2.2 ∧ r.2.2.2 < 18446744073709551616) := by decide +kernel
theorem map_ad {ad ad2 sa : Nat → Nat} {n : Nat} {st : List qV} (h : ∀ v ∈ st, qok n v) (ha : ∀ k, k < n → ad2 k = ad k) : st.map (qv ad2 sa) = st.map (qv ad sa) := List.map_congr_left (fun v hv => qv_ad (h v hv) ha)
theorem up_lt {ad : Nat → Nat} {n q : Nat} : ∀ k, k < n → va_up ad n q k = ad k := fun k hk => by simp [va_up, Nat.ne_of_lt hk]
section QMAKE
variable {l : Launch} {D : va_G} {cy : Nat → ClassId} {sa : Nat → Nat} {tb : qTb} {y : Nat} {lim : Nat × Nat} {ls st : List qV} {M : qM} {Rr : Option qV → qM → Prop} {p : Program} {e : Env} {R : Room} {s : State} {m : MethodId} {args : Array Value} {below : List Frame} {meth : Method} {c : Code} {A : Nat → Prop} {H : Heap} {locs : List Loc} {cells slots : Nat} {ad ad0 : Nat → Nat} {lsA : Array Slot} {c0 s0 n0 : Nat} {Q : State → Prop} {pc a b : Nat} {v : Int}
theorem qs_ldc (C : qC l D cy sa tb y lim ls st M Rr p e R s m args below meth c A H locs cells slots ad ad0 lsA c0 s0 n0 Q) {idx : Nat} (h1 : (qow y, idx, a, v) ∈ qkl) (h2 : a < 2) (hd : decode (qby y) pc = .ok (.ldc idx, 2)) (h : qgo (qS l D cy sa tb) y lim M Rr (qstp tb lim pc (.ldc idx) 2 a b v ls st M)) : W p l e R s m args below meth c H locs cells slots Q (F0 m pc lsA (st.map (qv ad sa))) := by
  have hk := qgo_pu h
  have hw := qkl_ok _ h1
  have hr := qkl_rng _ h1
  match a, h2, hk, hw, hr with
  | 0, _, hk, hw, hr => exact lv_ldc C.x C.b C.own (C.ts _ (qtb_in (hw _ List.mem_cons_self) rfl)) hd (C.goS hk (ok_cons (hr.1 rfl) C.hst))
  | 1, _, hk, hw, hr => exact lv_ldcf C.x C.b C.own (C.ts _ (qtb_in (hw _ List.mem_cons_self) rfl)) hd (C.goS hk (ok_cons (hr.2.1 rfl) C.hst))
  | (k + 2), h2, _, _, _ => exact absurd h2 (by omega)
theorem qs_ldc_w (C : qC l D cy sa tb y lim ls st M Rr p e R s m args below meth c A H locs cells slots ad ad0 lsA c0 s0 n0 Q) {idx : Nat} (h1 : (qow y, idx, a, v) ∈ qkl) (h2 : a = 0) (hd : decode (qby y) pc = .ok (.ldc_w idx, 3)) (h : qgo (qS l D cy sa tb) y lim M Rr (qstp tb lim pc (.ldc_w idx) 3 a b v ls st M)) : W p l e R s m args below meth c H locs cells slots Q (F0 m pc lsA (st.map (qv ad sa))) := by
  subst h2
  have hk := qgo_pu h
  have hw := qkl_ok _ h1
  have hr := qkl_rng _ h1
  exact lv_ldcw C.x C.b C.own (C.ts _ (qtb_in (hw _ List.mem_cons_self) rfl)) hd (C.goS hk (ok_cons (hr.1 rfl) C.hst))
theorem qs_ldc2_w (C : qC l D cy sa tb y lim ls st M Rr p e R s m args below meth c A H locs cells slots ad ad0 lsA c0 s0 n0 Q) {idx : Nat} (h1 : (qow y, idx, a, v) ∈ qkl) (h2 : a = 2 ∨ a = 3) (hd : decode (qby y) pc = .ok (.ldc2_w idx, 3)) (h : qgo (qS l D cy sa tb) y lim M Rr (qstp tb lim pc (.ldc2_w idx) 3 a b v ls st M)) : W p l e R s m args below meth c H locs cells slots Q (F0 m pc lsA (st.map (qv ad sa))) := by
  have hk := qgo_pu h
  have hw := qkl_ok _ h1
  have hr := qkl_rng _ h1
  rcases h2 with rfl | rfl
  · exact lv_ldc2 C.x C.b C.own (C.ts _ (qtb_in (hw _ List.mem_cons_self) rfl)) hd (C.goS hk (ok_cons (hr.2.2.1 rfl) C.hst))
  · exact lv_ldc2d C.x C.b C.own (C.ts _ (qtb_in (hw _ List.mem_cons_self) rfl)) hd (C.goS hk (ok_cons (hr.2.2.2 rfl) C.hst))
/-- the heap behind a new cell -/
theorem qC.nw (C : qC l D cy sa tb y lim ls st M Rr p e R s m args below meth c A H locs cells slots ad ad0 lsA c0 s0 n0 Q) {kd : qK} {g : Nat → Int} (hg : qkok M.1.length kd g) {w : Nat} (hw : (if kd.1 = 0 then qnf kd.2 else kd.2) = w) {ex : va_E} (he : qE ad sa cy kd g = ex) {pc2 : Nat} {r : List qV} (h : qS l D cy sa tb y lim pc2 ls ((3, (M.1.length : Int)) :: r) (M.1 ++ [kd], va_up M.2 M.1.length g) Rr) (ho : ∀ v ∈ r, qok M.1.length v) : ∀ (q : Nat) (H1 : Heap), va_P D vwCl (qws ad sa cy M ++ [(q, ex)]) H1 → va_D A (qws ad sa cy M ++ [(q, ex)]) → va_S A s.heap H1 locs → W p l e R s m args below meth c H1 locs (cells + 1) (slots + w) Q (F0 m pc2 lsA (.ref q :: r.map (qv ad sa))) := by
  intro q H1 hP hD hS
  have hE : qE (va_up ad M.1.length q) sa cy kd g = qE ad sa cy kd g := qE_ad hg up_lt
  rw [← he, qws_push C.hH.2.2.2.1 q kd g hE] at hP hD
  have hl : (M.1 ++ [kd]).length = M.1.length + 1 := by simp
  have k := C.goH (ad2 := va_up ad M.1.length q) (M2 := (M.1 ++ [kd], va_up M.2 M.1.length g)) (H2 := H1) (locs2 := locs) (cells2 := cells + 1) (slots2 := slots + w) h ⟨hS, hP, hD, qmok_push C.hH.2.2.2.1 (qkok_mono (Nat.le_succ _) hg), by show cells + 1 + c0 = (M.1 ++ [kd]).length; rw [hl, ← C.hH.2.2.2.2.1]; omega, by show slots + w + s0 = qsz (M.1 ++ [kd]); rw [qsz_push, hw, ← C.hH.2.2.2.2.2.1]; omega, by show n0 ≤ (M.1 ++ [kd]).length; rw [hl]; have := C.hH.2.2.2.2.2.2.1; omega, fun k hk => by rw [up_lt k (Nat.lt_of_lt_of_le hk C.hH.2.2.2.2.2.2.1)]; exact C.hH.2.2.2.2.2.2.2 k hk⟩ (by show M.1.length ≤ (M.1 ++ [kd]).length; omega) up_lt (ok_cons (show qok _ (3, (M.1.length : Int)) from ⟨by omega, by show (M.1.length : Int) < ((M.1 ++ [kd]).length : Nat); omega⟩) (fun v hv => qok_mono (by show M.1.length ≤ (M.1 ++ [kd]).length; omega) (ho v hv)))
  rw [List.map_cons, qv3 _ sa (by omega), map_ad ho up_lt, show va_up ad M.1.length q (M.1.length : Int).toNat = q by simp [va_up]] at k
  exact k
theorem qC.roomC (C : qC l D cy sa tb y lim ls st M Rr p e R s m args below meth c A H locs cells slots ad ad0 lsA c0 s0 n0 Q) {n : Nat} (h : M.1.length + n ≤ lim.1) : cells + n ≤ R.cells := by
  have h1 := C.1.2.2.2.2.2.2.2.2.2
  have h2 := C.hH.2.2.2.2.1
  rw [h1] at h
  have h3 : M.1.length + n ≤ c0 + R.cells := h
  omega
theorem qC.roomS (C : qC l D cy sa tb y lim ls st M Rr p e R s m args below meth c A H locs cells slots ad ad0 lsA c0 s0 n0 Q) {n : Nat} (h : qsz M.1 + n ≤ lim.2) : slots + n ≤ R.slots := by
  have h1 := C.1.2.2.2.2.2.2.2.2.2
  have h2 := C.hH.2.2.2.2.2.1
  rw [h1] at h
  have h3 : qsz M.1 + n ≤ s0 + R.slots := h
  omega
theorem qs_new (C : qC l D cy sa tb y lim ls st M Rr p e R s m args below meth c A H locs cells slots ad ad0 lsA c0 s0 n0 Q) {idx : Nat} (h1 : (qow y, idx, 0, a) ∈ qcll) (h2 : a < 10) (hd : decode (qby y) pc = .ok (.new idx, 3)) (h : qgo (qS l D cy sa tb) y lim M Rr (qstp tb lim pc (.new idx) 3 a b v ls st M)) : W p l e R s m args below meth c H locs cells slots Q (F0 m pc lsA (st.map (qv ad sa))) := by
  obtain ⟨g1, g2, hk⟩ := qgo_new h
  have hw := qcll_ok _ h1
  have w1 := C.ts _ (qtb_in (hw _ List.mem_cons_self) rfl)
  have w2 := C.ts _ (qtb_in (hw _ (List.mem_cons_of_mem _ List.mem_cons_self)) rfl)
  have w3 := C.ts _ (qtb_in (hw _ (List.mem_cons_of_mem _ (List.mem_cons_of_mem _ List.mem_cons_self))) rfl)
  have hg : qkok M.1.length (0, a) (fun j => if qtg a j = 3 then -1 else 0) := ⟨h2, fun j hj => by
    obtain ⟨e1, e2⟩ := qtg_ok a h2 j hj
    show qok M.1.length (qtg a j, if qtg a j = 3 then -1 else 0)
    rw [e1]
    generalize qty a j = t at e2
    cases t with
    | int => exact ⟨by decide, by decide⟩
    | long => exact ⟨by decide, by decide⟩
    | float => exact ⟨by decide, by decide⟩
    | double => exact ⟨by decide, by decide⟩
    | object q => exact (show (-8 : Int) < -1 ∧ (-1 : Int) < (M.1.length : Int) from ⟨by omega, by omega⟩)
    | array q => exact (show (-8 : Int) < -1 ∧ (-1 : Int) < (M.1.length : Int) from ⟨by omega, by omega⟩)
    | _ => exact absurd e2 (by decide)⟩
  refine va_new (ci := a) C.x C.b C.ts (qly_at a h2) (qty a) (qty_at a h2) C.own w1 w2 w3 C.K C.hH.2.1 C.hH.2.2.1 C.hH.1 C.hA (qcl_at a h2) (fs := (List.range (qnf a)).map (fun j => qv ad sa (qtg a j, if qtg a j = 3 then -1 else 0))) ?_ (C.roomC g1) (C.roomS g2) hd (C.nw hg (if_pos rfl) rfl hk C.hst)
  intro j hj
  obtain ⟨e1, e2⟩ := qtg_ok a h2 j hj
  rw [qdef (ad := ad) (sa := sa) e2, ← e1]
  unfold vp_V
  rw [List.getD_eq_getElem?_getD, List.getElem?_map, List.getElem?_range hj]
  rfl
theorem qs_newi (C : qC l D cy sa tb y lim ls st M Rr p e R s m args below meth c A H locs cells slots ad ad0 lsA c0 s0 n0 Q)  (hd : decode (qby y) pc = .ok (.newarray .int, 2)) (h : qgo (qS l D cy sa tb) y lim M Rr (qstp tb lim pc (.newarray .int) 2 a b v ls st M)) : W p l e R s m args below meth c H locs cells slots Q (F0 m pc lsA (st.map (qv ad sa))) := by
  obtain ⟨n, r, rfl, g1, g2, g3, g4, hk⟩ := qgo_nar (k := 1) (d := 0) (pc := pc + 2) h
  have hn : -2147483648 ≤ n ∧ n < 2147483648 := ok_hd C.hst
  have harr := C.ts _ (qtb_in (qarr (.arrayClass .int) (by simp)) rfl)
  have hg : qkok M.1.length (1, n.toNat) (fun _ => 0) := ⟨by omega, fun j => (show -2147483648 ≤ (0 : Int) ∧ (0 : Int) < 2147483648 from ⟨by omega, by omega⟩)⟩
  rw [List.map_cons, qv0]
  refine va_newa (atype := .int) C.x C.b harr rfl C.K C.hH.2.1 C.hH.2.2.1 C.hH.1 C.hA (n := i1 n) (N' := n.toNat) (a0 := (n.toNat, .inl (fun _ => i1 0))) (fun cA => rfl) (nneg_i1 hn g1) (clamp_i1 hn) (by show n.toNat * 4 ≤ 536870912; omega) (C.roomC g3) (C.roomS g4) hd (fun q cA H1 hK hP hD hS => ?_)
  have e1 : cA = cy 1 := by
    have q1 : s.vm.findClass ("[" ++ FieldType.toString .int) = some cA := (hK.2 4 (cA, .int) rfl).2
    have q2 : s.vm.findClass ("[" ++ FieldType.toString .int) = some (cy 1) := (C.K.2 0 (cy 1, .int) rfl).2
    exact Option.some.inj (q1.symm.trans q2)
  subst e1
  exact C.nw hg rfl rfl hk (ok_tl C.hst) q H1 hP hD hS
theorem qs_newz (C : qC l D cy sa tb y lim ls st M Rr p e R s m args below meth c A H locs cells slots ad ad0 lsA c0 s0 n0 Q)  (hd : decode (qby y) pc = .ok (.newarray .boolean, 2)) (h : qgo (qS l D cy sa tb) y lim M Rr (qstp tb lim pc (.newarray .boolean) 2 a b v ls st M)) : W p l e R s m args below meth c H locs cells slots Q (F0 m pc lsA (st.map (qv ad sa))) := by
  obtain ⟨n, r, rfl, g1, g2, g3, g4, hk⟩ := qgo_nar (k := 2) (d := 0) (pc := pc + 2) h
  have hn : -2147483648 ≤ n ∧ n < 2147483648 := ok_hd C.hst
  have harr := C.ts _ (qtb_in (qarr (.arrayClass .boolean) (by simp)) rfl)
  have hg : qkok M.1.length (2, n.toNat) (fun _ => 0) := ⟨by omega, fun j => (show -2147483648 ≤ (0 : Int) ∧ (0 : Int) < 2147483648 from ⟨by omega, by omega⟩)⟩
  rw [List.map_cons, qv0]
  refine va_newa (atype := .boolean) C.x C.b harr rfl C.K C.hH.2.1 C.hH.2.2.1 C.hH.1 C.hA (n := i1 n) (N' := n.toNat) (a0 := (n.toNat, .inl (fun _ => i1 0))) (fun cA => rfl) (nneg_i1 hn g1) (clamp_i1 hn) (by show n.toNat * 1 ≤ 536870912; omega) (C.roomC g3) (C.roomS g4) hd (fun q cA H1 hK hP hD hS => ?_)
  have e1 : cA = cy 2 := by
    have q1 : s.vm.findClass ("[" ++ FieldType.toString .boolean) = some cA := (hK.2 4 (cA, .boolean) rfl).2
    have q2 : s.vm.findClass ("[" ++ FieldType.toString .boolean) = some (cy 2) := (C.K.2 1 (cy 2, .boolean) rfl).2
    exact Option.some.inj (q1.symm.trans q2)
  subst e1
  exact C.nw hg rfl rfl hk (ok_tl C.hst) q H1 hP hD hS
theorem qs_anew (C : qC l D cy sa tb y lim ls st M Rr p e R s m args below meth c A H locs cells slots ad ad0 lsA c0 s0 n0 Q) {idx : Nat} (h1 : (qow y, idx, 1, a) ∈ qcll) (h2 : a = 3 ∨ a = 4) (hd : decode (qby y) pc = .ok (.anewarray idx, 3)) (h : qgo (qS l D cy sa tb) y lim M Rr (qstp tb lim pc (.anewarray idx) 3 a b v ls st M)) : W p l e R s m args below meth c H locs cells slots Q (F0 m pc lsA (st.map (qv ad sa))) := by
  obtain ⟨n, r, rfl, g1, g2, g3, g4, hk⟩ := qgo_nar (k := a) (d := -1) (pc := pc + 3) h
  have hn : -2147483648 ≤ n ∧ n < 2147483648 := ok_hd C.hst
  have hw := qcll_ok _ h1
  have w1 := C.ts _ (qtb_in (hw _ List.mem_cons_self) rfl)
  have hneg : ∀ j : Nat, (-1 : Int) ≤ -1 ∧ (-1 : Int) < (M.1.length : Int) := fun _ => ⟨by omega, by omega⟩
  rw [List.map_cons, qv0]
  rcases h2 with rfl | rfl
  · refine va_newq C.x C.b C.own w1 C.2.1.2.2.1.1 C.K C.hH.2.1 C.hH.2.2.1 C.hH.1 C.hA (n := i1 n) (N' := n.toNat) (nneg_i1 hn g1) (clamp_i1 hn) (by omega) (C.roomC g3) (C.roomS g4) hd (fun q cA H1 hK hP hD hS => ?_)
    have e1 : cA = cy 3 := by
      obtain ⟨kA, comp, -, -, -, q1⟩ := (hK.2 4 (cA, .object RX3) rfl).2
      obtain ⟨kB, comp2, -, -, -, q2⟩ := (C.K.2 2 (cy 3, .object RX3) rfl).2
      exact Option.some.inj (q1.symm.trans q2)
    subst e1
    exact C.nw (kd := (3, n.toNat)) (g := fun _ => -1) ⟨by omega, hneg⟩ rfl rfl hk (ok_tl C.hst) q H1 hP hD hS
  · refine va_newq C.x C.b C.own w1 C.2.1.2.2.1.2 C.K C.hH.2.1 C.hH.2.2.1 C.hH.1 C.hA (n := i1 n) (N' := n.toNat) (nneg_i1 hn g1) (clamp_i1 hn) (by omega) (C.roomC g3) (C.roomS g4) hd (fun q cA H1 hK hP hD hS => ?_)
    have e1 : cA = cy 4 := by
      obtain ⟨kA, comp, -, -, -, q1⟩ := (hK.2 4 (cA, .object RX5) rfl).2
      obtain ⟨kB, comp2, -, -, -, q2⟩ := (C.K.2 3 (cy 4, .object RX5) rfl).2
      exact Option.some.inj (q1.symm.trans q2)
    subst e1
    exact C.nw (kd := (4, n.toNat)) (g := fun _ => -1) ⟨by omega, hneg⟩ rfl rfl hk (ok_tl C.hst) q H1 hP hD hS
end QMAKE
