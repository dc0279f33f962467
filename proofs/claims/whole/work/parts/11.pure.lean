theorem qgo_ret {P : qP} {y : Nat} {lim : Nat × Nat} {M : qM} {R : Option qV → qM → Prop} {st : List qV} {t a : Nat} (h : qgo P y lim M R (qret t a st)) : ∃ t2 x, st = [(t2, x)] ∧ (t2 == t && (a == 0 || (x == 0 || x == 1))) = true ∧ R (some (t2, x)) M := by
  unfold qret at h
  split at h
  · next x => exact ⟨x.1, x.2, rfl, h.1, h.2⟩
  · exact h.elim
section QPURE
variable {l : Launch} {D : va_G} {cy : Nat → ClassId} {sa : Nat → Nat} {tb : qTb} {y : Nat} {lim : Nat × Nat} {ls st : List qV} {M : qM} {Rr : Option qV → qM → Prop} {p : Program} {e : Env} {R : Room} {s : State} {m : MethodId} {args : Array Value} {below : List Frame} {meth : Method} {c : Code} {A : Nat → Prop} {H : Heap} {locs : List Loc} {cells slots : Nat} {ad ad0 : Nat → Nat} {lsA : Array Slot} {c0 s0 n0 : Nat} {Q : State → Prop} {pc a b : Nat} {v : Int}
theorem qs_iconst (C : qC l D cy sa tb y lim ls st M Rr p e R s m args below meth c A H locs cells slots ad ad0 lsA c0 s0 n0 Q) {n : Int} (hn : -128 ≤ n ∧ n < 128) (hd : decode (qby y) pc = .ok (.iconst n, 1)) (h : qgo (qS l D cy sa tb) y lim M Rr (qstp tb lim pc (.iconst n) 1 a b v ls st M)) : W p l e R s m args below meth c H locs cells slots Q (F0 m pc lsA (st.map (qv ad sa))) := by
  exact lv_iconst C.x C.b hd rfl (C.goS (qgo_pu h) (ok_cons (show _ ∧ _ from ⟨by omega, by omega⟩) C.hst))
theorem qs_bipush (C : qC l D cy sa tb y lim ls st M Rr p e R s m args below meth c A H locs cells slots ad ad0 lsA c0 s0 n0 Q) {n : Int} (hn : -128 ≤ n ∧ n < 128) (hd : decode (qby y) pc = .ok (.bipush n, 2)) (h : qgo (qS l D cy sa tb) y lim M Rr (qstp tb lim pc (.bipush n) 2 a b v ls st M)) : W p l e R s m args below meth c H locs cells slots Q (F0 m pc lsA (st.map (qv ad sa))) := by
  exact lv_bipush C.x C.b hd (Int8.toInt32_ofInt (by have : Int8.minValue.toInt = -128 := rfl; omega) (by have : Int8.maxValue.toInt = 127 := rfl; omega)) (C.goS (qgo_pu h) (ok_cons (show _ ∧ _ from ⟨by omega, by omega⟩) C.hst))
theorem qs_sipush (C : qC l D cy sa tb y lim ls st M Rr p e R s m args below meth c A H locs cells slots ad ad0 lsA c0 s0 n0 Q) {n : Int} (hn : -32768 ≤ n ∧ n < 32768) (hd : decode (qby y) pc = .ok (.sipush n, 3)) (h : qgo (qS l D cy sa tb) y lim M Rr (qstp tb lim pc (.sipush n) 3 a b v ls st M)) : W p l e R s m args below meth c H locs cells slots Q (F0 m pc lsA (st.map (qv ad sa))) := by
  exact lv_sipush C.x C.b hd (Int16.toInt32_ofInt (by have : Int16.minValue.toInt = -32768 := rfl; omega) (by have : Int16.maxValue.toInt = 32767 := rfl; omega)) (C.goS (qgo_pu h) (ok_cons (show _ ∧ _ from ⟨by omega, by omega⟩) C.hst))
theorem qs_lconst (C : qC l D cy sa tb y lim ls st M Rr p e R s m args below meth c A H locs cells slots ad ad0 lsA c0 s0 n0 Q) {n : Fin 2} (hd : decode (qby y) pc = .ok (.lconst n, 1)) (h : qgo (qS l D cy sa tb) y lim M Rr (qstp tb lim pc (.lconst n) 1 a b v ls st M)) : W p l e R s m args below meth c H locs cells slots Q (F0 m pc lsA (st.map (qv ad sa))) := by
  exact lv_lconst C.x C.b hd (Int64.ofInt_eq_ofNat.symm) (C.goS (qgo_pu h) (ok_cons (show _ ∧ _ from ⟨by omega, by have := n.isLt; omega⟩) C.hst))
theorem qs_fconst (C : qC l D cy sa tb y lim ls st M Rr p e R s m args below meth c A H locs cells slots ad ad0 lsA c0 s0 n0 Q) {n : Fin 3} (hn : (n : Nat) < 2) (hd : decode (qby y) pc = .ok (.fconst n, 1)) (h : qgo (qS l D cy sa tb) y lim M Rr (qstp tb lim pc (.fconst n) 1 a b v ls st M)) : W p l e R s m args below meth c H locs cells slots Q (F0 m pc lsA (st.map (qv ad sa))) := by
  match n, hn with
  | 0, _ => exact lv_fconst0 C.x C.b hd (C.goS (qgo_pu h) (ok_cons (show _ ∧ _ from ⟨by decide, by decide⟩) C.hst))
  | 1, _ => exact lv_fconst1 C.x C.b hd (C.goS (qgo_pu h) (ok_cons (show _ ∧ _ from ⟨by decide, by decide⟩) C.hst))
  | 2, h => exact absurd h (by decide)
theorem qs_dconst (C : qC l D cy sa tb y lim ls st M Rr p e R s m args below meth c A H locs cells slots ad ad0 lsA c0 s0 n0 Q) {n : Fin 2} (hd : decode (qby y) pc = .ok (.dconst n, 1)) (h : qgo (qS l D cy sa tb) y lim M Rr (qstp tb lim pc (.dconst n) 1 a b v ls st M)) : W p l e R s m args below meth c H locs cells slots Q (F0 m pc lsA (st.map (qv ad sa))) := by
  match n with
  | 0 => exact lv_dconst0 C.x C.b hd (C.goS (qgo_pu h) (ok_cons (show _ ∧ _ from ⟨by decide, by decide⟩) C.hst))
  | 1 => exact lv_dconst1 C.x C.b hd (C.goS (qgo_pu h) (ok_cons (show _ ∧ _ from ⟨by decide, by decide⟩) C.hst))
theorem qs_iload (C : qC l D cy sa tb y lim ls st M Rr p e R s m args below meth c A H locs cells slots ad ad0 lsA c0 s0 n0 Q) {i : Nat} (hd : decode (qby y) pc = .ok (.iload i, 2)) (h : qgo (qS l D cy sa tb) y lim M Rr (qstp tb lim pc (.iload i) 2 a b v ls st M)) : W p l e R s m args below meth c H locs cells slots Q (F0 m pc lsA (st.map (qv ad sa))) := by
  obtain ⟨x, hx, h⟩ := qgo_lod h
  obtain ⟨h1, h2⟩ := C.L.2.2 i _ hx (by simp)
  exact lv_iload C.x C.b hd h2 (C.goS h (ok_cons h1 C.hst))
theorem qs_iload_n (C : qC l D cy sa tb y lim ls st M Rr p e R s m args below meth c A H locs cells slots ad ad0 lsA c0 s0 n0 Q) {i : Fin 4} (hd : decode (qby y) pc = .ok (.iload_n i, 1)) (h : qgo (qS l D cy sa tb) y lim M Rr (qstp tb lim pc (.iload_n i) 1 a b v ls st M)) : W p l e R s m args below meth c H locs cells slots Q (F0 m pc lsA (st.map (qv ad sa))) := by
  obtain ⟨x, hx, h⟩ := qgo_lod h
  obtain ⟨h1, h2⟩ := C.L.2.2 i _ hx (by simp)
  exact lv_iload_n C.x C.b hd rfl h2 (C.goS h (ok_cons h1 C.hst))
theorem qs_lload (C : qC l D cy sa tb y lim ls st M Rr p e R s m args below meth c A H locs cells slots ad ad0 lsA c0 s0 n0 Q) {i : Nat} (hd : decode (qby y) pc = .ok (.lload i, 2)) (h : qgo (qS l D cy sa tb) y lim M Rr (qstp tb lim pc (.lload i) 2 a b v ls st M)) : W p l e R s m args below meth c H locs cells slots Q (F0 m pc lsA (st.map (qv ad sa))) := by
  obtain ⟨x, hx, h⟩ := qgo_lod h
  obtain ⟨h1, h2⟩ := C.L.2.2 i _ hx (by simp)
  exact lv_lload C.x C.b hd h2 (C.goS h (ok_cons h1 C.hst))
theorem qs_lload_n (C : qC l D cy sa tb y lim ls st M Rr p e R s m args below meth c A H locs cells slots ad ad0 lsA c0 s0 n0 Q) {i : Fin 4} (hd : decode (qby y) pc = .ok (.lload_n i, 1)) (h : qgo (qS l D cy sa tb) y lim M Rr (qstp tb lim pc (.lload_n i) 1 a b v ls st M)) : W p l e R s m args below meth c H locs cells slots Q (F0 m pc lsA (st.map (qv ad sa))) := by
  obtain ⟨x, hx, h⟩ := qgo_lod h
  obtain ⟨h1, h2⟩ := C.L.2.2 i _ hx (by simp)
  exact lv_lload_n C.x C.b hd rfl h2 (C.goS h (ok_cons h1 C.hst))
theorem qs_fload_n (C : qC l D cy sa tb y lim ls st M Rr p e R s m args below meth c A H locs cells slots ad ad0 lsA c0 s0 n0 Q) {i : Fin 4} (hd : decode (qby y) pc = .ok (.fload_n i, 1)) (h : qgo (qS l D cy sa tb) y lim M Rr (qstp tb lim pc (.fload_n i) 1 a b v ls st M)) : W p l e R s m args below meth c H locs cells slots Q (F0 m pc lsA (st.map (qv ad sa))) := by
  obtain ⟨x, hx, h⟩ := qgo_lod h
  obtain ⟨h1, h2⟩ := C.L.2.2 i _ hx (by simp)
  exact lv_fload_n C.x C.b hd rfl h2 (C.goS h (ok_cons h1 C.hst))
theorem qs_dload_n (C : qC l D cy sa tb y lim ls st M Rr p e R s m args below meth c A H locs cells slots ad ad0 lsA c0 s0 n0 Q) {i : Fin 4} (hd : decode (qby y) pc = .ok (.dload_n i, 1)) (h : qgo (qS l D cy sa tb) y lim M Rr (qstp tb lim pc (.dload_n i) 1 a b v ls st M)) : W p l e R s m args below meth c H locs cells slots Q (F0 m pc lsA (st.map (qv ad sa))) := by
  obtain ⟨x, hx, h⟩ := qgo_lod h
  obtain ⟨h1, h2⟩ := C.L.2.2 i _ hx (by simp)
  exact lv_dload_n C.x C.b hd rfl h2 (C.goS h (ok_cons h1 C.hst))
theorem qs_aload (C : qC l D cy sa tb y lim ls st M Rr p e R s m args below meth c A H locs cells slots ad ad0 lsA c0 s0 n0 Q) {i : Nat} (hd : decode (qby y) pc = .ok (.aload i, 2)) (h : qgo (qS l D cy sa tb) y lim M Rr (qstp tb lim pc (.aload i) 2 a b v ls st M)) : W p l e R s m args below meth c H locs cells slots Q (F0 m pc lsA (st.map (qv ad sa))) := by
  obtain ⟨x, hx, h⟩ := qgo_lod h
  obtain ⟨h1, h2⟩ := C.L.2.2 i _ hx (by simp)
  have k := C.goS h (ok_cons h1 C.hst)
  rw [List.map_cons] at k
  by_cases h0 : 0 ≤ x
  · rw [qv3 ad sa h0] at h2 k
    exact lv_aload C.x C.b hd h2 k
  · by_cases h3 : x = -1
    · subst h3
      exact lv_aloadN C.x C.b hd h2 k
    · rw [qv3s ad sa (by omega)] at h2 k
      exact lv_aload C.x C.b hd h2 k
theorem qs_aload_n (C : qC l D cy sa tb y lim ls st M Rr p e R s m args below meth c A H locs cells slots ad ad0 lsA c0 s0 n0 Q) {i : Fin 4} (hd : decode (qby y) pc = .ok (.aload_n i, 1)) (h : qgo (qS l D cy sa tb) y lim M Rr (qstp tb lim pc (.aload_n i) 1 a b v ls st M)) : W p l e R s m args below meth c H locs cells slots Q (F0 m pc lsA (st.map (qv ad sa))) := by
  obtain ⟨x, hx, h⟩ := qgo_lod h
  obtain ⟨h1, h2⟩ := C.L.2.2 i _ hx (by simp)
  have k := C.goS h (ok_cons h1 C.hst)
  rw [List.map_cons] at k
  by_cases h0 : 0 ≤ x
  · rw [qv3 ad sa h0] at h2 k
    exact lv_aload_n C.x C.b hd rfl h2 k
  · by_cases h3 : x = -1
    · subst h3
      exact lv_aload_nN C.x C.b hd rfl h2 k
    · rw [qv3s ad sa (by omega)] at h2 k
      exact lv_aload_n C.x C.b hd rfl h2 k
theorem qs_istore (C : qC l D cy sa tb y lim ls st M Rr p e R s m args below meth c A H locs cells slots ad ad0 lsA c0 s0 n0 Q) {i : Nat} (hd : decode (qby y) pc = .ok (.istore i, 2)) (h : qgo (qS l D cy sa tb) y lim M Rr (qstp tb lim pc (.istore i) 2 a b v ls st M)) : W p l e R s m args below meth c H locs cells slots Q (F0 m pc lsA (st.map (qv ad sa))) := by
  obtain ⟨x, r, rfl, hi, hf, hk⟩ := qgo_st1 h
  exact lv_istore C.x C.b hd C.L.has hi rfl (fun ls2 hl2 => C.go hk (C.L.st1 hi hf (ok_hd C.hst) hl2) (by rw [List.length_set]; exact C.n) (ok_tl C.hst))
theorem qs_istore_n (C : qC l D cy sa tb y lim ls st M Rr p e R s m args below meth c A H locs cells slots ad ad0 lsA c0 s0 n0 Q) {i : Fin 4} (hd : decode (qby y) pc = .ok (.istore_n i, 1)) (h : qgo (qS l D cy sa tb) y lim M Rr (qstp tb lim pc (.istore_n i) 1 a b v ls st M)) : W p l e R s m args below meth c H locs cells slots Q (F0 m pc lsA (st.map (qv ad sa))) := by
  obtain ⟨x, r, rfl, hi, hf, hk⟩ := qgo_st1 h
  exact lv_istore_n C.x C.b hd rfl C.L.has hi rfl (fun ls2 hl2 => C.go hk (C.L.st1 hi hf (ok_hd C.hst) hl2) (by rw [List.length_set]; exact C.n) (ok_tl C.hst))
theorem qs_astore (C : qC l D cy sa tb y lim ls st M Rr p e R s m args below meth c A H locs cells slots ad ad0 lsA c0 s0 n0 Q) {i : Nat} (hd : decode (qby y) pc = .ok (.astore i, 2)) (h : qgo (qS l D cy sa tb) y lim M Rr (qstp tb lim pc (.astore i) 2 a b v ls st M)) : W p l e R s m args below meth c H locs cells slots Q (F0 m pc lsA (st.map (qv ad sa))) := by
  obtain ⟨x, r, rfl, hi, hf, hk⟩ := qgo_st1 h
  have k := fun ls2 hl2 => C.go hk (C.L.st1 (ls2 := ls2) hi hf (ok_hd C.hst) hl2) (by rw [List.length_set]; exact C.n) (ok_tl C.hst)
  rw [List.map_cons]
  by_cases h0 : 0 ≤ x
  · rw [qv3 ad sa h0] at k ⊢
    exact lv_astore C.x C.b hd C.L.has hi rfl k
  · by_cases h3 : x = -1
    · subst h3
      exact lv_astoreN C.x C.b hd C.L.has hi rfl k
    · rw [qv3s ad sa (by omega)] at k ⊢
      exact lv_astore C.x C.b hd C.L.has hi rfl k
theorem qs_astore_n (C : qC l D cy sa tb y lim ls st M Rr p e R s m args below meth c A H locs cells slots ad ad0 lsA c0 s0 n0 Q) {i : Fin 4} (hd : decode (qby y) pc = .ok (.astore_n i, 1)) (h : qgo (qS l D cy sa tb) y lim M Rr (qstp tb lim pc (.astore_n i) 1 a b v ls st M)) : W p l e R s m args below meth c H locs cells slots Q (F0 m pc lsA (st.map (qv ad sa))) := by
  obtain ⟨x, r, rfl, hi, hf, hk⟩ := qgo_st1 h
  have k := fun ls2 hl2 => C.go hk (C.L.st1 (ls2 := ls2) hi hf (ok_hd C.hst) hl2) (by rw [List.length_set]; exact C.n) (ok_tl C.hst)
  rw [List.map_cons]
  by_cases h0 : 0 ≤ x
  · rw [qv3 ad sa h0] at k ⊢
    exact lv_astore_n C.x C.b hd rfl C.L.has hi rfl k
  · by_cases h3 : x = -1
    · subst h3
      exact lv_astore_nN C.x C.b hd rfl C.L.has hi rfl k
    · rw [qv3s ad sa (by omega)] at k ⊢
      exact lv_astore_n C.x C.b hd rfl C.L.has hi rfl k
theorem qs_lstore (C : qC l D cy sa tb y lim ls st M Rr p e R s m args below meth c A H locs cells slots ad ad0 lsA c0 s0 n0 Q) {i : Nat} (hd : decode (qby y) pc = .ok (.lstore i, 2)) (h : qgo (qS l D cy sa tb) y lim M Rr (qstp tb lim pc (.lstore i) 2 a b v ls st M)) : W p l e R s m args below meth c H locs cells slots Q (F0 m pc lsA (st.map (qv ad sa))) := by
  obtain ⟨x, r, rfl, hi, hf, hk⟩ := qgo_st2 h
  exact lv_lstore C.x C.b hd C.L.has hi rfl (fun ls2 hl2 => C.go hk (C.L.st2 hi hf (ok_hd C.hst) hl2) (by rw [List.length_set, List.length_set]; exact C.n) (ok_tl C.hst))
theorem qs_lstore_n (C : qC l D cy sa tb y lim ls st M Rr p e R s m args below meth c A H locs cells slots ad ad0 lsA c0 s0 n0 Q) {i : Fin 4} (hd : decode (qby y) pc = .ok (.lstore_n i, 1)) (h : qgo (qS l D cy sa tb) y lim M Rr (qstp tb lim pc (.lstore_n i) 1 a b v ls st M)) : W p l e R s m args below meth c H locs cells slots Q (F0 m pc lsA (st.map (qv ad sa))) := by
  obtain ⟨x, r, rfl, hi, hf, hk⟩ := qgo_st2 h
  exact lv_lstore_n C.x C.b hd rfl C.L.has hi rfl (fun ls2 hl2 => C.go hk (C.L.st2 hi hf (ok_hd C.hst) hl2) (by rw [List.length_set, List.length_set]; exact C.n) (ok_tl C.hst))
theorem qs_dstore_n (C : qC l D cy sa tb y lim ls st M Rr p e R s m args below meth c A H locs cells slots ad ad0 lsA c0 s0 n0 Q) {i : Fin 4} (hd : decode (qby y) pc = .ok (.dstore_n i, 1)) (h : qgo (qS l D cy sa tb) y lim M Rr (qstp tb lim pc (.dstore_n i) 1 a b v ls st M)) : W p l e R s m args below meth c H locs cells slots Q (F0 m pc lsA (st.map (qv ad sa))) := by
  obtain ⟨x, r, rfl, hi, hf, hk⟩ := qgo_st2 h
  exact lv_dstore_n C.x C.b hd rfl C.L.has hi rfl (fun ls2 hl2 => C.go hk (C.L.st2 hi hf (ok_hd C.hst) hl2) (by rw [List.length_set, List.length_set]; exact C.n) (ok_tl C.hst))
theorem qs_iinc (C : qC l D cy sa tb y lim ls st M Rr p e R s m args below meth c A H locs cells slots ad ad0 lsA c0 s0 n0 Q) {i : Nat} {n : Int} (hd : decode (qby y) pc = .ok (.iinc i n, 3)) (h : qgo (qS l D cy sa tb) y lim M Rr (qstp tb lim pc (.iinc i n) 3 a b v ls st M)) : W p l e R s m args below meth c H locs cells slots Q (F0 m pc lsA (st.map (qv ad sa))) := by
  have h0 : qgo (qS l D cy sa tb) y lim M Rr (match (generalizing := false) ls[i]? with
    | some x => qnx (x.1 == 0 && qfre i ls) (pc + 3) (ls.set i (0, w32 (x.2 + n))) st M
    | none => none) := h
  split at h0
  · next x hx =>
    obtain ⟨hg, h0⟩ := h0
    obtain ⟨t, x⟩ := x
    simp only [Bool.and_eq_true, beq_iff_eq] at hg
    obtain ⟨rfl, hf⟩ := hg
    have hi : i < ls.length := (List.getElem?_eq_some_iff.mp hx).1
    obtain ⟨h1, h2⟩ := C.L.2.2 i _ hx (by simp)
    obtain ⟨k, hk⟩ := List.getElem?_of_mem (qlv_mem.mpr ⟨_, hx, (by simp), rfl⟩ : (i, qv ad sa (0, x)) ∈ qlv ad sa ls)
    refine lv_iinc C.x C.b hd C.L.has hk (v := i1 (w32 (x + n))) (by rw [i1_w32]; exact (Int32.ofInt_add x n).symm) hi rfl (fun ls2 hl2 => C.go h0 (C.L.st1 hi hf (show _ ∧ _ from w32_rng _) hl2) (by rw [List.length_set]; exact C.n) C.hst)
  · exact h0.elim
theorem qs_iadd (C : qC l D cy sa tb y lim ls st M Rr p e R s m args below meth c A H locs cells slots ad ad0 lsA c0 s0 n0 Q)  (hd : decode (qby y) pc = .ok (.iadd, 1)) (h : qgo (qS l D cy sa tb) y lim M Rr (qstp tb lim pc (.iadd) 1 a b v ls st M)) : W p l e R s m args below meth c H locs cells slots Q (F0 m pc lsA (st.map (qv ad sa))) := by
  obtain ⟨x, z, r, rfl, hk⟩ := qgo_ii (f := fun x y => w32 (x + y)) (pc := pc + 1) h
  have k := C.goS hk (ok_cons (show _ ∧ _ from w32_rng _) (ok_tl (ok_tl C.hst)))
  rw [List.map_cons, qv0, show i1 (_) = i1 x + i1 z from by rw [i1_w32]; exact Int32.ofInt_add x z] at k
  exact lv_iadd C.x C.b hd k
theorem qs_isub (C : qC l D cy sa tb y lim ls st M Rr p e R s m args below meth c A H locs cells slots ad ad0 lsA c0 s0 n0 Q)  (hd : decode (qby y) pc = .ok (.isub, 1)) (h : qgo (qS l D cy sa tb) y lim M Rr (qstp tb lim pc (.isub) 1 a b v ls st M)) : W p l e R s m args below meth c H locs cells slots Q (F0 m pc lsA (st.map (qv ad sa))) := by
  obtain ⟨x, z, r, rfl, hk⟩ := qgo_ii (f := fun x y => w32 (x - y)) (pc := pc + 1) h
  have k := C.goS hk (ok_cons (show _ ∧ _ from w32_rng _) (ok_tl (ok_tl C.hst)))
  rw [List.map_cons, qv0, show i1 (_) = i1 x - i1 z from by rw [i1_w32]; exact Int32.ofInt_sub x z] at k
  exact lv_isub C.x C.b hd k
theorem qs_imul (C : qC l D cy sa tb y lim ls st M Rr p e R s m args below meth c A H locs cells slots ad ad0 lsA c0 s0 n0 Q)  (hd : decode (qby y) pc = .ok (.imul, 1)) (h : qgo (qS l D cy sa tb) y lim M Rr (qstp tb lim pc (.imul) 1 a b v ls st M)) : W p l e R s m args below meth c H locs cells slots Q (F0 m pc lsA (st.map (qv ad sa))) := by
  obtain ⟨x, z, r, rfl, hk⟩ := qgo_ii (f := fun x y => w32 (x * y)) (pc := pc + 1) h
  have k := C.goS hk (ok_cons (show _ ∧ _ from w32_rng _) (ok_tl (ok_tl C.hst)))
  rw [List.map_cons, qv0, show i1 (_) = i1 x * i1 z from by rw [i1_w32]; exact Int32.ofInt_mul x z] at k
  exact lv_imul C.x C.b hd k
theorem qs_iand (C : qC l D cy sa tb y lim ls st M Rr p e R s m args below meth c A H locs cells slots ad ad0 lsA c0 s0 n0 Q)  (hd : decode (qby y) pc = .ok (.iand, 1)) (h : qgo (qS l D cy sa tb) y lim M Rr (qstp tb lim pc (.iand) 1 a b v ls st M)) : W p l e R s m args below meth c H locs cells slots Q (F0 m pc lsA (st.map (qv ad sa))) := by
  obtain ⟨x, z, r, rfl, hk⟩ := qgo_ii (f := fun x y => (i1 x &&& i1 y).toInt) (pc := pc + 1) h
  have k := C.goS hk (ok_cons (show _ ∧ _ from rng32 _) (ok_tl (ok_tl C.hst)))
  rw [List.map_cons, qv0, show i1 (_) = i1 x &&& i1 z from i1_toInt _] at k
  exact lv_iand C.x C.b hd k
theorem qs_ior (C : qC l D cy sa tb y lim ls st M Rr p e R s m args below meth c A H locs cells slots ad ad0 lsA c0 s0 n0 Q)  (hd : decode (qby y) pc = .ok (.ior, 1)) (h : qgo (qS l D cy sa tb) y lim M Rr (qstp tb lim pc (.ior) 1 a b v ls st M)) : W p l e R s m args below meth c H locs cells slots Q (F0 m pc lsA (st.map (qv ad sa))) := by
  obtain ⟨x, z, r, rfl, hk⟩ := qgo_ii (f := fun x y => (i1 x ||| i1 y).toInt) (pc := pc + 1) h
  have k := C.goS hk (ok_cons (show _ ∧ _ from rng32 _) (ok_tl (ok_tl C.hst)))
  rw [List.map_cons, qv0, show i1 (_) = i1 x ||| i1 z from i1_toInt _] at k
  exact lv_ior C.x C.b hd k
theorem qs_ixor (C : qC l D cy sa tb y lim ls st M Rr p e R s m args below meth c A H locs cells slots ad ad0 lsA c0 s0 n0 Q)  (hd : decode (qby y) pc = .ok (.ixor, 1)) (h : qgo (qS l D cy sa tb) y lim M Rr (qstp tb lim pc (.ixor) 1 a b v ls st M)) : W p l e R s m args below meth c H locs cells slots Q (F0 m pc lsA (st.map (qv ad sa))) := by
  obtain ⟨x, z, r, rfl, hk⟩ := qgo_ii (f := fun x y => (i1 x ^^^ i1 y).toInt) (pc := pc + 1) h
  have k := C.goS hk (ok_cons (show _ ∧ _ from rng32 _) (ok_tl (ok_tl C.hst)))
  rw [List.map_cons, qv0, show i1 (_) = i1 x ^^^ i1 z from i1_toInt _] at k
  exact lv_ixor C.x C.b hd k
theorem qs_ishl (C : qC l D cy sa tb y lim ls st M Rr p e R s m args below meth c A H locs cells slots ad ad0 lsA c0 s0 n0 Q)  (hd : decode (qby y) pc = .ok (.ishl, 1)) (h : qgo (qS l D cy sa tb) y lim M Rr (qstp tb lim pc (.ishl) 1 a b v ls st M)) : W p l e R s m args below meth c H locs cells slots Q (F0 m pc lsA (st.map (qv ad sa))) := by
  obtain ⟨x, z, r, rfl, hk⟩ := qgo_ii (f := fun x y => (i1 x <<< (i1 y &&& 31)).toInt) (pc := pc + 1) h
  have k := C.goS hk (ok_cons (show _ ∧ _ from rng32 _) (ok_tl (ok_tl C.hst)))
  rw [List.map_cons, qv0, show i1 (_) = i1 x <<< (i1 z &&& 31) from i1_toInt _] at k
  exact lv_ishl C.x C.b hd k
theorem qs_ishr (C : qC l D cy sa tb y lim ls st M Rr p e R s m args below meth c A H locs cells slots ad ad0 lsA c0 s0 n0 Q)  (hd : decode (qby y) pc = .ok (.ishr, 1)) (h : qgo (qS l D cy sa tb) y lim M Rr (qstp tb lim pc (.ishr) 1 a b v ls st M)) : W p l e R s m args below meth c H locs cells slots Q (F0 m pc lsA (st.map (qv ad sa))) := by
  obtain ⟨x, z, r, rfl, hk⟩ := qgo_ii (f := fun x y => (i1 x >>> (i1 y &&& 31)).toInt) (pc := pc + 1) h
  have k := C.goS hk (ok_cons (show _ ∧ _ from rng32 _) (ok_tl (ok_tl C.hst)))
  rw [List.map_cons, qv0, show i1 (_) = i1 x >>> (i1 z &&& 31) from i1_toInt _] at k
  exact lv_ishr C.x C.b hd k
theorem qs_iushr (C : qC l D cy sa tb y lim ls st M Rr p e R s m args below meth c A H locs cells slots ad ad0 lsA c0 s0 n0 Q)  (hd : decode (qby y) pc = .ok (.iushr, 1)) (h : qgo (qS l D cy sa tb) y lim M Rr (qstp tb lim pc (.iushr) 1 a b v ls st M)) : W p l e R s m args below meth c H locs cells slots Q (F0 m pc lsA (st.map (qv ad sa))) := by
  obtain ⟨x, z, r, rfl, hk⟩ := qgo_ii (f := fun x y => ((i1 x).toUInt32 >>> ((i1 y).toUInt32 &&& Int32.toUInt32 31)).toInt32.toInt) (pc := pc + 1) h
  exact lv_iushr C.x C.b hd (i1_toInt _).symm (C.goS hk (ok_cons (show _ ∧ _ from rng32 _) (ok_tl (ok_tl C.hst))))
theorem i1_div {x z : Int} (hx : -2147483648 ≤ x ∧ x < 2147483648) (hz : -2147483648 ≤ z ∧ z < 2147483648) : i1 (x.tdiv z) = i1 x / i1 z :=
  Int32.ofInt_tdiv (by have : Int32.minValue.toInt = -2147483648 := rfl; omega) (by have : Int32.maxValue.toInt = 2147483647 := rfl; omega) (by have : Int32.minValue.toInt = -2147483648 := rfl; omega) (by have : Int32.maxValue.toInt = 2147483647 := rfl; omega)
theorem l1_div {x z : Int} (hx : -9223372036854775808 ≤ x ∧ x < 9223372036854775808) (hz : -9223372036854775808 ≤ z ∧ z < 9223372036854775808) : l1 (x.tdiv z) = l1 x / l1 z :=
  Int64.ofInt_tdiv (by have : Int64.minValue.toInt = -9223372036854775808 := rfl; omega) (by have : Int64.maxValue.toInt = 9223372036854775807 := rfl; omega) (by have : Int64.minValue.toInt = -9223372036854775808 := rfl; omega) (by have : Int64.maxValue.toInt = 9223372036854775807 := rfl; omega)
theorem i1_rem {x z : Int} (hx : -2147483648 ≤ x ∧ x < 2147483648) (hz : -2147483648 ≤ z ∧ z < 2147483648) : i1 (x.tmod z) = i1 x - i1 x / i1 z * i1 z := by
  rw [← i1_div hx hz, Int.tmod_def, Int.mul_comm]
  exact (Int32.ofInt_sub _ _).trans (congrArg (fun q => i1 x - q) (Int32.ofInt_mul _ _))
theorem l1_rem {x z : Int} (hx : -9223372036854775808 ≤ x ∧ x < 9223372036854775808) (hz : -9223372036854775808 ≤ z ∧ z < 9223372036854775808) : l1 (x.tmod z) = l1 x - l1 x / l1 z * l1 z := by
  rw [← l1_div hx hz, Int.tmod_def, Int.mul_comm]
  exact (Int64.ofInt_sub _ _).trans (congrArg (fun q => l1 x - q) (Int64.ofInt_mul _ _))
theorem i1_ne0 {z : Int} (hz : -2147483648 ≤ z ∧ z < 2147483648) (h : ¬ z = 0) : ¬ i1 z = 0 := fun q => h (by
  have := congrArg Int32.toInt q
  rwa [toInt_i1 hz] at this)
theorem l1_ne0 {z : Int} (hz : -9223372036854775808 ≤ z ∧ z < 9223372036854775808) (h : ¬ z = 0) : ¬ l1 z = 0 := fun q => h (by
  have := congrArg Int64.toInt q
  rwa [toInt_l1 hz] at this)
theorem qs_idiv (C : qC l D cy sa tb y lim ls st M Rr p e R s m args below meth c A H locs cells slots ad ad0 lsA c0 s0 n0 Q)  (hd : decode (qby y) pc = .ok (.idiv, 1)) (h : qgo (qS l D cy sa tb) y lim M Rr (qstp tb lim pc (.idiv) 1 a b v ls st M)) : W p l e R s m args below meth c H locs cells slots Q (F0 m pc lsA (st.map (qv ad sa))) := by
  obtain ⟨x, z, r, rfl, h0, hk⟩ := qgo_id (f := fun x y => w32 (x.tdiv y)) (pc := pc + 1) h
  have hz : -2147483648 ≤ z ∧ z < 2147483648 := ok_hd C.hst
  have hx : -2147483648 ≤ x ∧ x < 2147483648 := ok_hd (ok_tl C.hst)
  have k := C.goS hk (ok_cons (show _ ∧ _ from w32_rng _) (ok_tl (ok_tl C.hst)))
  rw [List.map_cons, qv0, i1_w32, i1_div hx hz] at k
  exact lv_idiv C.x C.b hd (i1_ne0 hz h0) k
theorem qs_irem (C : qC l D cy sa tb y lim ls st M Rr p e R s m args below meth c A H locs cells slots ad ad0 lsA c0 s0 n0 Q)  (hd : decode (qby y) pc = .ok (.irem, 1)) (h : qgo (qS l D cy sa tb) y lim M Rr (qstp tb lim pc (.irem) 1 a b v ls st M)) : W p l e R s m args below meth c H locs cells slots Q (F0 m pc lsA (st.map (qv ad sa))) := by
  obtain ⟨x, z, r, rfl, h0, hk⟩ := qgo_id (f := fun x y => w32 (x.tmod y)) (pc := pc + 1) h
  have hz : -2147483648 ≤ z ∧ z < 2147483648 := ok_hd C.hst
  have hx : -2147483648 ≤ x ∧ x < 2147483648 := ok_hd (ok_tl C.hst)
  have k := C.goS hk (ok_cons (show _ ∧ _ from w32_rng _) (ok_tl (ok_tl C.hst)))
  rw [List.map_cons, qv0, i1_w32, i1_rem hx hz] at k
  exact lv_irem C.x C.b hd (i1_ne0 hz h0) k
theorem qs_ineg (C : qC l D cy sa tb y lim ls st M Rr p e R s m args below meth c A H locs cells slots ad ad0 lsA c0 s0 n0 Q)  (hd : decode (qby y) pc = .ok (.ineg, 1)) (h : qgo (qS l D cy sa tb) y lim M Rr (qstp tb lim pc (.ineg) 1 a b v ls st M)) : W p l e R s m args below meth c H locs cells slots Q (F0 m pc lsA (st.map (qv ad sa))) := by
  obtain ⟨x, r, rfl, hk⟩ := qgo_un (t := 0) (u := 0) (f := fun x => w32 (-x)) (pc := pc + 1) h
  have k := C.goS hk (ok_cons (show _ ∧ _ from w32_rng _) (ok_tl C.hst))
  rw [List.map_cons, qv0, i1_w32, show i1 (-x) = -i1 x from Int32.ofInt_neg x] at k
  exact lv_ineg C.x C.b hd k
theorem qs_ladd (C : qC l D cy sa tb y lim ls st M Rr p e R s m args below meth c A H locs cells slots ad ad0 lsA c0 s0 n0 Q)  (hd : decode (qby y) pc = .ok (.ladd, 1)) (h : qgo (qS l D cy sa tb) y lim M Rr (qstp tb lim pc (.ladd) 1 a b v ls st M)) : W p l e R s m args below meth c H locs cells slots Q (F0 m pc lsA (st.map (qv ad sa))) := by
  obtain ⟨x, z, r, rfl, hk⟩ := qgo_ll (f := fun x y => w64 (x + y)) (pc := pc + 1) h
  have k := C.goS hk (ok_cons (show _ ∧ _ from w64_rng _) (ok_tl (ok_tl C.hst)))
  rw [List.map_cons, qv1, l1_w64, show l1 (_) = l1 x + l1 z from Int64.ofInt_add x z] at k
  exact lv_ladd C.x C.b hd k
theorem qs_lsub (C : qC l D cy sa tb y lim ls st M Rr p e R s m args below meth c A H locs cells slots ad ad0 lsA c0 s0 n0 Q)  (hd : decode (qby y) pc = .ok (.lsub, 1)) (h : qgo (qS l D cy sa tb) y lim M Rr (qstp tb lim pc (.lsub) 1 a b v ls st M)) : W p l e R s m args below meth c H locs cells slots Q (F0 m pc lsA (st.map (qv ad sa))) := by
  obtain ⟨x, z, r, rfl, hk⟩ := qgo_ll (f := fun x y => w64 (x - y)) (pc := pc + 1) h
  have k := C.goS hk (ok_cons (show _ ∧ _ from w64_rng _) (ok_tl (ok_tl C.hst)))
  rw [List.map_cons, qv1, l1_w64, show l1 (_) = l1 x - l1 z from Int64.ofInt_sub x z] at k
  exact lv_lsub C.x C.b hd k
theorem qs_lmul (C : qC l D cy sa tb y lim ls st M Rr p e R s m args below meth c A H locs cells slots ad ad0 lsA c0 s0 n0 Q)  (hd : decode (qby y) pc = .ok (.lmul, 1)) (h : qgo (qS l D cy sa tb) y lim M Rr (qstp tb lim pc (.lmul) 1 a b v ls st M)) : W p l e R s m args below meth c H locs cells slots Q (F0 m pc lsA (st.map (qv ad sa))) := by
  obtain ⟨x, z, r, rfl, hk⟩ := qgo_ll (f := fun x y => w64 (x * y)) (pc := pc + 1) h
  have k := C.goS hk (ok_cons (show _ ∧ _ from w64_rng _) (ok_tl (ok_tl C.hst)))
  rw [List.map_cons, qv1, l1_w64, show l1 (_) = l1 x * l1 z from Int64.ofInt_mul x z] at k
  exact lv_lmul C.x C.b hd k
theorem qs_land (C : qC l D cy sa tb y lim ls st M Rr p e R s m args below meth c A H locs cells slots ad ad0 lsA c0 s0 n0 Q)  (hd : decode (qby y) pc = .ok (.land, 1)) (h : qgo (qS l D cy sa tb) y lim M Rr (qstp tb lim pc (.land) 1 a b v ls st M)) : W p l e R s m args below meth c H locs cells slots Q (F0 m pc lsA (st.map (qv ad sa))) := by
  obtain ⟨x, z, r, rfl, hk⟩ := qgo_ll (f := fun x y => (l1 x &&& l1 y).toInt) (pc := pc + 1) h
  have k := C.goS hk (ok_cons (show _ ∧ _ from rng64 _) (ok_tl (ok_tl C.hst)))
  rw [List.map_cons, qv1, l1_toInt] at k
  exact lv_land C.x C.b hd k
theorem qs_lor (C : qC l D cy sa tb y lim ls st M Rr p e R s m args below meth c A H locs cells slots ad ad0 lsA c0 s0 n0 Q)  (hd : decode (qby y) pc = .ok (.lor, 1)) (h : qgo (qS l D cy sa tb) y lim M Rr (qstp tb lim pc (.lor) 1 a b v ls st M)) : W p l e R s m args below meth c H locs cells slots Q (F0 m pc lsA (st.map (qv ad sa))) := by
  obtain ⟨x, z, r, rfl, hk⟩ := qgo_ll (f := fun x y => (l1 x ||| l1 y).toInt) (pc := pc + 1) h
  have k := C.goS hk (ok_cons (show _ ∧ _ from rng64 _) (ok_tl (ok_tl C.hst)))
  rw [List.map_cons, qv1, l1_toInt] at k
  exact lv_lor C.x C.b hd k
theorem qs_ldiv (C : qC l D cy sa tb y lim ls st M Rr p e R s m args below meth c A H locs cells slots ad ad0 lsA c0 s0 n0 Q)  (hd : decode (qby y) pc = .ok (.ldiv, 1)) (h : qgo (qS l D cy sa tb) y lim M Rr (qstp tb lim pc (.ldiv) 1 a b v ls st M)) : W p l e R s m args below meth c H locs cells slots Q (F0 m pc lsA (st.map (qv ad sa))) := by
  obtain ⟨x, z, r, rfl, h0, hk⟩ := qgo_ldv (f := fun x y => w64 (x.tdiv y)) (pc := pc + 1) h
  have hz : -9223372036854775808 ≤ z ∧ z < 9223372036854775808 := ok_hd C.hst
  have hx : -9223372036854775808 ≤ x ∧ x < 9223372036854775808 := ok_hd (ok_tl C.hst)
  have k := C.goS hk (ok_cons (show _ ∧ _ from w64_rng _) (ok_tl (ok_tl C.hst)))
  rw [List.map_cons, qv1, l1_w64, l1_div hx hz] at k
  exact lv_ldiv C.x C.b hd (l1_ne0 hz h0) k
theorem qs_lrem (C : qC l D cy sa tb y lim ls st M Rr p e R s m args below meth c A H locs cells slots ad ad0 lsA c0 s0 n0 Q)  (hd : decode (qby y) pc = .ok (.lrem, 1)) (h : qgo (qS l D cy sa tb) y lim M Rr (qstp tb lim pc (.lrem) 1 a b v ls st M)) : W p l e R s m args below meth c H locs cells slots Q (F0 m pc lsA (st.map (qv ad sa))) := by
  obtain ⟨x, z, r, rfl, h0, hk⟩ := qgo_ldv (f := fun x y => w64 (x.tmod y)) (pc := pc + 1) h
  have hz : -9223372036854775808 ≤ z ∧ z < 9223372036854775808 := ok_hd C.hst
  have hx : -9223372036854775808 ≤ x ∧ x < 9223372036854775808 := ok_hd (ok_tl C.hst)
  have k := C.goS hk (ok_cons (show _ ∧ _ from w64_rng _) (ok_tl (ok_tl C.hst)))
  rw [List.map_cons, qv1, l1_w64, l1_rem hx hz] at k
  exact lv_lrem C.x C.b hd (l1_ne0 hz h0) k
theorem qs_lneg (C : qC l D cy sa tb y lim ls st M Rr p e R s m args below meth c A H locs cells slots ad ad0 lsA c0 s0 n0 Q)  (hd : decode (qby y) pc = .ok (.lneg, 1)) (h : qgo (qS l D cy sa tb) y lim M Rr (qstp tb lim pc (.lneg) 1 a b v ls st M)) : W p l e R s m args below meth c H locs cells slots Q (F0 m pc lsA (st.map (qv ad sa))) := by
  obtain ⟨x, r, rfl, hk⟩ := qgo_un (t := 1) (u := 1) (f := fun x => w64 (-x)) (pc := pc + 1) h
  have k := C.goS hk (ok_cons (show _ ∧ _ from w64_rng _) (ok_tl C.hst))
  rw [List.map_cons, qv1, l1_w64, show l1 (-x) = -l1 x from Int64.ofInt_neg x] at k
  exact lv_lneg C.x C.b hd k
theorem qs_lshl (C : qC l D cy sa tb y lim ls st M Rr p e R s m args below meth c A H locs cells slots ad ad0 lsA c0 s0 n0 Q)  (hd : decode (qby y) pc = .ok (.lshl, 1)) (h : qgo (qS l D cy sa tb) y lim M Rr (qstp tb lim pc (.lshl) 1 a b v ls st M)) : W p l e R s m args below meth c H locs cells slots Q (F0 m pc lsA (st.map (qv ad sa))) := by
  obtain ⟨x, z, r, rfl, hk⟩ := qgo_li (f := fun x y => (l1 x <<< ((i1 y).toInt64 &&& 63)).toInt) (pc := pc + 1) h
  exact lv_lshl C.x C.b hd (l1_toInt _).symm (C.goS hk (ok_cons (show _ ∧ _ from rng64 _) (ok_tl (ok_tl C.hst))))
theorem qs_lshr (C : qC l D cy sa tb y lim ls st M Rr p e R s m args below meth c A H locs cells slots ad ad0 lsA c0 s0 n0 Q)  (hd : decode (qby y) pc = .ok (.lshr, 1)) (h : qgo (qS l D cy sa tb) y lim M Rr (qstp tb lim pc (.lshr) 1 a b v ls st M)) : W p l e R s m args below meth c H locs cells slots Q (F0 m pc lsA (st.map (qv ad sa))) := by
  obtain ⟨x, z, r, rfl, hk⟩ := qgo_li (f := fun x y => (l1 x >>> ((i1 y).toInt64 &&& 63)).toInt) (pc := pc + 1) h
  exact lv_lshr C.x C.b hd (l1_toInt _).symm (C.goS hk (ok_cons (show _ ∧ _ from rng64 _) (ok_tl (ok_tl C.hst))))
theorem qs_lushr (C : qC l D cy sa tb y lim ls st M Rr p e R s m args below meth c A H locs cells slots ad ad0 lsA c0 s0 n0 Q)  (hd : decode (qby y) pc = .ok (.lushr, 1)) (h : qgo (qS l D cy sa tb) y lim M Rr (qstp tb lim pc (.lushr) 1 a b v ls st M)) : W p l e R s m args below meth c H locs cells slots Q (F0 m pc lsA (st.map (qv ad sa))) := by
  obtain ⟨x, z, r, rfl, hk⟩ := qgo_li (f := fun x y => ((l1 x).toUInt64 >>> ((i1 y).toInt64.toUInt64 &&& Int64.toUInt64 63)).toInt64.toInt) (pc := pc + 1) h
  exact lv_lushr C.x C.b hd (l1_toInt _).symm (C.goS hk (ok_cons (show _ ∧ _ from rng64 _) (ok_tl (ok_tl C.hst))))
theorem qs_i2l (C : qC l D cy sa tb y lim ls st M Rr p e R s m args below meth c A H locs cells slots ad ad0 lsA c0 s0 n0 Q)  (hd : decode (qby y) pc = .ok (.i2l, 1)) (h : qgo (qS l D cy sa tb) y lim M Rr (qstp tb lim pc (.i2l) 1 a b v ls st M)) : W p l e R s m args below meth c H locs cells slots Q (F0 m pc lsA (st.map (qv ad sa))) := by
  obtain ⟨x, r, rfl, hk⟩ := qgo_un (t := 0) (u := 1) (f := fun x => x) (pc := pc + 1) h
  have hx : -2147483648 ≤ x ∧ x < 2147483648 := ok_hd C.hst
  refine lv_i2l C.x C.b hd ?_ (C.goS hk (ok_cons (show _ ∧ _ from ⟨by omega, by omega⟩) (ok_tl C.hst)))
  apply Int64.toInt_inj.mp
  rw [Int32.toInt_toInt64, toInt_i1 hx, toInt_l1 ⟨by omega, by omega⟩]
theorem qs_l2i (C : qC l D cy sa tb y lim ls st M Rr p e R s m args below meth c A H locs cells slots ad ad0 lsA c0 s0 n0 Q)  (hd : decode (qby y) pc = .ok (.l2i, 1)) (h : qgo (qS l D cy sa tb) y lim M Rr (qstp tb lim pc (.l2i) 1 a b v ls st M)) : W p l e R s m args below meth c H locs cells slots Q (F0 m pc lsA (st.map (qv ad sa))) := by
  obtain ⟨x, r, rfl, hk⟩ := qgo_un (t := 1) (u := 0) (f := fun x => w32 x) (pc := pc + 1) h
  refine lv_l2i C.x C.b hd ?_ (C.goS hk (ok_cons (show _ ∧ _ from w32_rng _) (ok_tl C.hst)))
  rw [i1_w32]
  exact Int64.toInt32_ofInt
theorem qs_i2f (C : qC l D cy sa tb y lim ls st M Rr p e R s m args below meth c A H locs cells slots ad ad0 lsA c0 s0 n0 Q)  (hd : decode (qby y) pc = .ok (.i2f, 1)) (h : qgo (qS l D cy sa tb) y lim M Rr (qstp tb lim pc (.i2f) 1 a b v ls st M)) : W p l e R s m args below meth c H locs cells slots Q (F0 m pc lsA (st.map (qv ad sa))) := by
  obtain ⟨x, r, rfl, hk⟩ := qgo_un (t := 0) (u := 2) (f := fun x => ((FP.i2f (i1 x)).toNat : Int)) (pc := pc + 1) h
  have k := C.goS hk (ok_cons (show _ ∧ _ from frng _) (ok_tl C.hst))
  rw [List.map_cons, qv2, f1_toNat] at k
  exact lv_i2f C.x C.b hd k
theorem qs_d2i (C : qC l D cy sa tb y lim ls st M Rr p e R s m args below meth c A H locs cells slots ad ad0 lsA c0 s0 n0 Q)  (hd : decode (qby y) pc = .ok (.d2i, 1)) (h : qgo (qS l D cy sa tb) y lim M Rr (qstp tb lim pc (.d2i) 1 a b v ls st M)) : W p l e R s m args below meth c H locs cells slots Q (F0 m pc lsA (st.map (qv ad sa))) := by
  obtain ⟨x, r, rfl, hk⟩ := qgo_un (t := 4) (u := 0) (f := fun x => (FP.d2i (d1 x)).toInt) (pc := pc + 1) h
  have k := C.goS hk (ok_cons (show _ ∧ _ from rng32 _) (ok_tl C.hst))
  rw [List.map_cons, qv0, i1_toInt] at k
  exact lv_d2i C.x C.b hd k
theorem qs_f2d (C : qC l D cy sa tb y lim ls st M Rr p e R s m args below meth c A H locs cells slots ad ad0 lsA c0 s0 n0 Q)  (hd : decode (qby y) pc = .ok (.f2d, 1)) (h : qgo (qS l D cy sa tb) y lim M Rr (qstp tb lim pc (.f2d) 1 a b v ls st M)) : W p l e R s m args below meth c H locs cells slots Q (F0 m pc lsA (st.map (qv ad sa))) := by
  cases st with
  | nil => exact h.elim
  | cons x r =>
    obtain ⟨t, x⟩ := x
    obtain ⟨hg, h0⟩ := (h : (t == 2 && decide (FP.f2d (f1 x) &&& 0x7fffffffffffffff ≤ 0x7ff0000000000000)) = true ∧ qS l D cy sa tb y lim (pc + 1) ls ((4, ((FP.f2d (f1 x)).toNat : Int)) :: r) M Rr)
    simp only [Bool.and_eq_true, beq_iff_eq, decide_eq_true_eq] at hg
    obtain ⟨rfl, hz⟩ := hg
    have k := C.goS h0 (ok_cons (show _ ∧ _ from drng _) (ok_tl C.hst))
    rw [List.map_cons, qv4, d1_toNat] at k
    exact lv_f2d C.x C.b hd hz k
theorem qs_fadd (C : qC l D cy sa tb y lim ls st M Rr p e R s m args below meth c A H locs cells slots ad ad0 lsA c0 s0 n0 Q)  (hd : decode (qby y) pc = .ok (.fadd, 1)) (h : qgo (qS l D cy sa tb) y lim M Rr (qstp tb lim pc (.fadd) 1 a b v ls st M)) : W p l e R s m args below meth c H locs cells slots Q (F0 m pc lsA (st.map (qv ad sa))) := by
  obtain ⟨x, z, r, rfl, hz, hk⟩ := qgo_ff (f := FP.fadd) (pc := pc + 1) h
  have k := C.goS hk (ok_cons (show _ ∧ _ from frng _) (ok_tl (ok_tl C.hst)))
  rw [List.map_cons, qv2, f1_toNat] at k
  exact lv_fadd C.x C.b hd hz k
theorem qs_fsub (C : qC l D cy sa tb y lim ls st M Rr p e R s m args below meth c A H locs cells slots ad ad0 lsA c0 s0 n0 Q)  (hd : decode (qby y) pc = .ok (.fsub, 1)) (h : qgo (qS l D cy sa tb) y lim M Rr (qstp tb lim pc (.fsub) 1 a b v ls st M)) : W p l e R s m args below meth c H locs cells slots Q (F0 m pc lsA (st.map (qv ad sa))) := by
  obtain ⟨x, z, r, rfl, hz, hk⟩ := qgo_ff (f := FP.fsub) (pc := pc + 1) h
  have k := C.goS hk (ok_cons (show _ ∧ _ from frng _) (ok_tl (ok_tl C.hst)))
  rw [List.map_cons, qv2, f1_toNat] at k
  exact lv_fsub C.x C.b hd hz k
theorem qs_fmul (C : qC l D cy sa tb y lim ls st M Rr p e R s m args below meth c A H locs cells slots ad ad0 lsA c0 s0 n0 Q)  (hd : decode (qby y) pc = .ok (.fmul, 1)) (h : qgo (qS l D cy sa tb) y lim M Rr (qstp tb lim pc (.fmul) 1 a b v ls st M)) : W p l e R s m args below meth c H locs cells slots Q (F0 m pc lsA (st.map (qv ad sa))) := by
  obtain ⟨x, z, r, rfl, hz, hk⟩ := qgo_ff (f := FP.fmul) (pc := pc + 1) h
  have k := C.goS hk (ok_cons (show _ ∧ _ from frng _) (ok_tl (ok_tl C.hst)))
  rw [List.map_cons, qv2, f1_toNat] at k
  exact lv_fmul C.x C.b hd hz k
theorem qs_dmul (C : qC l D cy sa tb y lim ls st M Rr p e R s m args below meth c A H locs cells slots ad ad0 lsA c0 s0 n0 Q)  (hd : decode (qby y) pc = .ok (.dmul, 1)) (h : qgo (qS l D cy sa tb) y lim M Rr (qstp tb lim pc (.dmul) 1 a b v ls st M)) : W p l e R s m args below meth c H locs cells slots Q (F0 m pc lsA (st.map (qv ad sa))) := by
  obtain ⟨x, z, r, rfl, hz, hk⟩ := qgo_dd (f := FP.dmul) (pc := pc + 1) h
  have k := C.goS hk (ok_cons (show _ ∧ _ from drng _) (ok_tl (ok_tl C.hst)))
  rw [List.map_cons, qv4, d1_toNat] at k
  exact lv_dmul C.x C.b hd hz k
theorem qs_ddiv (C : qC l D cy sa tb y lim ls st M Rr p e R s m args below meth c A H locs cells slots ad ad0 lsA c0 s0 n0 Q)  (hd : decode (qby y) pc = .ok (.ddiv, 1)) (h : qgo (qS l D cy sa tb) y lim M Rr (qstp tb lim pc (.ddiv) 1 a b v ls st M)) : W p l e R s m args below meth c H locs cells slots Q (F0 m pc lsA (st.map (qv ad sa))) := by
  obtain ⟨x, z, r, rfl, hz, hk⟩ := qgo_dd (f := FP.ddiv) (pc := pc + 1) h
  have k := C.goS hk (ok_cons (show _ ∧ _ from drng _) (ok_tl (ok_tl C.hst)))
  rw [List.map_cons, qv4, d1_toNat] at k
  exact lv_ddiv C.x C.b hd hz k
theorem qs_lcmp (C : qC l D cy sa tb y lim ls st M Rr p e R s m args below meth c A H locs cells slots ad ad0 lsA c0 s0 n0 Q)  (hd : decode (qby y) pc = .ok (.lcmp, 1)) (h : qgo (qS l D cy sa tb) y lim M Rr (qstp tb lim pc (.lcmp) 1 a b v ls st M)) : W p l e R s m args below meth c H locs cells slots Q (F0 m pc lsA (st.map (qv ad sa))) := by
  obtain ⟨x, z, r, rfl, hk⟩ := qgo_cmp (t := 1) (f := fun x y => if y < x then 1 else if x = y then 0 else -1) (pc := pc + 1) h
  have hz : -9223372036854775808 ≤ z ∧ z < 9223372036854775808 := ok_hd C.hst
  have hx : -9223372036854775808 ≤ x ∧ x < 9223372036854775808 := ok_hd (ok_tl C.hst)
  have e1 : i1 (if z < x then 1 else if x = z then 0 else -1) = lg_cmp (l1 x) (l1 z) := by
    unfold lg_cmp
    have g1 : (l1 x > l1 z) ↔ z < x := by show l1 z < l1 x ↔ _; rw [Int64.lt_iff_toInt_lt, toInt_l1 hx, toInt_l1 hz]
    have g2 : (l1 x = l1 z) ↔ x = z := ⟨fun q => by have := congrArg Int64.toInt q; rwa [toInt_l1 hx, toInt_l1 hz] at this, fun q => by rw [q]⟩
    by_cases q1 : z < x
    · rw [if_pos q1, if_pos (g1.mpr q1)]; rfl
    · rw [if_neg q1, if_neg (fun q => q1 (g1.mp q))]
      by_cases q2 : x = z
      · rw [if_pos q2, if_pos (g2.mpr q2)]; rfl
      · rw [if_neg q2, if_neg (fun q => q2 (g2.mp q))]; rfl
  have e2 : qok M.1.length (0, if z < x then 1 else if x = z then 0 else -1) := by
    show _ ∧ _
    by_cases q1 : z < x
    · simp only [if_pos q1]; omega
    · by_cases q2 : x = z
      · simp only [if_neg q1, if_pos q2]; omega
      · simp only [if_neg q1, if_neg q2]; omega
  have k := C.goS hk (ok_cons e2 (ok_tl (ok_tl C.hst)))
  rw [List.map_cons, qv0, e1] at k
  exact W.lcmp C.x C.b hd k
theorem qs_fcmp (C : qC l D cy sa tb y lim ls st M Rr p e R s m args below meth c A H locs cells slots ad ad0 lsA c0 s0 n0 Q) {o : CmpOp} (hd : decode (qby y) pc = .ok (.fcmp o, 1)) (h : qgo (qS l D cy sa tb) y lim M Rr (qstp tb lim pc (.fcmp o) 1 a b v ls st M)) : W p l e R s m args below meth c H locs cells slots Q (F0 m pc lsA (st.map (qv ad sa))) := by
  obtain ⟨x, z, r, rfl, hk⟩ := qgo_cmp (t := 2) (f := fun x y => (Op.cmpValue (FP.fcmp (f1 x) (f1 y)) o).toInt) (pc := pc + 1) h
  have k := C.goS hk (ok_cons (show _ ∧ _ from rng32 _) (ok_tl (ok_tl C.hst)))
  rw [List.map_cons, qv0, i1_toInt] at k
  exact lv_fcmp C.x C.b hd k
theorem qs_dcmp (C : qC l D cy sa tb y lim ls st M Rr p e R s m args below meth c A H locs cells slots ad ad0 lsA c0 s0 n0 Q) {o : CmpOp} (hd : decode (qby y) pc = .ok (.dcmp o, 1)) (h : qgo (qS l D cy sa tb) y lim M Rr (qstp tb lim pc (.dcmp o) 1 a b v ls st M)) : W p l e R s m args below meth c H locs cells slots Q (F0 m pc lsA (st.map (qv ad sa))) := by
  obtain ⟨x, z, r, rfl, hk⟩ := qgo_cmp (t := 4) (f := fun x y => (Op.cmpValue (FP.dcmp (d1 x) (d1 y)) o).toInt) (pc := pc + 1) h
  have k := C.goS hk (ok_cons (show _ ∧ _ from rng32 _) (ok_tl (ok_tl C.hst)))
  rw [List.map_cons, qv0, i1_toInt] at k
  exact lv_dcmp C.x C.b hd k
theorem qs_dup (C : qC l D cy sa tb y lim ls st M Rr p e R s m args below meth c A H locs cells slots ad ad0 lsA c0 s0 n0 Q)  (hd : decode (qby y) pc = .ok (.dup, 1)) (h : qgo (qS l D cy sa tb) y lim M Rr (qstp tb lim pc (.dup) 1 a b v ls st M)) : W p l e R s m args below meth c H locs cells slots Q (F0 m pc lsA (st.map (qv ad sa))) := by
  cases st with
  | nil => exact h.elim
  | cons x r =>
    obtain ⟨hg, h0⟩ := (h : (qcat x.1 == 1) = true ∧ qS l D cy sa tb y lim (pc + 1) ls (x :: x :: r) M Rr)
    exact lv_dup C.x C.b hd (by rw [qv_cat (ok_hd C.hst)]; simpa using hg) (C.goS h0 (ok_cons (ok_hd C.hst) C.hst))
theorem qs_pop (C : qC l D cy sa tb y lim ls st M Rr p e R s m args below meth c A H locs cells slots ad ad0 lsA c0 s0 n0 Q)  (hd : decode (qby y) pc = .ok (.pop, 1)) (h : qgo (qS l D cy sa tb) y lim M Rr (qstp tb lim pc (.pop) 1 a b v ls st M)) : W p l e R s m args below meth c H locs cells slots Q (F0 m pc lsA (st.map (qv ad sa))) := by
  cases st with
  | nil => exact h.elim
  | cons x r =>
    obtain ⟨hg, h0⟩ := (h : (qcat x.1 == 1) = true ∧ qS l D cy sa tb y lim (pc + 1) ls r M Rr)
    exact lv_pop C.x C.b hd (by rw [qv_cat (ok_hd C.hst)]; simpa using hg) (C.goS h0 (ok_tl C.hst))
theorem qcat12 (t : Nat) : qcat t = 1 ∨ qcat t = 2 := by
  unfold qcat
  by_cases h1 : t = 1
  · rw [if_pos h1]; exact Or.inr rfl
  · rw [if_neg h1]
    by_cases h2 : t = 4
    · rw [if_pos h2]; exact Or.inr rfl
    · rw [if_neg h2]; exact Or.inl rfl
theorem qs_dup2 (C : qC l D cy sa tb y lim ls st M Rr p e R s m args below meth c A H locs cells slots ad ad0 lsA c0 s0 n0 Q)  (hd : decode (qby y) pc = .ok (.dup2, 1)) (h : qgo (qS l D cy sa tb) y lim M Rr (qstp tb lim pc (.dup2) 1 a b v ls st M)) : W p l e R s m args below meth c H locs cells slots Q (F0 m pc lsA (st.map (qv ad sa))) := by
  cases st with
  | nil => exact h.elim
  | cons x r =>
    by_cases hx : qcat x.1 = 2
    · have h0 : qgo (qS l D cy sa tb) y lim M Rr (if qcat x.1 = 2 then qnx true (pc + 1) ls (x :: x :: r) M else match (generalizing := false) r with
        | z :: r2 => qnx (qcat z.1 == 1) (pc + 1) ls (x :: z :: x :: z :: r2) M
        | _ => none) := h
      rw [if_pos hx] at h0
      exact lv_dup2_2 C.x C.b hd (by rw [qv_cat (ok_hd C.hst)]; exact hx) (C.goS h0.2 (ok_cons (ok_hd C.hst) C.hst))
    · have h0 : qgo (qS l D cy sa tb) y lim M Rr (if qcat x.1 = 2 then qnx true (pc + 1) ls (x :: x :: r) M else match (generalizing := false) r with
        | z :: r2 => qnx (qcat z.1 == 1) (pc + 1) ls (x :: z :: x :: z :: r2) M
        | _ => none) := h
      rw [if_neg hx] at h0
      cases r with
      | nil => exact h0.elim
      | cons z r2 =>
        obtain ⟨hg, h1⟩ := (h0 : (qcat z.1 == 1) = true ∧ qS l D cy sa tb y lim (pc + 1) ls (x :: z :: x :: z :: r2) M Rr)
        have h2 : qcat x.1 = 1 := (qcat12 x.1).resolve_right hx
        exact lv_dup2_11 C.x C.b hd (by rw [qv_cat (ok_hd C.hst)]; exact h2) (by rw [qv_cat (ok_hd (ok_tl C.hst))]; simpa using hg) (C.goS h1 (ok_cons (ok_hd C.hst) (ok_cons (ok_hd (ok_tl C.hst)) C.hst)))
theorem qtgt_ok {pc : Nat} {off : Int} (h : 0 ≤ (pc : Int) + off) : (pc : Int) + off = ((qtgt pc off : Nat) : Int) := by unfold qtgt; omega
theorem qs_if1 (C : qC l D cy sa tb y lim ls st M Rr p e R s m args below meth c A H locs cells slots ad ad0 lsA c0 s0 n0 Q) {k : ClassFile.Cond} {off : Int} (ho : 0 ≤ (pc : Int) + off) (hd : decode (qby y) pc = .ok (.ifCond k off, 3)) (h : qgo (qS l D cy sa tb) y lim M Rr (qstp tb lim pc (.ifCond k off) 3 a b v ls st M)) : W p l e R s m args below meth c H locs cells slots Q (F0 m pc lsA (st.map (qv ad sa))) := by
  obtain ⟨x, r, rfl, hk⟩ := qgo_if1 h
  have hx : -2147483648 ≤ x ∧ x < 2147483648 := ok_hd C.hst
  have hz : -2147483648 ≤ (0 : Int) ∧ (0 : Int) < 2147483648 := ⟨by omega, by omega⟩
  have ho2 := ok_tl C.hst
  have kt : ∀ {q : Prop} {_ : Decidable q} {a1 b1 : Nat}, qS l D cy sa tb y lim (if q then a1 else b1) ls r M Rr → q → W p l e R s m args below meth c H locs cells slots Q (F0 m a1 lsA (r.map (qv ad sa))) := fun hq q1 => by rw [if_pos q1] at hq; exact C.goS hq ho2
  have kf : ∀ {q : Prop} {_ : Decidable q} {a1 b1 : Nat}, qS l D cy sa tb y lim (if q then a1 else b1) ls r M Rr → ¬ q → W p l e R s m args below meth c H locs cells slots Q (F0 m b1 lsA (r.map (qv ad sa))) := fun hq q1 => by rw [if_neg q1] at hq; exact C.goS hq ho2
  cases k with
  | eq =>
    have h : qS l D cy sa tb y lim (if x = (0 : Int) then qtgt pc off else pc + 3) ls r M Rr := hk
    exact lv_if_eq C.x C.b hd (qtgt_ok ho) (fun q => kt h ((eq_i1 hx hz).mp q)) (fun q => kf h (fun q2 => q ((eq_i1 hx hz).mpr q2)))
  | ne =>
    have h : qS l D cy sa tb y lim (if x = (0 : Int) then pc + 3 else qtgt pc off) ls r M Rr := hk
    exact lv_if_ne C.x C.b hd (qtgt_ok ho) (fun q => kf h (fun q2 => q ((eq_i1 hx hz).mpr q2))) (fun q => kt h ((eq_i1 hx hz).mp q))
  | lt =>
    have h : qS l D cy sa tb y lim (if x < (0 : Int) then qtgt pc off else pc + 3) ls r M Rr := hk
    exact lv_if_lt C.x C.b hd (qtgt_ok ho) (fun q => kt h ((lt_i1 hx hz).mp q)) (fun q => kf h (fun q2 => q ((lt_i1 hx hz).mpr q2)))
  | ge =>
    have h : qS l D cy sa tb y lim (if x < (0 : Int) then pc + 3 else qtgt pc off) ls r M Rr := hk
    exact lv_if_ge C.x C.b hd (qtgt_ok ho) (fun q => kf h (by have := (le_i1 hz hx).mp q; omega)) (fun q => kt h (Classical.byContradiction fun q2 => q ((le_i1 hz hx).mpr (by omega))))
  | gt =>
    have h : qS l D cy sa tb y lim (if (0 : Int) < x then qtgt pc off else pc + 3) ls r M Rr := hk
    exact lv_if_gt C.x C.b hd (qtgt_ok ho) (fun q => kt h ((lt_i1 hz hx).mp q)) (fun q => kf h (fun q2 => q ((lt_i1 hz hx).mpr q2)))
  | le =>
    have h : qS l D cy sa tb y lim (if (0 : Int) < x then pc + 3 else qtgt pc off) ls r M Rr := hk
    exact lv_if_le C.x C.b hd (qtgt_ok ho) (fun q => kf h (by have := (le_i1 hx hz).mp q; omega)) (fun q => kt h (Classical.byContradiction fun q2 => q ((le_i1 hx hz).mpr (by omega))))
theorem qs_if2 (C : qC l D cy sa tb y lim ls st M Rr p e R s m args below meth c A H locs cells slots ad ad0 lsA c0 s0 n0 Q) {k : ClassFile.Cond} {off : Int} (ho : 0 ≤ (pc : Int) + off) (hd : decode (qby y) pc = .ok (.if_icmp k off, 3)) (h : qgo (qS l D cy sa tb) y lim M Rr (qstp tb lim pc (.if_icmp k off) 3 a b v ls st M)) : W p l e R s m args below meth c H locs cells slots Q (F0 m pc lsA (st.map (qv ad sa))) := by
  obtain ⟨x, z, r, rfl, hk⟩ := qgo_if2 h
  have hz : -2147483648 ≤ z ∧ z < 2147483648 := ok_hd C.hst
  have hx : -2147483648 ≤ x ∧ x < 2147483648 := ok_hd (ok_tl C.hst)
  have ho2 := ok_tl (ok_tl C.hst)
  have kt : ∀ {q : Prop} {_ : Decidable q} {a1 b1 : Nat}, qS l D cy sa tb y lim (if q then a1 else b1) ls r M Rr → q → W p l e R s m args below meth c H locs cells slots Q (F0 m a1 lsA (r.map (qv ad sa))) := fun hq q1 => by rw [if_pos q1] at hq; exact C.goS hq ho2
  have kf : ∀ {q : Prop} {_ : Decidable q} {a1 b1 : Nat}, qS l D cy sa tb y lim (if q then a1 else b1) ls r M Rr → ¬ q → W p l e R s m args below meth c H locs cells slots Q (F0 m b1 lsA (r.map (qv ad sa))) := fun hq q1 => by rw [if_neg q1] at hq; exact C.goS hq ho2
  cases k with
  | eq =>
    have h : qS l D cy sa tb y lim (if x = z then qtgt pc off else pc + 3) ls r M Rr := hk
    exact lv_icmp_eq C.x C.b hd (qtgt_ok ho) (fun q => kt h ((eq_i1 hx hz).mp q)) (fun q => kf h (fun q2 => q ((eq_i1 hx hz).mpr q2)))
  | ne =>
    have h : qS l D cy sa tb y lim (if x = z then pc + 3 else qtgt pc off) ls r M Rr := hk
    exact lv_icmp_ne C.x C.b hd (qtgt_ok ho) (fun q => kf h (fun q2 => q ((eq_i1 hx hz).mpr q2))) (fun q => kt h ((eq_i1 hx hz).mp q))
  | lt =>
    have h : qS l D cy sa tb y lim (if x < z then qtgt pc off else pc + 3) ls r M Rr := hk
    exact lv_icmp_lt C.x C.b hd (qtgt_ok ho) (fun q => kt h ((lt_i1 hx hz).mp q)) (fun q => kf h (fun q2 => q ((lt_i1 hx hz).mpr q2)))
  | ge =>
    have h : qS l D cy sa tb y lim (if x < z then pc + 3 else qtgt pc off) ls r M Rr := hk
    exact lv_icmp_ge C.x C.b hd (qtgt_ok ho) (fun q => kf h (by have := (le_i1 hz hx).mp q; omega)) (fun q => kt h (Classical.byContradiction fun q2 => q ((le_i1 hz hx).mpr (by omega))))
  | gt =>
    have h : qS l D cy sa tb y lim (if z < x then qtgt pc off else pc + 3) ls r M Rr := hk
    exact lv_icmp_gt C.x C.b hd (qtgt_ok ho) (fun q => kt h ((lt_i1 hz hx).mp q)) (fun q => kf h (fun q2 => q ((lt_i1 hz hx).mpr q2)))
  | le =>
    have h : qS l D cy sa tb y lim (if z < x then pc + 3 else qtgt pc off) ls r M Rr := hk
    exact lv_icmp_le C.x C.b hd (qtgt_ok ho) (fun q => kf h (by have := (le_i1 hx hz).mp q; omega)) (fun q => kt h (Classical.byContradiction fun q2 => q ((le_i1 hx hz).mpr (by omega))))
theorem qs_goto (C : qC l D cy sa tb y lim ls st M Rr p e R s m args below meth c A H locs cells slots ad ad0 lsA c0 s0 n0 Q) {off : Int} (ho : 0 ≤ (pc : Int) + off) (hd : decode (qby y) pc = .ok (.goto off, 3)) (h : qgo (qS l D cy sa tb) y lim M Rr (qstp tb lim pc (.goto off) 3 a b v ls st M)) : W p l e R s m args below meth c H locs cells slots Q (F0 m pc lsA (st.map (qv ad sa))) := by
  exact lv_goto C.x C.b hd (qtgt_ok ho) (C.goS h.2 C.hst)
theorem qs_tsw (C : qC l D cy sa tb y lim ls st M Rr p e R s m args below meth c A H locs cells slots ad ad0 lsA c0 s0 n0 Q) {d lo hi : Int} {offs : Array Int} {len : Nat} (h1 : 0 ≤ (pc : Int) + d) (h2 : lo ≤ hi) (h3 : (offs.size : Int) = hi - lo + 1) (h4 : ∀ q ∈ offs.toList, 0 ≤ (pc : Int) + q) (hd : decode (qby y) pc = .ok (.tableswitch d lo hi offs, len)) (h : qgo (qS l D cy sa tb) y lim M Rr (qstp tb lim pc (.tableswitch d lo hi offs) len a b v ls st M)) : W p l e R s m args below meth c H locs cells slots Q (F0 m pc lsA (st.map (qv ad sa))) := by
  cases st with
  | nil => exact h.elim
  | cons x r =>
    obtain ⟨t, x⟩ := x
    obtain ⟨hg, h0⟩ := (h : (t == 0) = true ∧ qS l D cy sa tb y lim (if x < lo then qtgt pc d else if hi < x then qtgt pc d else qtgt pc (offs.toList.getD (x - lo).toNat d)) ls r M Rr)
    have : t = 0 := by simpa using hg
    subst this
    have hx : -2147483648 ≤ x ∧ x < 2147483648 := ok_hd C.hst
    by_cases q1 : x < lo
    · rw [if_pos q1] at h0
      exact lv_tableOut C.x C.b hd (Or.inl (by rw [toInt_i1 hx]; exact q1)) (qtgt_ok h1) (C.goS h0 (ok_tl C.hst))
    · rw [if_neg q1] at h0
      by_cases q2 : hi < x
      · rw [if_pos q2] at h0
        exact lv_tableOut C.x C.b hd (Or.inr (by rw [toInt_i1 hx]; exact q2)) (qtgt_ok h1) (C.goS h0 (ok_tl C.hst))
      · rw [if_neg q2] at h0
        have hlt : (x - lo).toNat < offs.size := by omega
        have e1 : offs[(x - lo).toNat]? = some offs[(x - lo).toNat] := Array.getElem?_eq_getElem hlt
        have e2 : offs.toList.getD (x - lo).toNat d = offs[(x - lo).toNat] := by
          rw [List.getD_eq_getElem?_getD, Array.getElem?_toList, e1]
          rfl
        rw [e2] at h0
        exact lv_tableIn C.x C.b hd (by rw [toInt_i1 hx]; exact q1) (by rw [toInt_i1 hx]; exact q2) (by rw [toInt_i1 hx]; exact e1) (qtgt_ok (h4 _ (by rw [← Array.getElem_toList hlt]; exact List.getElem_mem _))) (C.goS h0 (ok_tl C.hst))
theorem qlk_off (pc : Nat) (d x : Int) : ∀ (l : List (Int × Int)), 0 ≤ (pc : Int) + d → (∀ q ∈ l, 0 ≤ (pc : Int) + q.2) → 0 ≤ (pc : Int) + Op.lookupswitch.offset l d x
  | [], h, _ => h
  | q :: r, h, hq => by
    unfold Op.lookupswitch.offset
    split
    · exact hq q List.mem_cons_self
    · exact qlk_off pc d x r h (fun z hz => hq z (List.mem_cons_of_mem _ hz))
theorem qs_lsw (C : qC l D cy sa tb y lim ls st M Rr p e R s m args below meth c A H locs cells slots ad ad0 lsA c0 s0 n0 Q) {d : Int} {ps : Array (Int × Int)} {len : Nat} (h1 : 0 ≤ (pc : Int) + d) (h2 : ∀ q ∈ ps.toList, 0 ≤ (pc : Int) + q.2) (h3 : (ps.toList.zip (ps.toList.drop 1)).all (fun (a, next) => a.1 < next.1) = true) (hd : decode (qby y) pc = .ok (.lookupswitch d ps, len)) (h : qgo (qS l D cy sa tb) y lim M Rr (qstp tb lim pc (.lookupswitch d ps) len a b v ls st M)) : W p l e R s m args below meth c H locs cells slots Q (F0 m pc lsA (st.map (qv ad sa))) := by
  cases st with
  | nil => exact h.elim
  | cons x r =>
    obtain ⟨t, x⟩ := x
    obtain ⟨hg, h0⟩ := (h : (t == 0) = true ∧ qS l D cy sa tb y lim (qtgt pc (Op.lookupswitch.offset ps.toList d x)) ls r M Rr)
    have : t = 0 := by simpa using hg
    subst this
    have hx : -2147483648 ≤ x ∧ x < 2147483648 := ok_hd C.hst
    exact lv_lookup C.x C.b hd h3 (by rw [toInt_i1 hx]) (qtgt_ok (qlk_off pc d x ps.toList h1 h2)) (C.goS h0 (ok_tl C.hst))
theorem qs_ireturn (C : qC l D cy sa tb y lim ls st M Rr p e R s m args below meth c A H locs cells slots ad ad0 lsA c0 s0 n0 Q) (hr : (a = 0 ∧ qrt y = some .int) ∨ (a = 1 ∧ qrt y = some .boolean)) (hd : decode (qby y) pc = .ok (.ireturn, 1)) (h : qgo (qS l D cy sa tb) y lim M Rr (qstp tb lim pc (.ireturn) 1 a b v ls st M)) : W p l e R s m args below meth c H locs cells slots Q (F0 m pc lsA (st.map (qv ad sa))) := by
  obtain ⟨t, x, rfl, hg, h0⟩ := qgo_ret (t := 0) (a := a) h
  simp only [Bool.and_eq_true, Bool.or_eq_true, beq_iff_eq] at hg
  obtain ⟨rfl, hg⟩ := hg
  refine C.2.2.2.2.2.2.2 pc (some (0, x)) M H locs cells slots ad lsA h0 C.hH (fun q hq => by cases hq; exact ok_hd C.hst) (Or.inl ⟨x, rfl, hd, ?_⟩)
  rcases hr with ⟨rfl, hr⟩ | ⟨rfl, hr⟩
  · exact Or.inl hr
  · exact Or.inr ⟨hr, hg.resolve_left (by decide)⟩
theorem qs_lreturn (C : qC l D cy sa tb y lim ls st M Rr p e R s m args below meth c A H locs cells slots ad ad0 lsA c0 s0 n0 Q) (hr : qrt y = some .long) (hd : decode (qby y) pc = .ok (.lreturn, 1)) (h : qgo (qS l D cy sa tb) y lim M Rr (qstp tb lim pc (.lreturn) 1 a b v ls st M)) : W p l e R s m args below meth c H locs cells slots Q (F0 m pc lsA (st.map (qv ad sa))) := by
  obtain ⟨t, x, rfl, hg, h0⟩ := qgo_ret (t := 1) (a := a) h
  simp only [Bool.and_eq_true, Bool.or_eq_true, beq_iff_eq] at hg
  obtain ⟨rfl, hg⟩ := hg
  exact C.2.2.2.2.2.2.2 pc (some (1, x)) M H locs cells slots ad lsA h0 C.hH (fun q hq => by cases hq; exact ok_hd C.hst) (Or.inr (Or.inl ⟨x, rfl, hd, hr⟩))
theorem qs_return (C : qC l D cy sa tb y lim ls st M Rr p e R s m args below meth c A H locs cells slots ad ad0 lsA c0 s0 n0 Q) (hr : qrt y = none) (hd : decode (qby y) pc = .ok (.return_, 1)) (h : qgo (qS l D cy sa tb) y lim M Rr (qstp tb lim pc (.return_) 1 a b v ls st M)) : W p l e R s m args below meth c H locs cells slots Q (F0 m pc lsA (st.map (qv ad sa))) := by
  cases st with
  | nil => exact C.2.2.2.2.2.2.2 pc none M H locs cells slots ad lsA (h : true = true ∧ Rr none M).2 C.hH (fun q hq => by cases hq) (Or.inr (Or.inr ⟨rfl, hd, hr⟩))
  | cons x r => exact h.elim
end QPURE
