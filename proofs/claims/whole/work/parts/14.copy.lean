/-- the rooms that a call asks for, and its parameters -/
def qrm (y v a : Nat) : Bool := if v = 6 then decide (1 ≤ qfr y) && decide (20 ≤ qlo y) else if v = 7 then decide (1 ≤ qfr y) && decide (26 ≤ qlo y) else if v = 8 then decide (1 ≤ qfr y) && decide (21 ≤ qlo y) else if v = 9 then decide (1 ≤ qfr y) && decide (21 ≤ qlo y) else decide (qfr a + 1 ≤ qfr y) && decide (8 + (qmx a + 11) + qlo a ≤ qlo y)
def qrme (y : Nat) (e : qI) : Bool := match e.2.1 with
  | .invokevirtual _ => qrm y e.2.2.2.2.2.toNat e.2.2.2.1
  | .invokestatic _ => qrm y e.2.2.2.2.2.toNat e.2.2.2.1
  | .invokespecial _ => qrm y e.2.2.2.2.2.toNat e.2.2.2.1
  | _ => true
theorem qrm_1 : (List.range 60).all (fun y => (qcodes.getD y []).all (qrme y)) = true := by decide +kernel
theorem qrm_2 : (List.range 60).all (fun y => (qcodes.getD (60 + y) []).all (qrme (60 + y))) = true := by decide +kernel
theorem qrm_3 : (List.range 64).all (fun y => (qcodes.getD (120 + y) []).all (qrme (120 + y))) = true := by decide +kernel
theorem qrm_ok {y pc : Nat} {e : qI} (hy : y < 184) (h : qcd y pc = some e) : qrme y e = true := by
  obtain ⟨h1, -⟩ := qfind_spec h
  by_cases a1 : y < 60
  · exact List.all_eq_true.mp (List.all_eq_true.mp qrm_1 y (List.mem_range.mpr a1)) e h1
  · by_cases a2 : y < 120
    · have h2 := List.all_eq_true.mp qrm_2 (y - 60) (List.mem_range.mpr (by omega))
      rw [show 60 + (y - 60) = y by omega] at h2
      exact List.all_eq_true.mp h2 e h1
    · have h2 := List.all_eq_true.mp qrm_3 (y - 120) (List.mem_range.mpr (by omega))
      rw [show 120 + (y - 120) = y by omega] at h2
      exact List.all_eq_true.mp h2 e h1
theorem qpar_ok : ∀ r ∈ qml, r.2.2.2.2 = 6 ∨ r.2.2.2.2 = 7 ∨ r.2.2.2.2 = 8 ∨ r.2.2.2.2 = 9 ∨ ((parseMethodDescriptor (qnm r.2.2.1).desc).map (fun d => d.parameters.length) = some r.2.2.2.1 ∧ r.2.2.1 < 183 ∧ qow r.2.2.1 ≠ 11) := by decide +kernel
theorem qcls_ok : ∀ y : Nat, y < 184 → (qnm y).cls = qos (qow y) := by decide +kernel
theorem qplain : ∀ k : Nat, k < 14 → k ≠ 11 → plainName (qos k) = true ∧ qos k ≠ "java/lang/invoke/MethodHandle" ∧ qos k ≠ "java/lang/invoke/VarHandle" := by decide +kernel
theorem qow_lt : ∀ y : Nat, y < 184 → qow y < 14 := by decide +kernel
theorem qini_ok : ∀ y ∈ qinits, (qnm y).name = "<init>" ∧ qrt y = none := by decide +kernel
theorem cpy_i1 (f g : Nat → Int) (sp dp n : Nat) : (fun j => i1 (va_cpy f g sp dp n j)) = va_cpy (fun j => i1 (f j)) (fun j => i1 (g j)) sp dp n := by
  funext j
  unfold va_cpy
  by_cases h : dp ≤ j ∧ j < dp + n
  · rw [if_pos h, if_pos h]
  · rw [if_neg h, if_neg h]
theorem cpy_ok {P : Int → Prop} {f g : Nat → Int} {sp dp n : Nat} (hf : ∀ j, P (f j)) (hg : ∀ j, P (g j)) : ∀ j, P (va_cpy f g sp dp n j) := fun j => by
  unfold va_cpy
  by_cases h : dp ≤ j ∧ j < dp + n
  · rw [if_pos h]; exact hf _
  · rw [if_neg h]; exact hg _
theorem qk1 {l : List qK} {c : Int} (h0 : 0 ≤ c) (h : qrk l c = 1) : ∃ n, l[c.toNat]? = some (1, n) ∧ qln 1 l c = (n : Int) := by
  obtain ⟨n, hn⟩ := qrk_spec (n := 0) h
  refine ⟨n, hn, ?_⟩
  unfold qln
  rw [if_neg (by omega), hn]
  rfl
theorem qgo_cpy {P : qP} {y : Nat} {lim : Nat × Nat} {M : qM} {R : Option qV → qM → Prop} {pc : Nat} {ls st : List qV} {tb : Nat → Nat × (Nat → Int)} (h : qgo P y lim M R (qcpy tb pc ls st M)) : ∃ n dp z sp x r k1, st = (0, n) :: (0, dp) :: (3, z) :: (0, sp) :: (3, x) :: r ∧ 0 ≤ n ∧ 0 ≤ dp ∧ 0 ≤ sp ∧ 0 ≤ z ∧ qcats r ≤ 8 ∧ M.1[z.toNat]? = some (1, k1) ∧ dp + n ≤ (k1 : Int) ∧
    ((x ≤ -2 ∧ -8 < x ∧ ¬ x = -6 ∧ sp + n ≤ ((tb (-x - 2).toNat).1 : Int) ∧ P y lim pc ls r (M.1, va_up M.2 z.toNat (va_cpy (tb (-x - 2).toNat).2 (M.2 z.toNat) sp.toNat dp.toNat n.toNat)) R) ∨
     (∃ k0, 0 ≤ x ∧ M.1[x.toNat]? = some (1, k0) ∧ sp + n ≤ (k0 : Int) ∧ P y lim pc ls r (M.1, va_up M.2 z.toNat (va_cpy (M.2 x.toNat) (M.2 z.toNat) sp.toNat dp.toNat n.toNat)) R)) := by
  unfold qcpy at h
  split at h
  · next n dp z sp x r =>
    obtain ⟨t0, n⟩ := n
    obtain ⟨t1, dp⟩ := dp
    obtain ⟨t2, z⟩ := z
    obtain ⟨t3, sp⟩ := sp
    obtain ⟨t4, x⟩ := x
    dsimp only at h
    by_cases hx : x < 0
    · rw [if_pos hx] at h
      obtain ⟨hg, h⟩ := h
      simp only [Bool.and_eq_true, beq_iff_eq, Bool.not_eq_true', beq_eq_false_iff_ne, decide_eq_true_eq] at hg
      obtain ⟨rfl, rfl, rfl, rfl, rfl, g1, g2, g3, g4, g5, g6, g7, g8, g9, g10, g11, g12⟩ := hg
      obtain ⟨k1, e1, e2⟩ := qk1 g8 g10
      rw [e2] at g11
      exact ⟨n, dp, z, sp, x, r, k1, rfl, g4, g5, g6, g8, g12, e1, g11, Or.inl ⟨g1, g3, g2, g7, h⟩⟩
    · rw [if_neg hx] at h
      obtain ⟨hg, h⟩ := h
      simp only [Bool.and_eq_true, beq_iff_eq, decide_eq_true_eq] at hg
      obtain ⟨rfl, rfl, rfl, rfl, rfl, g1, g2, g3, g4, g5, g6, g7, g8, g9, g10, g11⟩ := hg
      obtain ⟨k1, e1, e2⟩ := qk1 g7 g9
      obtain ⟨k0, e3, e4⟩ := qk1 (by omega) g5
      rw [e2] at g10
      rw [e4] at g6
      exact ⟨n, dp, z, sp, x, r, k1, rfl, g1, g2, g3, g7, g11, e1, g10, Or.inr ⟨k0, by omega, e3, g6, h⟩⟩
  · exact h.elim
section QCOPY
variable {p : Program} {l : Launch} {e : Env} {R : Room} {s : State} {m : MethodId} {args : Array Value} {below : List Frame} {meth : Method} {c : Code} {H : Heap} {locs : List Loc} {cells slots : Nat} {Q : State → Prop}
variable {pc : Nat} {ls : Array Slot} {rest : List Value} {D : va_G} {cl : List vw_C} {A : Nat → Prop} {a : Nat} {tys : List (ClassId × FieldType)} {ws : va_W}
/-- System.arraycopy out of a table into a cell of the world -/
theorem qcopyT {cc : ByteArray} (hexec : p.tables.exec = Jvm.exec) (hb : c.code = cc) (hml : c.maxLocals = ls.size) {own : String} {index : Nat} (hown : s.vm.findClass own = some m.cls) (hlink : (Cond.methodLink own index arraycopyName).before args s = true) (hnat : (Cond.native arraycopyName).before args s = true) (hstat : (Cond.static arraycopyName).before args s = true) (hini : (Cond.initialized "java/lang/System").before args s = true)
    (hK : va_K D cl tys s) (hP : va_P D cl ws H) (hD : va_D A ws) (hS : va_S A s.heap H locs) {b0 n0 : Nat} {f : Nat → Int32} (hX : va_T .int b0 n0 (fun j => .int (f j)) A s s.heap) (q1 t1 : Nat) {c1 : ClassId} {n1 : Nat} {g : Nat → Int32} (ha1 : ws[q1]? = some (a, .inl (c1, n1, .inl g))) (ht1 : tys[t1]? = some (c1, .int))
    {sp dp n : Int32} (h1 : ¬ sp < 0) (h2 : ¬ dp < 0) (h3 : ¬ n < 0) (h4 : sp.toNatClampNeg + n.toNatClampNeg ≤ n0) (h5 : dp.toNatClampNeg + n.toNatClampNeg ≤ n1)
    (hframes : 1 ≤ R.frames) (hlocals : (rest.map fun v => v.category).sum + (nativeFrameWords "java/lang/System" "arraycopy" 5 + 11) ≤ R.locals) (hdg : decode cc pc = .ok (.invokestatic index, 3))
    (kk : ∀ (H1 : Heap) (locs1 : List Loc), va_P D cl (ws.set q1 (a, .inl (c1, n1, .inl (va_cpy f g sp.toNatClampNeg dp.toNatClampNeg n.toNatClampNeg)))) H1 → va_D A (ws.set q1 (a, .inl (c1, n1, .inl (va_cpy f g sp.toNatClampNeg dp.toNatClampNeg n.toNatClampNeg)))) → va_S A s.heap H1 locs1 → W p l e R s m args below meth c H1 locs1 cells slots Q (F0 m (pc + 3) ls rest)) : W p l e R s m args below meth c H locs cells slots Q (F0 m pc ls (.int n :: .int dp :: .ref a :: .int sp :: .ref b0 :: rest)) := by
  have nn : ∀ z : Int32, ¬ z < 0 → z.toInt = (z.toNatClampNeg : Int) := by
    intro z hz
    have hz0 : (0 : Int) ≤ z.toInt := by
      have := Int32.not_lt.mp hz
      simpa using Int32.le_iff_toInt_le.mp this
    show z.toInt = ((z.toInt.toNat : Nat) : Int)
    omega
  intro T hT X
  obtain ⟨scr, hs1, hs2, hs3, hs4, -, hs5, hbA⟩ := hX
  have hbl : b0 < s.heap.size := (Array.getElem?_eq_some_iff.mp hs1).1
  have hc0 : H[b0]? = some scr := by rw [hS.2.1 b0 hbl hbA]; exact hs1
  have hc1 : H[a]? = some (vp_cell c1 (n1, .inl g)) := hP q1 _ ha1
  obtain ⟨hs6, k0, hk0, cm0, hkk0⟩ := hs2
  obtain ⟨-, k1, hk1, cm1, hkk1⟩ := (hK.2 t1 _ ht1).1 n1 (fun j => .int (g j))
  obtain ⟨vm', X', step⟩ := X.arraycopy hexec hown hlink hnat hstat hini (src := b0) (dst := a) (cs := scr) (cd := vp_cell c1 (n1, .inl g)) (srcPos := sp) (destPos := dp) (n := n) (by rw [hT]; exact hc0) (by rw [hT]; exact hc1)
    hs6 (fun _ h => by cases h) hs3 (fun h => by cases h) hk0 hk1 hkk0 hkk1 (by simp [refKind]) h1 h2 h3
    (by rw [nn sp h1, nn n h3]; omega)
    (by rw [nn dp h2, nn n h3]; show ¬ _ > ((arrV c1 n1 (fun j => .int (g j))).slots.size : Int); rw [arrV_size]; omega)
    (fun vm₁ _ i hi => by
      have e : scr.slots.getD (sp.toNatClampNeg + i) .null = .int (f (sp.toNatClampNeg + i)) := by
        rw [Array.getD_eq_getD_getElem?, hs5 _ (by omega)]
        rfl
      refine ⟨?_, ?_⟩
      · rw [e]
        rfl
      · rw [e]
        exact trivial)
    (g := F0 m pc ls (.int n :: .int dp :: .ref a :: .int sp :: .ref b0 :: rest)) rfl (by rw [hml]) (rest := rest) rfl (by rw [hb]; exact hdg) hframes (by show 2 * 0 + _ + _ ≤ _; omega)
  have e1 : copied scr (vp_cell c1 (n1, .inl g)) sp dp n = vp_cell c1 (n1, .inl (va_cpy f g sp.toNatClampNeg dp.toNatClampNeg n.toNatClampNeg)) := va_copiedX (fun z => .int z) scr c1 f g hs5 h4
  rw [e1] at X' step
  have hl : a < H.size := (Array.getElem?_eq_some_iff.mp hc1).1
  have hheap : ((T.setVm vm').setCell a (vp_cell c1 (n1, .inl (va_cpy f g sp.toNatClampNeg dp.toNatClampNeg n.toNatClampNeg)))).heap = H.setIfInBounds a (vp_cell c1 (n1, .inl (va_cpy f g sp.toNatClampNeg dp.toNatClampNeg n.toNatClampNeg))) := by rw [← hT]; rfl
  have oq : ∀ q : Nat, q ≠ a → (H.setIfInBounds a (vp_cell c1 (n1, .inl (va_cpy f g sp.toNatClampNeg dp.toNatClampNeg n.toNatClampNeg))))[q]? = H[q]? := fun q hq => by simp [Array.getElem?_setIfInBounds, Ne.symm hq]
  obtain ⟨t, a1, b1⟩ := kk _ _ (hP.set hD ha1 (show (H.setIfInBounds a _)[a]? = some _ by simp [Array.getElem?_setIfInBounds, hl]) oq) (hD.set ha1) ⟨by simp; exact hS.1, fun q g1 g2 => by
      rw [oq q (fun e => g2 (by rw [e]; exact hD.2 q1 _ ha1))]
      exact hS.2.1 q g1 g2, fun q hq => by
      rcases List.mem_append.mp hq with h | h
      · exact hS.2.2 q h
      · obtain ⟨z, -, hz⟩ := List.mem_map.mp h
        rw [← hz]
        exact hD.2 q1 _ ha1⟩ _ hheap X'
  exact ⟨t, step t a1, b1⟩
end QCOPY
section QCOPY2
variable {l : Launch} {D : va_G} {cy : Nat → ClassId} {sa : Nat → Nat} {tb : qTb} {y : Nat} {lim : Nat × Nat} {ls st : List qV} {M : qM} {Rr : Option qV → qM → Prop} {p : Program} {e : Env} {R : Room} {s : State} {m : MethodId} {args : Array Value} {below : List Frame} {meth : Method} {c : Code} {A : Nat → Prop} {H : Heap} {locs : List Loc} {cells slots : Nat} {ad ad0 : Nat → Nat} {lsA : Array Slot} {c0 s0 n0 : Nat} {Q : State → Prop} {pc a b : Nat} {v : Int}
theorem qs_copy (C : qC l D cy sa tb y lim ls st M Rr p e R s m args below meth c A H locs cells slots ad ad0 lsA c0 s0 n0 Q) {idx : Nat} (h1 : (qow y, idx, a, b, 7) ∈ qml) (hr : qrm y 7 a = true) (hd : decode (qby y) pc = .ok (.invokestatic idx, 3)) (h : qgo (qS l D cy sa tb) y lim M Rr (qcpy tb (pc + 3) ls st M)) : W p l e R s m args below meth c H locs cells slots Q (F0 m pc lsA (st.map (qv ad sa))) := by
  obtain ⟨n, dp, z, sp, x, r, k1, rfl, g1, g2, g3, g4, g5, g6, g7, hk⟩ := qgo_cpy h
  have hn : -2147483648 ≤ n ∧ n < 2147483648 := ok_hd C.hst
  have hdp : -2147483648 ≤ dp ∧ dp < 2147483648 := ok_hd (ok_tl C.hst)
  have hsp : -2147483648 ≤ sp ∧ sp < 2147483648 := ok_hd (ok_tl (ok_tl (ok_tl C.hst)))
  have hor : ∀ v ∈ r, qok M.1.length v := ok_tl (ok_tl (ok_tl (ok_tl (ok_tl C.hst))))
  have hw := qml_ok _ h1
  have w1 := C.ts _ (qtb_in (hw (.methodLink (qos (qow y)) idx arraycopyName) (by simp [qml_w])) rfl)
  have w2 := C.ts _ (qtb_in (hw (.native arraycopyName) (by simp [qml_w])) rfl)
  have w3 := C.ts _ (qtb_in (hw (.static arraycopyName) (by simp [qml_w])) rfl)
  have w4 := C.ts _ (qtb_in (hw (.initialized "java/lang/System") (by simp [qml_w])) rfl)
  have hml : c.maxLocals = lsA.size := by rw [C.1.2.2.2.1, C.L.1, C.n]
  have hr : (decide (1 ≤ qfr y) && decide (26 ≤ qlo y)) = true := hr
  simp only [Bool.and_eq_true, decide_eq_true_eq] at hr
  have hfr : 1 ≤ R.frames := Nat.le_trans hr.1 C.1.2.2.2.2.2.2.2.1
  have hlo : ((r.map (qv ad sa)).map fun v => v.category).sum + (nativeFrameWords "java/lang/System" "arraycopy" 5 + 11) ≤ R.locals := by
    rw [qcats_map hor]
    have e1 : nativeFrameWords "java/lang/System" "arraycopy" 5 = 7 := by decide
    have e2 : qlo y ≤ R.locals := C.1.2.2.2.2.2.2.2.2.1
    rw [e1]
    omega
  have hM1 := C.hH.2.2.2.1 _ _ g6
  simp only [List.map_cons]
  rw [qv0, qv0, qv0, qv3 ad sa g4]
  rcases hk with ⟨f1, f2, f3, f4, hk⟩ | ⟨k0, f1, f2, f3, hk⟩
  · rw [qv3s ad sa f1]
    have hT := C.2.1.2.2.2.2.1 (-x - 2).toNat (by omega) (by omega)
    have hg : qkok M.1.length (1, k1) (va_cpy (tb (-x - 2).toNat).2 (M.2 z.toNat) sp.toNat dp.toNat n.toNat) := ⟨hM1.1, cpy_ok (P := fun q => qok M.1.length (0, q)) (fun j => qok_mono (Nat.zero_le _) (C.2.1.2.2.2.2.2.2.2.1 (-x - 2).toNat j (by omega))) hM1.2⟩
    have k := C.wr g6 hg (show qE ad sa cy (1, k1) _ = .inl (cy 1, k1, .inl _) from congrArg (fun f => Sum.inl (cy 1, k1, Sum.inl f)) (cpy_i1 _ _ _ _ _)) hk hor
    rw [← clamp_i1 hsp, ← clamp_i1 hdp, ← clamp_i1 hn] at k
    exact qcopyT C.x C.b hml C.own w1 w2 w3 w4 C.K C.hH.2.1 C.hH.2.2.1 C.hH.1 hT z.toNat 0 (qws_at g6) rfl (nneg_i1 hsp g3) (nneg_i1 hdp g2) (nneg_i1 hn g1) (by rw [clamp_i1 hsp, clamp_i1 hn]; omega) (by rw [clamp_i1 hdp, clamp_i1 hn]; omega) hfr hlo hd k
  · rw [qv3 ad sa f1]
    have hM0 := C.hH.2.2.2.1 _ _ f2
    have hg : qkok M.1.length (1, k1) (va_cpy (M.2 x.toNat) (M.2 z.toNat) sp.toNat dp.toNat n.toNat) := ⟨hM1.1, cpy_ok (P := fun q => qok M.1.length (0, q)) hM0.2 hM1.2⟩
    have k := C.wr g6 hg (show qE ad sa cy (1, k1) _ = .inl (cy 1, k1, .inl _) from congrArg (fun f => Sum.inl (cy 1, k1, Sum.inl f)) (cpy_i1 _ _ _ _ _)) hk hor
    rw [← clamp_i1 hsp, ← clamp_i1 hdp, ← clamp_i1 hn] at k
    exact va_copyi C.x C.b hml C.own w1 w2 w3 w4 C.K C.hH.2.1 C.hH.2.2.1 C.hH.1 x.toNat z.toNat 0 0 (qws_at f2) (qws_at g6) rfl rfl rfl (nneg_i1 hsp g3) (nneg_i1 hdp g2) (nneg_i1 hn g1) (by rw [clamp_i1 hsp, clamp_i1 hn]; omega) (by rw [clamp_i1 hdp, clamp_i1 hn]; omega) (fun _ _ => rfl) hfr hlo hd k
end QCOPY2
