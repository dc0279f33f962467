/-! the classes -/
theorem qcl_at : ∀ a : Nat, a < 10 → vwCl[a]? = some (qos a, (fun j => qFT a j), qnf a) := by
  intro a ha
  match a, ha with
  | 0, _ => rfl
  | 1, _ => rfl
  | 2, _ => rfl
  | 3, _ => rfl
  | 4, _ => rfl
  | 5, _ => rfl
  | 6, _ => rfl
  | 7, _ => rfl
  | 8, _ => rfl
  | 9, _ => rfl
  | (k + 10), h => exact absurd h (by omega)
theorem qly_good {C : String} {T : u_T} {N : Nat} : ∀ w ∈ u_ws C T N, goodWord w = true := by
  intro w hw
  obtain ⟨k, -, rfl⟩ := List.mem_map.mp hw
  unfold u_lay
  split <;> rfl
theorem qly_at : ∀ a : Nat, a < 10 → ∀ w ∈ u_ws (qos a) (fun j => qFT a j) (qnf a), w ∈ qtb := by
  intro a ha w hw
  refine qtb_in ?_ (qly_good w hw)
  match a, ha with
  | 0, _ => exact qly0 w hw
  | 1, _ => exact qly1 w hw
  | 2, _ => exact qly2 w hw
  | 3, _ => exact qly3 w hw
  | 4, _ => exact qly4 w hw
  | 5, _ => exact qly5 w hw
  | 6, _ => exact qly6 w hw
  | 7, _ => exact qly7 w hw
  | 8, _ => exact qly8 w hw
  | 9, _ => exact qly9 w hw
  | (k + 10), h => exact absurd h (by omega)
def qty (a j : Nat) : FieldType := (qtysL.getD a (fun _ => .int)) j
theorem qty_at : ∀ a : Nat, a < 10 → ∀ k, k < qnf a → parseFieldDescriptor (qFT a k).2.2.1 = some (qty a k) := by
  intro a ha
  match a, ha with
  | 0, _ => exact tyX0_ok
  | 1, _ => exact tyX1_ok
  | 2, _ => exact tyX2_ok
  | 3, _ => exact tyX3_ok
  | 4, _ => exact tyX4_ok
  | 5, _ => exact tyX5_ok
  | 6, _ => exact tyX6_ok
  | 7, _ => exact tyX7_ok
  | 8, _ => exact tyX8_ok
  | 9, _ => exact tyX9_ok
  | (k + 10), h => exact absurd h (by omega)
theorem qnm_at : ∀ a : Nat, a < 10 → ∀ x, x < qnf a → ∀ z, z < qnf a → x ≠ z → (qFT a x).2.1 ≠ (qFT a z).2.1 := by
  intro a ha
  match a, ha with
  | 0, _ => exact nmX0
  | 1, _ => exact nmX1
  | 2, _ => exact nmX2
  | 3, _ => exact nmX3
  | 4, _ => exact nmX4
  | 5, _ => exact nmX5
  | 6, _ => exact nmX6
  | 7, _ => exact nmX7
  | 8, _ => exact nmX8
  | 9, _ => exact nmX9
  | (k + 10), h => exact absurd h (by omega)
def qtyok (t : FieldType) : Bool := match t with
  | .int => true
  | .long => true
  | .float => true
  | .double => true
  | .object _ => true
  | .array _ => true
  | _ => false
theorem qtg_ok : ∀ a : Nat, a < 10 → ∀ k, k < qnf a → qtg a k = qtag (qty a k) ∧ qtyok (qty a k) = true := by decide +kernel
theorem qfit {ad sa : Nat → Nat} {n : Nat} {t : FieldType} {x : Int} (hok : qtyok t = true) (h : qok n (qtag t, x)) : narrow t (qv ad sa (qtag t, x)) = qv ad sa (qtag t, x) ∧ fits t (qv ad sa (qtag t, x)) = true := by
  have href : ∀ {t2 : FieldType}, (∃ q, t2 = .object q) ∨ (∃ q, t2 = .array q) → narrow t2 (qv ad sa (3, x)) = qv ad sa (3, x) ∧ fits t2 (qv ad sa (3, x)) = true := by
    intro t2 ht
    by_cases h0 : 0 ≤ x
    · rw [qv3 ad sa h0]; rcases ht with ⟨q, rfl⟩ | ⟨q, rfl⟩ <;> exact ⟨rfl, rfl⟩
    · by_cases h3 : x = -1
      · subst h3; rcases ht with ⟨q, rfl⟩ | ⟨q, rfl⟩ <;> exact ⟨rfl, rfl⟩
      · rw [qv3s ad sa (by omega)]; rcases ht with ⟨q, rfl⟩ | ⟨q, rfl⟩ <;> exact ⟨rfl, rfl⟩
  cases t with
  | int => exact ⟨rfl, rfl⟩
  | long => exact ⟨rfl, rfl⟩
  | float => exact ⟨rfl, rfl⟩
  | double => exact ⟨rfl, rfl⟩
  | object q => exact href (Or.inl ⟨q, rfl⟩)
  | array q => exact href (Or.inr ⟨q, rfl⟩)
  | _ => exact absurd hok (by decide)
theorem qdef {ad sa : Nat → Nat} {t : FieldType} (hok : qtyok t = true) : defaultValue t = qv ad sa (qtag t, if qtag t = 3 then -1 else 0) := by
  cases t with
  | int => exact (congrArg Value.int (by decide))
  | long => exact (congrArg Value.long (by decide))
  | float => exact (congrArg Value.float (by decide))
  | double => exact (congrArg Value.double (by decide))
  | object q => rfl
  | array q => rfl
  | _ => exact absurd hok (by decide)
/-! a field, a place of an array, written -/
theorem qE_fld {ad sa : Nat → Nat} {cy : Nat → ClassId} {a b : Nat} {f : Nat → Int} {v : Int} (hb : b < qnf a) : qE ad sa cy (0, a) (va_up f b v) = .inr (a, ((List.range (qnf a)).map (fun j => qv ad sa (qtg a j, f j))).set b (qv ad sa (qtg a b, v))) := by
  show Sum.inr (a, _) = Sum.inr (a, _)
  congr 2
  apply List.ext_getElem?
  intro i
  rw [List.getElem?_map]
  by_cases hi : i = b
  · subst hi
    rw [List.getElem?_set_self (by simpa using hb), List.getElem?_range hb]
    show some (qv ad sa (qtg a i, va_up f i v i)) = _
    rw [show va_up f i v i = v by simp [va_up]]
  · rw [List.getElem?_set_ne (Ne.symm hi), List.getElem?_map]
    cases hr : (List.range (qnf a))[i]? with
    | none => rfl
    | some j =>
      have hj : j = i := by
        have hl := (List.getElem?_eq_some_iff.mp hr).1
        rw [List.length_range] at hl
        rw [List.getElem?_range hl] at hr
        cases hr
        rfl
      subst hj
      show some (qv ad sa (qtg a j, va_up f b v j)) = some (qv ad sa (qtg a j, f j))
      rw [show va_up f b v j = f j by simp [va_up, hi]]
theorem qup_i1 (f : Nat → Int) (k : Nat) (v : Int) : (fun j => i1 (va_up f k v j)) = upd (fun j => i1 (f j)) k (i1 v) := by
  funext j
  unfold va_up upd
  by_cases h : j = k
  · rw [if_pos h, if_pos h]
  · rw [if_neg h, if_neg h]
theorem qup_ro (ad : Nat → Nat) (f : Nat → Int) (k : Nat) {v : Int} (hv : 0 ≤ v) : (fun j => qro ad (va_up f k v j)) = va_up (fun j => qro ad (f j)) k (some (ad v.toNat)) := by
  funext j
  unfold va_up
  by_cases h : j = k
  · rw [if_pos h, if_pos h]
    unfold qro
    rw [if_neg (by omega)]
  · rw [if_neg h, if_neg h]
theorem ok_up {n : Nat} {P : Nat → Int → Prop} {f : Nat → Int} {k : Nat} {v : Int} (h : ∀ j, P j (f j)) (hv : P k v) : ∀ j, P j (va_up f k v j) := by
  intro j
  unfold va_up
  by_cases hj : j = k
  · rw [if_pos hj, hj]; exact hv
  · rw [if_neg hj]; exact h j
theorem rf_ro (ad sa : Nat → Nat) {x : Int} (h : -1 ≤ x) : va_rf (qro ad x) = qv ad sa (3, x) := by
  by_cases h0 : 0 ≤ x
  · rw [qv3 ad sa h0]; unfold qro; rw [if_neg (by omega)]; rfl
  · have : x = -1 := by omega
    subst this
    rfl
theorem qdecl : ∀ a : Nat, a < 10 → ∀ b, b < qnf a → (qFT a b).1 = qos a := by decide +kernel
section QHEAP
variable {l : Launch} {D : va_G} {cy : Nat → ClassId} {sa : Nat → Nat} {tb : qTb} {y : Nat} {lim : Nat × Nat} {ls st : List qV} {M : qM} {Rr : Option qV → qM → Prop} {p : Program} {e : Env} {R : Room} {s : State} {m : MethodId} {args : Array Value} {below : List Frame} {meth : Method} {c : Code} {A : Nat → Prop} {H : Heap} {locs : List Loc} {cells slots : Nat} {ad ad0 : Nat → Nat} {lsA : Array Slot} {c0 s0 n0 : Nat} {Q : State → Prop} {pc a b : Nat} {v : Int}
/-- the heap behind a write of cell k -/
theorem qC.wr (C : qC l D cy sa tb y lim ls st M Rr p e R s m args below meth c A H locs cells slots ad ad0 lsA c0 s0 n0 Q) {k : Nat} {kd : qK} (hk : M.1[k]? = some kd) {g : Nat → Int} (hg : qkok M.1.length kd g) {ex : va_E} (he : qE ad sa cy kd g = ex) {pc2 : Nat} {st2 : List qV} (h : qS l D cy sa tb y lim pc2 ls st2 (M.1, va_up M.2 k g) Rr) (ho : ∀ v ∈ st2, qok M.1.length v) : ∀ (H1 : Heap) (locs1 : List Loc), va_P D vwCl ((qws ad sa cy M).set k (ad k, ex)) H1 → va_D A ((qws ad sa cy M).set k (ad k, ex)) → va_S A s.heap H1 locs1 → W p l e R s m args below meth c H1 locs1 cells slots Q (F0 m pc2 lsA (st2.map (qv ad sa))) := by
  intro H1 locs1 hP hD hS
  rw [← he, qws_set hk g] at hP hD
  exact C.goH h ⟨hS, hP, hD, qmok_up C.hH.2.2.2.1 hk hg, C.hH.2.2.2.2.1, C.hH.2.2.2.2.2.1, C.hH.2.2.2.2.2.2.1, C.hH.2.2.2.2.2.2.2⟩ (Nat.le_refl _) (fun _ _ => rfl) ho
theorem qs_getfield (C : qC l D cy sa tb y lim ls st M Rr p e R s m args below meth c A H locs cells slots ad ad0 lsA c0 s0 n0 Q) {idx : Nat} (h1 : (qow y, idx, a, b) ∈ qfl) (h2 : b < qnf a) (hd : decode (qby y) pc = .ok (.getfield idx, 3)) (h : qgo (qS l D cy sa tb) y lim M Rr (qstp tb lim pc (.getfield idx) 3 a b v ls st M)) : W p l e R s m args below meth c H locs cells slots Q (F0 m pc lsA (st.map (qv ad sa))) := by
  obtain ⟨x, r, rfl, hx0, hx, hk⟩ := qgo_get h
  have hM := C.hH.2.2.2.1 _ _ hx
  have ha : a < 10 := hM.1
  have hlink := C.ts _ (qtb_in (qfl_ok _ h1 _ List.mem_cons_self) rfl)
  have k := C.goS hk (ok_cons (hM.2 b h2) (ok_tl C.hst))
  rw [List.map_cons, qv3 ad sa hx0]
  refine va_get C.x C.b C.ts (qly_at a ha) C.own C.K C.hH.2.1 x.toNat (qws_at hx) (qcl_at a ha) b h2 hlink (fun _ h9 => h9) ?_ hd k
  show ((List.range (qnf a)).map (fun j => qv ad sa (qtg a j, M.2 x.toNat j)))[b]? = _
  rw [List.getElem?_map, List.getElem?_range h2]
  rfl
theorem qs_putfield (C : qC l D cy sa tb y lim ls st M Rr p e R s m args below meth c A H locs cells slots ad ad0 lsA c0 s0 n0 Q) {idx : Nat} (h1 : (qow y, idx, a, b) ∈ qfl) (h2 : b < qnf a) (h3 : (qFT a b).2.2.2 = false ∨ (y ∈ qinits ∧ qow y = a)) (hd : decode (qby y) pc = .ok (.putfield idx, 3)) (h : qgo (qS l D cy sa tb) y lim M Rr (qstp tb lim pc (.putfield idx) 3 a b v ls st M)) : W p l e R s m args below meth c H locs cells slots Q (F0 m pc lsA (st.map (qv ad sa))) := by
  obtain ⟨w, x, r, rfl, hx0, hx, hk⟩ := qgo_put h
  have hM := C.hH.2.2.2.1 _ _ hx
  have ha : a < 10 := hM.1
  have hlink := C.ts _ (qtb_in (qfl_ok _ h1 _ List.mem_cons_self) rfl)
  have hw : qok M.1.length (qtg a b, w) := ok_hd C.hst
  obtain ⟨ht, htok⟩ := qtg_ok a ha b h2
  have hfit := qfit (ad := ad) (sa := sa) htok (ht ▸ hw)
  rw [← ht] at hfit
  have hg : qkok M.1.length (0, a) (va_up (M.2 x.toNat) b w) := ⟨ha, fun j hj => by
    unfold va_up
    by_cases hjb : j = b
    · rw [if_pos hjb, hjb]; exact hw
    · rw [if_neg hjb]; exact hM.2 j hj⟩
  have k := C.wr hx hg (qE_fld h2) hk (ok_tl (ok_tl C.hst))
  rw [List.map_cons, List.map_cons, qv3 ad sa hx0]
  by_cases hf : (qFT a b).2.2.2 = false
  · exact va_put C.x C.b C.ts (qly_at a ha) (qty a) (qty_at a ha) (qnm_at a ha) C.own C.K C.hH.2.1 C.hH.2.2.1 C.hH.1 x.toNat (qws_at hx) (qcl_at a ha) b h2 hlink (fun _ h9 => h9) hf (qty_at a ha b h2) hfit.1 hfit.2 (by simpa using h2) hd k
  · obtain ⟨h4, h5⟩ := h3.resolve_left hf
    have hdecl : (qFT a b).1 = qos (qow y) := by rw [h5]; exact qdecl a ha b h2
    exact va_putF C.x C.b C.ts (qly_at a ha) (qty a) (qty_at a ha) (qnm_at a ha) C.own C.K C.hH.2.1 C.hH.2.2.1 C.hH.1 x.toNat (qws_at hx) (qcl_at a ha) b h2 hlink (fun _ h9 => h9) (by simpa using hf) (C.1.2.2.2.2.2.2.1 h4) hdecl (qty_at a ha b h2) hfit.1 hfit.2 (by simpa using h2) hd k
theorem qs_getstatic (C : qC l D cy sa tb y lim ls st M Rr p e R s m args below meth c A H locs cells slots ad ad0 lsA c0 s0 n0 Q) {idx : Nat} (h1 : (qow y, idx, a, v) ∈ qsl) (h2 : a < 5) (hd : decode (qby y) pc = .ok (.getstatic idx, 3)) (h : qgo (qS l D cy sa tb) y lim M Rr (qstp tb lim pc (.getstatic idx) 3 a b v ls st M)) : W p l e R s m args below meth c H locs cells slots Q (F0 m pc lsA (st.map (qv ad sa))) := by
  have hk := qgo_pu h
  have hw : ∀ w ∈ qsl_w (qow y, idx, a, v), w ∈ lw_tbl := qsl_ok _ h1
  have k := C.goS hk (ok_cons (show qok _ (3, -2 - (a : Int)) from ⟨by omega, by omega⟩) C.hst)
  rw [List.map_cons, qv3s ad sa (by omega), show (-(-2 - (a : Int)) - 2).toNat = a by omega] at k
  have hZ := C.2.1.2.2.2.1 a h2
  by_cases hv : v = 0
  · subst hv
    exact va_gets C.x C.b hZ C.hH.1 C.own (C.ts _ (qtb_in (hw _ List.mem_cons_self) rfl)) (fun _ h9 => h9) hd k
  · have hn : qsl_w (qow y, idx, a, v) = [.fieldLinkNest (qos (qow y)) idx RX8 (qsn a) (qsd a) RX8] := if_neg hv
    rw [hn] at hw
    exact va_getsN C.x C.b hZ C.hH.1 C.own (va_Nw.use rfl (C.2.1.2.1 _ (qnst_in (hw _ List.mem_cons_self) rfl))) (fun _ h9 => h9) hd k
theorem qs_iaload (C : qC l D cy sa tb y lim ls st M Rr p e R s m args below meth c A H locs cells slots ad ad0 lsA c0 s0 n0 Q)  (hd : decode (qby y) pc = .ok (.iaload, 1)) (h : qgo (qS l D cy sa tb) y lim M Rr (qstp tb lim pc (.iaload) 1 a b v ls st M)) : W p l e R s m args below meth c H locs cells slots Q (F0 m pc lsA (st.map (qv ad sa))) := by
  obtain ⟨i, x, r, rfl, hi0, hk⟩ := qgo_ald (tb := tb) (k := 1) (t := 0) (pc := pc + 1) h
  have hi : -2147483648 ≤ i ∧ i < 2147483648 := ok_hd C.hst
  rw [List.map_cons, List.map_cons, qv0]
  rcases hk with ⟨g1, g2, g3, g4, g5, hk⟩ | ⟨n, g1, g2, g3, hk⟩
  · rw [qv3s ad sa g1]
    have hT := C.2.1.2.2.2.2.1 (-x - 2).toNat (by omega) (by omega)
    have k := C.goS hk (ok_cons (qok_mono (Nat.zero_le _) (C.2.1.2.2.2.2.2.2.2.1 (-x - 2).toNat i.toNat (by omega))) (ok_tl (ok_tl C.hst)))
    exact va_ti C.x C.b hT C.hH.1 (vin_i1 hi hi0 g5) (by rw [clamp_i1 hi]; rfl) hd k
  · have hM := C.hH.2.2.2.1 _ _ g2
    have k := C.goS hk (ok_cons (hM.2 i.toNat) (ok_tl (ok_tl C.hst)))
    rw [qv3 ad sa g1]
    rw [List.map_cons, qv0, ← clamp_i1 hi] at k
    exact va_iald C.x C.b C.K C.hH.2.1 x.toNat 0 (qws_at g2) rfl (vin_i1 hi hi0 g3) hd k
theorem qs_baload (C : qC l D cy sa tb y lim ls st M Rr p e R s m args below meth c A H locs cells slots ad ad0 lsA c0 s0 n0 Q)  (hd : decode (qby y) pc = .ok (.baload, 1)) (h : qgo (qS l D cy sa tb) y lim M Rr (qstp tb lim pc (.baload) 1 a b v ls st M)) : W p l e R s m args below meth c H locs cells slots Q (F0 m pc lsA (st.map (qv ad sa))) := by
  obtain ⟨i, x, r, rfl, hi0, hk⟩ := qgo_ald (tb := tb) (k := 2) (t := 0) (pc := pc + 1) h
  have hi : -2147483648 ≤ i ∧ i < 2147483648 := ok_hd C.hst
  rw [List.map_cons, List.map_cons, qv0]
  rcases hk with ⟨g1, g2, g3, g4, g5, hk⟩ | ⟨n, g1, g2, g3, hk⟩
  · exact absurd g4 (by decide)
  · have hM := C.hH.2.2.2.1 _ _ g2
    have k := C.goS hk (ok_cons (hM.2 i.toNat) (ok_tl (ok_tl C.hst)))
    rw [qv3 ad sa g1]
    rw [List.map_cons, qv0, ← clamp_i1 hi] at k
    exact va_zald C.x C.b C.K C.hH.2.1 x.toNat 1 (qws_at g2) rfl (vin_i1 hi hi0 g3) hd k
theorem qs_laload (C : qC l D cy sa tb y lim ls st M Rr p e R s m args below meth c A H locs cells slots ad ad0 lsA c0 s0 n0 Q)  (hd : decode (qby y) pc = .ok (.laload, 1)) (h : qgo (qS l D cy sa tb) y lim M Rr (qstp tb lim pc (.laload) 1 a b v ls st M)) : W p l e R s m args below meth c H locs cells slots Q (F0 m pc lsA (st.map (qv ad sa))) := by
  obtain ⟨i, r, rfl, hi0, hi1, hk⟩ := qgo_lal (tb := tb) (pc := pc + 1) h
  have hi : -2147483648 ≤ i ∧ i < 2147483648 := ok_hd C.hst
  have hT := C.2.1.2.2.2.2.2.1
  have k := C.goS hk (ok_cons (qok_mono (Nat.zero_le _) (C.2.1.2.2.2.2.2.2.2.2 i.toNat)) (ok_tl (ok_tl C.hst)))
  rw [List.map_cons, List.map_cons, qv0, qv3s ad sa (by decide)]
  exact va_tl C.x C.b hT C.hH.1 (vin_i1 hi hi0 hi1) (by rw [clamp_i1 hi]; rfl) hd k
theorem qs_aaload (C : qC l D cy sa tb y lim ls st M Rr p e R s m args below meth c A H locs cells slots ad ad0 lsA c0 s0 n0 Q)  (hd : decode (qby y) pc = .ok (.aaload, 1)) (h : qgo (qS l D cy sa tb) y lim M Rr (qstp tb lim pc (.aaload) 1 a b v ls st M)) : W p l e R s m args below meth c H locs cells slots Q (F0 m pc lsA (st.map (qv ad sa))) := by
  obtain ⟨i, x, r, kk, n, rfl, hi0, hx0, hkk, g2, g3, hk⟩ := qgo_aal (pc := pc + 1) h
  have hi : -2147483648 ≤ i ∧ i < 2147483648 := ok_hd C.hst
  have hM := C.hH.2.2.2.1 _ _ g2
  rw [List.map_cons, List.map_cons, qv0, qv3 ad sa hx0]
  rcases hkk with rfl | rfl
  · have h3 := hM.2 i.toNat
    have k := C.goS hk (ok_cons (show qok _ (3, M.2 x.toNat i.toNat) from ⟨by omega, h3.2⟩) (ok_tl (ok_tl C.hst)))
    rw [List.map_cons, ← rf_ro ad sa h3.1, ← clamp_i1 hi] at k
    exact va_aldq C.x C.b C.K C.hH.2.1 x.toNat 2 (qws_at g2) rfl (vin_i1 hi hi0 g3) hd k
  · have h3 := hM.2 i.toNat
    have k := C.goS hk (ok_cons (show qok _ (3, M.2 x.toNat i.toNat) from ⟨by omega, h3.2⟩) (ok_tl (ok_tl C.hst)))
    rw [List.map_cons, ← rf_ro ad sa h3.1, ← clamp_i1 hi] at k
    exact va_aldq C.x C.b C.K C.hH.2.1 x.toNat 3 (qws_at g2) rfl (vin_i1 hi hi0 g3) hd k
theorem qs_iastore (C : qC l D cy sa tb y lim ls st M Rr p e R s m args below meth c A H locs cells slots ad ad0 lsA c0 s0 n0 Q)  (hd : decode (qby y) pc = .ok (.iastore, 1)) (h : qgo (qS l D cy sa tb) y lim M Rr (qstp tb lim pc (.iastore) 1 a b v ls st M)) : W p l e R s m args below meth c H locs cells slots Q (F0 m pc lsA (st.map (qv ad sa))) := by
  obtain ⟨w, i, x, r, n, rfl, -, hi0, hx0, g2, g3, hk⟩ := qgo_ias (k := 1) (pc := pc + 1) h
  have hw : -2147483648 ≤ w ∧ w < 2147483648 := ok_hd C.hst
  have hi : -2147483648 ≤ i ∧ i < 2147483648 := ok_hd (ok_tl C.hst)
  have hM := C.hH.2.2.2.1 _ _ g2
  have k := C.wr g2 (g := va_up (M.2 x.toNat) i.toNat w) ⟨hM.1, ok_up (P := fun _ z => qok M.1.length (0, z)) (n := 0) hM.2 hw⟩ (show qE ad sa cy (1, n) _ = .inl (cy 1, n, .inl _) from congrArg (fun f => Sum.inl (cy 1, n, Sum.inl f)) (qup_i1 (M.2 x.toNat) i.toNat w)) hk (ok_tl (ok_tl (ok_tl C.hst)))
  rw [← clamp_i1 hi] at k
  rw [List.map_cons, List.map_cons, List.map_cons, qv0, qv0, qv3 ad sa hx0]
  exact va_iast C.x C.b C.K C.hH.2.1 C.hH.2.2.1 C.hH.1 x.toNat 0 (qws_at g2) rfl (vin_i1 hi hi0 g3) hd k
theorem qs_bastore (C : qC l D cy sa tb y lim ls st M Rr p e R s m args below meth c A H locs cells slots ad ad0 lsA c0 s0 n0 Q)  (hd : decode (qby y) pc = .ok (.bastore, 1)) (h : qgo (qS l D cy sa tb) y lim M Rr (qstp tb lim pc (.bastore) 1 a b v ls st M)) : W p l e R s m args below meth c H locs cells slots Q (F0 m pc lsA (st.map (qv ad sa))) := by
  obtain ⟨w, i, x, r, n, rfl, hw1, hi0, hx0, g2, g3, hk⟩ := qgo_ias (k := 2) (pc := pc + 1) h
  have hw : -2147483648 ≤ w ∧ w < 2147483648 := ok_hd C.hst
  have hi : -2147483648 ≤ i ∧ i < 2147483648 := ok_hd (ok_tl C.hst)
  have hM := C.hH.2.2.2.1 _ _ g2
  have hnar : vp_nar .boolean (i1 w) = i1 w := by
    rcases hw1 with h1 | rfl | rfl
    · exact absurd h1 (by decide)
    · decide
    · decide
  have k := C.wr g2 (g := va_up (M.2 x.toNat) i.toNat w) ⟨hM.1, ok_up (P := fun _ z => qok M.1.length (0, z)) (n := 0) hM.2 hw⟩ (show qE ad sa cy (2, n) _ = .inl (cy 2, n, .inl _) from congrArg (fun f => Sum.inl (cy 2, n, Sum.inl f)) (qup_i1 (M.2 x.toNat) i.toNat w)) hk (ok_tl (ok_tl (ok_tl C.hst)))
  rw [← clamp_i1 hi, ← hnar] at k
  rw [List.map_cons, List.map_cons, List.map_cons, qv0, qv0, qv3 ad sa hx0]
  exact va_zast C.x C.b C.K C.hH.2.1 C.hH.2.2.1 C.hH.1 x.toNat 1 (qws_at g2) rfl (vin_i1 hi hi0 g3) hd k
theorem qs_aastore (C : qC l D cy sa tb y lim ls st M Rr p e R s m args below meth c A H locs cells slots ad ad0 lsA c0 s0 n0 Q)  (hd : decode (qby y) pc = .ok (.aastore, 1)) (h : qgo (qS l D cy sa tb) y lim M Rr (qstp tb lim pc (.aastore) 1 a b v ls st M)) : W p l e R s m args below meth c H locs cells slots Q (F0 m pc lsA (st.map (qv ad sa))) := by
  obtain ⟨w, i, x, r, kk, n, rfl, hw0, hkk, hi0, hx0, g2, g3, hk⟩ := qgo_aas (pc := pc + 1) h
  have hi : -2147483648 ≤ i ∧ i < 2147483648 := ok_hd (ok_tl C.hst)
  have hwn : w < (M.1.length : Int) := (ok_hd C.hst : -8 < w ∧ w < _).2
  have hM := C.hH.2.2.2.1 _ _ g2
  rw [List.map_cons, List.map_cons, List.map_cons, qv0, qv3 ad sa hx0, qv3 ad sa hw0]
  rcases hkk with ⟨rfl, hv⟩ | ⟨rfl, hv⟩
  · have k := C.wr g2 (g := va_up (M.2 x.toNat) i.toNat w) ⟨hM.1, ok_up (P := fun _ z => -1 ≤ z ∧ z < (M.1.length : Int)) (n := 0) hM.2 ⟨by omega, hwn⟩⟩ (show qE ad sa cy (3, n) _ = .inl (cy 3, n, .inr (.inr (.inr (.inr _)))) from congrArg (fun f => Sum.inl (cy 3, n, Sum.inr (Sum.inr (Sum.inr (Sum.inr f))))) (qup_ro ad (M.2 x.toNat) i.toNat hw0)) hk (ok_tl (ok_tl (ok_tl C.hst)))
    rw [← clamp_i1 hi] at k
    exact va_astq C.x C.b C.K C.hH.2.1 C.hH.2.2.1 C.hH.1 x.toNat 2 w.toNat 3 (r := (RX3, TX3, 11)) (qws_at g2) rfl (qws_at hv) rfl (vin_i1 hi hi0 g3) hd k
  · have k := C.wr g2 (g := va_up (M.2 x.toNat) i.toNat w) ⟨hM.1, ok_up (P := fun _ z => -1 ≤ z ∧ z < (M.1.length : Int)) (n := 0) hM.2 ⟨by omega, hwn⟩⟩ (show qE ad sa cy (4, n) _ = .inl (cy 4, n, .inr (.inr (.inr (.inr _)))) from congrArg (fun f => Sum.inl (cy 4, n, Sum.inr (Sum.inr (Sum.inr (Sum.inr f))))) (qup_ro ad (M.2 x.toNat) i.toNat hw0)) hk (ok_tl (ok_tl (ok_tl C.hst)))
    rw [← clamp_i1 hi] at k
    exact va_astq C.x C.b C.K C.hH.2.1 C.hH.2.2.1 C.hH.1 x.toNat 3 w.toNat 5 (r := (RX5, TX5, 2)) (qws_at g2) rfl (qws_at hv) rfl (vin_i1 hi hi0 g3) hd k
theorem qs_arraylength (C : qC l D cy sa tb y lim ls st M Rr p e R s m args below meth c A H locs cells slots ad ad0 lsA c0 s0 n0 Q)  (hd : decode (qby y) pc = .ok (.arraylength, 1)) (h : qgo (qS l D cy sa tb) y lim M Rr (qstp tb lim pc (.arraylength) 1 a b v ls st M)) : W p l e R s m args below meth c H locs cells slots Q (F0 m pc lsA (st.map (qv ad sa))) := by
  obtain ⟨x, r, rfl, hk⟩ := qgo_len (tb := tb) (pc := pc + 1) h
  rcases hk with ⟨g1, g2, hk⟩ | ⟨kk, n, hx0, g1, g2, g3, hk⟩
  · have hlt : (tb (-x - 2).toNat).1 < 2147483648 := C.2.1.2.2.2.2.2.2.1 _
    have k := C.goS hk (ok_cons (show qok _ (0, ((tb (-x - 2).toNat).1 : Int)) from ⟨by omega, by omega⟩) (ok_tl C.hst))
    rw [List.map_cons, qv3s ad sa g1]
    by_cases h4 : (-x - 2).toNat = 4
    · rw [h4] at k ⊢
      exact va_tlen C.x C.b C.2.1.2.2.2.2.2.1 C.hH.1 Int32.ofInt_eq_ofNat.symm hd k
    · exact va_tlen C.x C.b (C.2.1.2.2.2.2.1 _ (by omega) h4) C.hH.1 Int32.ofInt_eq_ofNat.symm hd k
  · have hM := C.hH.2.2.2.1 _ _ g3
    rw [List.map_cons, qv3 ad sa hx0]
    match kk, g1, g2, g3, hM with
    | 1, _, _, g3, hM =>
      have hn : n < 2147483648 := hM.1
      exact va_alen C.x C.b C.K C.hH.2.1 x.toNat 0 (qws_at g3) rfl Int32.ofInt_eq_ofNat.symm hd (C.goS hk (ok_cons (show qok _ (0, (n : Int)) from ⟨by omega, by omega⟩) (ok_tl C.hst)))
    | 2, _, _, g3, hM =>
      have hn : n < 2147483648 := hM.1
      exact va_alen C.x C.b C.K C.hH.2.1 x.toNat 1 (qws_at g3) rfl Int32.ofInt_eq_ofNat.symm hd (C.goS hk (ok_cons (show qok _ (0, (n : Int)) from ⟨by omega, by omega⟩) (ok_tl C.hst)))
    | 3, _, _, g3, hM =>
      have hn : n < 2147483648 := hM.1
      exact va_alen C.x C.b C.K C.hH.2.1 x.toNat 2 (qws_at g3) rfl Int32.ofInt_eq_ofNat.symm hd (C.goS hk (ok_cons (show qok _ (0, (n : Int)) from ⟨by omega, by omega⟩) (ok_tl C.hst)))
    | 4, _, _, g3, hM =>
      have hn : n < 2147483648 := hM.1
      exact va_alen C.x C.b C.K C.hH.2.1 x.toNat 3 (qws_at g3) rfl Int32.ofInt_eq_ofNat.symm hd (C.goS hk (ok_cons (show qok _ (0, (n : Int)) from ⟨by omega, by omega⟩) (ok_tl C.hst)))
    | (q + 5), _, g2, _, _ => exact absurd g2 (by omega)
end QHEAP
