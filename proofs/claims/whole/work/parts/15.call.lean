/-! calls -/
theorem qwarm {w : Cond} (hw : w ∈ qnst) {s U : State} (hW : s.WarmedH U.vm) (h : va_Nw w s) : va_Nw w U := by
  have h1 : qisN w = true := (List.mem_filter.mp hw).2
  cases w with
  | fieldLinkNest => exact va_Nw.warmF hW h
  | methodLinkNest => exact va_Nw.warmM hW h
  | _ => exact absurd h1 (by simp [qisN])
theorem qontab {w : Cond} (hw : w ∈ qnst) : w.onTables = true := by
  have h1 : qisN w = true := (List.mem_filter.mp hw).2
  cases w with
  | fieldLinkNest => rfl
  | methodLinkNest => rfl
  | _ => exact absurd h1 (by simp [qisN])
theorem qenv.to {D : va_G} {cy : Nat → ClassId} {sa : Nat → Nat} {tb : qTb} {A A2 : Nat → Prop} {s U : State} (h : qenv D cy sa tb A s) (hal : s.vm.Alike U.vm) (hN : ∀ w ∈ qnst, va_Nw w s → va_Nw w U) (hA : ∀ q, A2 q → A q) (hh : ∀ q : Nat, q < s.heap.size → ¬ A q → U.heap[q]? = s.heap[q]?) : qenv D cy sa tb A2 U := by
  obtain ⟨h1, h2, h3, h4, h5, h6, h7⟩ := h
  refine ⟨va_K.moved hal h1, fun w hw => hN w hw (h2 w hw), ⟨va_AO.moved hal h3.1, va_AO.moved hal h3.2⟩, fun k hk => (((h4 k hk).kept hh).moved hal).narrow hA, fun k hk hk4 => (((h5 k hk hk4).kept hh).moved hal).narrow hA, ((h6.kept hh).moved hal).narrow hA, h7⟩
def qPc (D : va_G) (cy : Nat → ClassId) (sa : Nat → Nat) (tb : qTb) (as : List qV) (ad : Nat → Nat) (M : qM) (sz : Nat) : Array Value → State → Prop := fun v U => v = (as.map (qv ad sa)).toArray ∧ U.heap.size = sz ∧ va_P D vwCl (qws ad sa cy M) U.heap ∧ va_D (fun _ => True) (qws ad sa cy M) ∧ qenv D cy sa tb (va_A (qws ad sa cy M) sz) U
def qQc (D : va_G) (cy : Nat → ClassId) (sa : Nat → Nat) (ad : Nat → Nat) (M : qM) (sz : Nat) (R1 : Option qV → qM → Prop) : Array Value → State → Outcome → State → Prop := fun _ st o t => (∃ (v : Option qV) (M2 : qM) (ad2 : Nat → Nat), o = .returned (v.map (qv ad2 sa)) ∧ R1 v M2 ∧ va_P D vwCl (qws ad2 sa cy M2) t.heap ∧ va_D (va_A (qws ad sa cy M) sz) (qws ad2 sa cy M2) ∧ qmok M2 ∧ (∀ x, v = some x → qok M2.1.length x) ∧ M.1.length ≤ M2.1.length ∧ ∀ k, k < M.1.length → ad2 k = ad k) ∧ va_F (va_A (qws ad sa cy M) sz) st t
theorem qPc_blind {D : va_G} {cy : Nat → ClassId} {sa : Nat → Nat} {tb : qTb} {as : List qV} {ad : Nat → Nat} {M : qM} {sz : Nat} : FrameBlind (qPc D cy sa tb as ad M sz) := by
  intro a U g mk h
  obtain ⟨h1, h2, h3, h4, h5⟩ := h
  exact ⟨h1, h2, h3, h4, h5.to (U := U.calling g mk a) (Vm.Alike.refl U.vm) (fun w hw hn => va_Nw.same (qontab hw) (u := U) (U := U.calling g mk a) rfl hn) (fun _ h => h) (fun _ _ _ => rfl)⟩
abbrev qwsM (y : Nat) : List Cond := Cond.code (qnm y) (qby y) (qmx y) (qrt y) :: qtb
abbrev qrmM (y : Nat) : Room := { frames := qfr y, cells := qmc y, slots := qms y, locals := qlo y }
theorem opt_list (w : Option qV) (f : qV → Value) : (w.map f).toList = w.toList.map f := by cases w <;> rfl
set_option maxHeartbeats 4000000 in
theorem qMet {l : Launch} {D : va_G} {cy : Nat → ClassId} {sa : Nat → Nat} {tb : qTb} {y : Nat} {as : List qV} {ad : Nat → Nat} {M : qM} {R1 : Option qV → qM → Prop} (sz : Nat) (hy : y < 184) (hpl : qow y ≠ 11) (hS : qS l D cy sa tb y (M.1.length + qmc y, qsz M.1 + qms y) 0 (qent (qmx y) as) [] M R1) (hR1 : ∀ r M3, R1 r M3 → M3.1.length = M.1.length + qmc y ∧ qsz M3.1 = qsz M.1 + qms y) (hM : qmok M) (has : ∀ v ∈ as, qok M.1.length v) (hlen : (qargs as).length ≤ qmx y) :
    Met l (qnm y) (qwsM y) (qrmM y) (qPc D cy sa tb as ad M sz) (qQc D cy sa ad M sz R1) (qmc y) (qms y) (va_A (qws ad sa cy M) sz) := by
  refine Met.ofW (cc := qby y) (maxL := qmx y) (ret := qrt y) (by rw [qcls_ok y hy]; exact (qplain _ (qow_lt y hy) hpl).1) rfl ?_
  intro p e s m args below meth c s₁ B hml hv
  obtain ⟨rfl, hsz, hP, hD0, hE⟩ := hv
  subst hsz
  have hts := atoms_spec (ws := qwsM y) B.pre
  have hown : s.vm.findClass (qos (qow y)) = some m.cls := by rw [← qcls_ok y hy]; exact findClass_of_methodNamed B.named
  rw [lg_entry_eq]
  refine hS p e (qrmM y) s m _ below meth c (va_A (qws ad sa cy M) s.heap.size) s.heap [] 0 0 ad ad _ M.1.length (qsz M.1) M.1.length _ ⟨⟨hy, B.exec, B.bytes, hml, hown, fun w hw => hts w (List.mem_cons_of_mem _ hw), fun hi => (name_of_methodNamed B.named B.method).1.trans (qini_ok y hi).1, Nat.le_refl _, Nat.le_refl _, rfl⟩, hE, fun q h => Or.inr h, ⟨va_S.rf, hP, hD0.self, hM, Nat.zero_add _, Nat.zero_add _, Nat.le_refl _, fun _ _ => rfl⟩, qL.entry has hlen, ?_, fun v hv => absurd hv List.not_mem_nil, ?_⟩
  · unfold qent
    rw [List.length_append, List.length_replicate]
    omega
  · intro pc2 v M2 H2 locs2 cells2 slots2 ad2 lsA2 hr hH hok hend
    obtain ⟨hS2, hP2, hD2, hM2, hc2, hs2, hn2, ha2⟩ := hH
    obtain ⟨q1, q2⟩ := hR1 _ _ hr
    have e1 : cells2 = qmc y := by omega
    have e2 : slots2 = qms y := by omega
    subst e1; subst e2
    have hq : ∀ (t : State), t.heap = H2 → s.WarmedH t.vm → qQc D cy sa ad M s.heap.size R1 (as.map (qv ad sa)).toArray s (.returned (v.map (qv ad2 sa))) t := fun t ht hW => ⟨⟨v, M2, ad2, rfl, hr, by rw [ht]; exact hP2, hD2, hM2, hok, hn2, ha2⟩, hS2.F ht⟩
    rcases hend with ⟨x, rfl, hd, hrt⟩ | ⟨x, rfl, hd, hrt⟩ | ⟨rfl, hd, hrt⟩
    · rcases hrt with hrt | ⟨hrt, hx⟩
      · exact W.iret (v := i1 x) B.exec B.bytes (B.returns.trans hrt) hq hS2.2.2 hd (hlocks := B.notSynchronized)
      · exact W.zret (v := i1 x) (ty := .boolean) B.exec B.bytes (B.returns.trans hrt) (by rcases hx with rfl | rfl <;> decide) hq hS2.2.2 hd (hlocks := B.notSynchronized)
    · exact W.lret (v := l1 x) B.exec B.bytes (B.returns.trans hrt) hq hS2.2.2 hd (hlocks := B.notSynchronized)
    · exact W.vret B.exec B.bytes (B.returns.trans hrt) hq hS2.2.2 hd (hlocks := B.notSynchronized)
theorem qgo_cal {P : qP} {y : Nat} {lim : Nat × Nat} {M : qM} {R : Option qV → qM → Prop} {pc y2 : Nat} {ls as r : List qV} {g : Bool} (h : qgo P y lim M R (qcal lim y2 pc as ls r M g)) : g = true ∧ M.1.length + qmc y2 ≤ lim.1 ∧ qsz M.1 + qms y2 ≤ lim.2 ∧ qcats r ≤ 8 ∧ (qargs as).length ≤ qmx y2 ∧ P y2 (M.1.length + qmc y2, qsz M.1 + qms y2) 0 (qent (qmx y2) as) [] M (fun r2 M3 => (M3.1.length = M.1.length + qmc y2 ∧ qsz M3.1 = qsz M.1 + qms y2) ∧ P y lim pc ls (r2.toList ++ r) M3 R) := by
  obtain ⟨hg, h⟩ := h
  simp only [Bool.and_eq_true, decide_eq_true_eq] at hg
  obtain ⟨g1, g2, g3, g4, g5⟩ := hg
  exact ⟨g1, g2, g3, g4, g5, h⟩
section QCALL
variable {l : Launch} {D : va_G} {cy : Nat → ClassId} {sa : Nat → Nat} {tb : qTb} {y : Nat} {lim : Nat × Nat} {ls st : List qV} {M : qM} {Rr : Option qV → qM → Prop} {p : Program} {e : Env} {R : Room} {s : State} {m : MethodId} {args : Array Value} {below : List Frame} {meth : Method} {c : Code} {A : Nat → Prop} {H : Heap} {locs : List Loc} {cells slots : Nat} {ad ad0 : Nat → Nat} {lsA : Array Slot} {c0 s0 n0 : Nat} {Q : State → Prop} {pc a b : Nat} {v : Int}
theorem qC.free (C : qC l D cy sa tb y lim ls st M Rr p e R s m args below meth c A H locs cells slots ad ad0 lsA c0 s0 n0 Q) : ∀ q, va_A (qws ad sa cy M) H.size q → A q := by
  intro q hq
  rcases hq with ⟨k, ex, hk⟩ | hq
  · exact C.hH.2.2.1.2 k (q, ex) hk
  · exact C.hA q (Nat.le_trans C.hH.1.1 hq)
theorem qC.pre (C : qC l D cy sa tb y lim ls st M Rr p e R s m args below meth c A H locs cells slots ad ad0 lsA c0 s0 n0 Q) (as : List qV) : ∀ U : State, U.heap = H → s.WarmedH U.vm → qPc D cy sa tb as ad M H.size (as.map (qv ad sa)).toArray U := by
  intro U hU hW
  refine ⟨rfl, by rw [hU], by rw [hU]; exact C.hH.2.1, C.hH.2.2.1.weaken (fun _ _ _ _ => trivial), C.2.1.to hW.alike (fun w hw hn => qwarm hw hW hn) C.free (fun q h1 h2 => ?_)⟩
  rw [hU]
  exact C.hH.1.2.1 q h1 h2
theorem qC.good (y2 : Nat) (hc : Cond.code (qnm y2) (qby y2) (qmx y2) (qrt y2) ∈ lw_tbl) : GoodIn qtb (qwsM y2) := by
  intro w hw
  rcases List.mem_cons.mp hw with rfl | hw
  · exact ⟨qtb_in hc rfl, good_of_word rfl⟩
  · exact ⟨hw, good_of_word (List.mem_filter.mp hw).2⟩
set_option maxHeartbeats 4000000 in
/-- behind a call -/
theorem qs_back (C : qC l D cy sa tb y lim ls st M Rr p e R s m args below meth c A H locs cells slots ad ad0 lsA c0 s0 n0 Q) {y2 : Nat} {r : List qV} {stV : List Value} {av : Array Value} (ho : ∀ v ∈ r, qok M.1.length v)
    (hrun : va_Run p l e R s m args below meth c H locs cells slots (qmc y2) (qms y2) (F0 m pc lsA stV) (r.map (qv ad sa)) (qQc D cy sa ad M H.size (fun r2 M3 => (M3.1.length = M.1.length + qmc y2 ∧ qsz M3.1 = qsz M.1 + qms y2) ∧ qS l D cy sa tb y lim (pc + 3) ls (r2.toList ++ r) M3 Rr) av) (va_A (qws ad sa cy M) H.size)) :
    W p l e R s m args below meth c H locs cells slots Q (F0 m pc lsA stV) := by
  intro T hT X
  obtain ⟨v, st₀, t, T', L, h0, X', hL, e1, e2, ⟨⟨w, M2, ad2, hv, ⟨⟨hl1, hl2⟩, hS2⟩, hP2, hD2, hM2, hok, hn, had⟩, hz, hk⟩, st⟩ := hrun T hT X
  have hv2 : v = w.map (qv ad2 sa) := by injection hv
  subst hv2
  rw [h0] at hz hk
  have hSS : va_S A s.heap T'.heap (locs ++ L) := ⟨Nat.le_trans C.hH.1.1 (by rw [e1]; exact hz), fun q g1 g2 => by
      rw [e1, hk q (Nat.lt_of_lt_of_le g1 C.hH.1.1) (fun z => g2 (C.free q z))]
      exact C.hH.1.2.1 q g1 g2, fun q hq => by
      rcases List.mem_append.mp hq with g | g
      · exact C.hH.1.2.2 q g
      · exact C.free _ (hL q g)⟩
  have hc1 := C.hH.2.2.2.2.1
  have hc2 := C.hH.2.2.2.2.2.1
  have k := C.goH (M2 := M2) (H2 := T'.heap) (locs2 := locs ++ L) (cells2 := cells + qmc y2) (slots2 := slots + qms y2) (ad2 := ad2) hS2 ⟨hSS, by rw [e1]; exact hP2, hD2.weaken (fun _ q _ h => C.free q.1 h), hM2, by omega, by omega, Nat.le_trans C.hH.2.2.2.2.2.2.1 hn, fun k hk => by rw [had k (Nat.lt_of_lt_of_le hk C.hH.2.2.2.2.2.2.1)]; exact C.hH.2.2.2.2.2.2.2 k hk⟩ hn had (fun x hx => by
      rcases List.mem_append.mp hx with g | g
      · cases w with
        | none => cases g
        | some z => rw [List.mem_singleton.mp g]; exact hok z rfl
      · exact qok_mono hn (ho x g))
  rw [List.map_append, map_ad ho had, ← opt_list] at k
  obtain ⟨t2, a1, b1⟩ := k T' rfl X'
  exact ⟨t2, st t2 a1, b1⟩
theorem qC.fix (C : qC l D cy sa tb y lim ls st M Rr p e R s m args below meth c A H locs cells slots ad ad0 lsA c0 s0 n0 Q) : CallFix p m c (qby y) (qmx y) s args qtb (qos (qow y)) := ⟨C.x, C.b, C.1.2.2.2.1, C.own, C.ts⟩
theorem qrm_call {y v a : Nat} (h : qrm y v a = true) (h6 : v ≠ 6) (h7 : v ≠ 7) (h8 : v ≠ 8) (h9 : v ≠ 9) : qfr a + 1 ≤ qfr y ∧ 8 + (qmx a + 11) + qlo a ≤ qlo y := by
  unfold qrm at h
  rw [if_neg h6, if_neg h7, if_neg h8, if_neg h9, Bool.and_eq_true] at h
  exact ⟨of_decide_eq_true h.1, of_decide_eq_true h.2⟩
set_option maxHeartbeats 4000000 in
theorem qs_invV (C : qC l D cy sa tb y lim ls st M Rr p e R s m args below meth c A H locs cells slots ad ad0 lsA c0 s0 n0 Q) {idx : Nat} (h1 : (qow y, idx, a, b, 0) ∈ qml) (hr : qrm y 0 a = true) (hd : decode (qby y) pc = .ok (.invokevirtual idx, 3)) (h : qgo (qS l D cy sa tb) y lim M Rr (match (generalizing := false) st.drop b with
    | x :: r => qcal lim a (pc + 3) (x :: (st.take b).reverse) ls r M (x.1 == 3 && (decide (0 ≤ x.2) && ((0 : Int) == 2 || ((0 : Int) == 5 || qis M.1 x.2 (qow a)))))
    | _ => none)) : W p l e R s m args below meth c H locs cells slots Q (F0 m pc lsA (st.map (qv ad sa))) := by
  cases hdr : st.drop b with
  | nil => rw [hdr] at h; exact h.elim
  | cons x r =>
    rw [hdr] at h
    obtain ⟨g1, g2, g3, g4, g5, hk⟩ := qgo_cal h
    have hst : st = st.take b ++ x :: r := by rw [← hdr, List.take_append_drop]
    have hbl : b < st.length := by
      have := congrArg List.length hdr
      rw [List.length_drop, List.length_cons] at this
      omega
    obtain ⟨t, x⟩ := x
    simp only [Bool.and_eq_true, Bool.or_eq_true, beq_iff_eq, decide_eq_true_eq] at g1
    obtain ⟨rfl, hx0, hq⟩ := g1
    have hq : qis M.1 x (qow a) = true := by
      rcases hq with hq | hq | hq
      · exact absurd hq (by decide)
      · exact absurd hq (by decide)
      · exact hq
    have hxc := (qis_spec hq).2
    have hcw : qow a < 10 := (C.hH.2.2.2.1 _ _ hxc).1
    have hw := qml_ok _ h1
    obtain ⟨hpar, hlt, hno⟩ := (qpar_ok _ h1).resolve_left (by simp) |>.resolve_left (by simp) |>.resolve_left (by simp) |>.resolve_left (by simp)
    have hlt : a < 184 := Nat.lt_succ_of_lt hlt
    have w1 := hw (.methodLink (qos (qow y)) idx (qnm a)) (by simp [qml_w])
    have w2 := hw (.instanceMethod (qnm a)) (by simp [qml_w])
    have w3 := hw (.selects (qnm a).cls (qnm a) (qnm a)) (by simp [qml_w])
    have w4 := hw (.initialized (qnm a).cls) (by simp [qml_w])
    have w5 := hw (.code (qnm a) (qby a) (qmx a) (qrt a)) (by simp [qml_w])
    obtain ⟨r1, r2⟩ := qrm_call hr (by decide) (by decide) (by decide) (by decide)
    have hokall : ∀ v ∈ (3, x) :: (st.take b).reverse, qok M.1.length v := fun v hv => by
      rcases List.mem_cons.mp hv with rfl | hv
      · exact C.hst _ (by rw [hst]; simp)
      · exact C.hst v (List.mem_of_mem_take (List.mem_reverse.mp hv))
    have hor : ∀ v ∈ r, qok M.1.length v := fun v hv => C.hst v (by rw [hst]; simp [hv])
    have hMt := qMet (ad := ad) H.size hlt hno hk (fun _ _ h => h.1) C.hH.2.2.2.1 hokall g5
    have hcls := qcls_ok a hlt
    have hpn := qplain _ (qow_lt a hlt) hno
    refine qs_back C (y2 := a) (r := r) hor (va_runV (C := qos (qow a)) (b := ad x.toNat) (As := (st.take b).reverse.map (qv ad sa)) (rest := r.map (qv ad sa)) C.fix hMt ⟨callB_of (Ts := qtb) (ws' := qtb) b C.ts (qC.good a w5) rfl rfl rfl (C.ts _ (qtb_in w4 rfl)) (C.ts _ (qtb_in w1 rfl)) ⟨by rw [hcls]; exact hpn.2.1, by rw [hcls]; exact hpn.2.2, hpar⟩ ⟨Nat.le_trans r1 C.1.2.2.2.2.2.2.2.1, Nat.le_trans r2 C.1.2.2.2.2.2.2.2.2.1⟩, C.ts _ (qtb_in w2 rfl), by rw [← hcls]; exact C.ts _ (qtb_in w3 rfl)⟩ ⟨qPc_blind, va_recv C.K C.hH.2.1 (qcl_at _ hcw) (qws_at hxc), fun U hU hW => ?_⟩ rfl ?_ (by show lsA.size = _; rw [C.L.1, C.n]) ?_ (lv_room (by rw [qcats_map hor]; exact g4)) hd ⟨C.roomC g2, C.roomS g3⟩)
    · have := C.pre ((3, x) :: (st.take b).reverse) U hU hW
      rw [List.map_cons, qv3 ad sa hx0] at this
      exact this
    · rw [List.length_map, List.length_reverse, List.length_take]
      omega
    · show st.map (qv ad sa) = _
      rw [List.map_reverse, List.reverse_reverse, ← qv3 ad sa hx0, ← List.map_cons, ← List.map_append, ← hst]
set_option maxHeartbeats 4000000 in
theorem qs_invS (C : qC l D cy sa tb y lim ls st M Rr p e R s m args below meth c A H locs cells slots ad ad0 lsA c0 s0 n0 Q) {idx : Nat} (h1 : (qow y, idx, a, b, 1) ∈ qml) (hr : qrm y 1 a = true) (hd : decode (qby y) pc = .ok (.invokestatic idx, 3)) (h : qgo (qS l D cy sa tb) y lim M Rr (qcal lim a (pc + 3) (st.take b).reverse ls (st.drop b) M (decide (b ≤ st.length)))) : W p l e R s m args below meth c H locs cells slots Q (F0 m pc lsA (st.map (qv ad sa))) := by
  obtain ⟨g1, g2, g3, g4, g5, hk⟩ := qgo_cal h
  have hbl : b ≤ st.length := of_decide_eq_true g1
  have hw := qml_ok _ h1
  obtain ⟨hpar, hlt, hno⟩ := (qpar_ok _ h1).resolve_left (by simp) |>.resolve_left (by simp) |>.resolve_left (by simp) |>.resolve_left (by simp)
  have hlt : a < 184 := Nat.lt_succ_of_lt hlt
  have w1 := hw (.methodLink (qos (qow y)) idx (qnm a)) (by simp [qml_w])
  have w2 := hw (.static (qnm a)) (by simp [qml_w])
  have w4 := hw (.initialized (qnm a).cls) (by simp [qml_w])
  have w5 := hw (.code (qnm a) (qby a) (qmx a) (qrt a)) (by simp [qml_w])
  obtain ⟨r1, r2⟩ := qrm_call hr (by decide) (by decide) (by decide) (by decide)
  have hokall : ∀ v ∈ (st.take b).reverse, qok M.1.length v := fun v hv => C.hst v (List.mem_of_mem_take (List.mem_reverse.mp hv))
  have hor : ∀ v ∈ st.drop b, qok M.1.length v := fun v hv => C.hst v (List.mem_of_mem_drop hv)
  have hMt := qMet (ad := ad) H.size hlt hno hk (fun _ _ h => h.1) C.hH.2.2.2.1 hokall g5
  have hcls := qcls_ok a hlt
  have hpn := qplain _ (qow_lt a hlt) hno
  refine qs_back C (y2 := a) (r := st.drop b) hor (va_runS (As := (st.take b).reverse.map (qv ad sa)) (rest := (st.drop b).map (qv ad sa)) C.fix hMt ⟨callB_of (Ts := qtb) (ws' := qtb) b C.ts (qC.good a w5) rfl rfl rfl (C.ts _ (qtb_in w4 rfl)) (C.ts _ (qtb_in w1 rfl)) ⟨by rw [hcls]; exact hpn.2.1, by rw [hcls]; exact hpn.2.2, hpar⟩ ⟨Nat.le_trans r1 C.1.2.2.2.2.2.2.2.1, Nat.le_trans r2 C.1.2.2.2.2.2.2.2.2.1⟩, C.ts _ (qtb_in w2 rfl)⟩ ⟨qPc_blind, fun U hU hW => C.pre _ U hU hW⟩ rfl ?_ (by show lsA.size = _; rw [C.L.1, C.n]) ?_ (lv_room (by rw [qcats_map hor]; exact g4)) hd ⟨C.roomC g2, C.roomS g3⟩)
  · rw [List.length_map, List.length_reverse, List.length_take]
    omega
  · show st.map (qv ad sa) = _
    rw [List.map_reverse, List.reverse_reverse, ← List.map_append, List.take_append_drop]
set_option maxHeartbeats 4000000 in
theorem qs_invSN (C : qC l D cy sa tb y lim ls st M Rr p e R s m args below meth c A H locs cells slots ad ad0 lsA c0 s0 n0 Q) {idx : Nat} (h1 : (qow y, idx, a, b, 4) ∈ qml) (hr : qrm y 4 a = true) (hd : decode (qby y) pc = .ok (.invokestatic idx, 3)) (h : qgo (qS l D cy sa tb) y lim M Rr (qcal lim a (pc + 3) (st.take b).reverse ls (st.drop b) M (decide (b ≤ st.length)))) : W p l e R s m args below meth c H locs cells slots Q (F0 m pc lsA (st.map (qv ad sa))) := by
  obtain ⟨g1, g2, g3, g4, g5, hk⟩ := qgo_cal h
  have hbl : b ≤ st.length := of_decide_eq_true g1
  have hw := qml_ok _ h1
  obtain ⟨hpar, hlt, hno⟩ := (qpar_ok _ h1).resolve_left (by simp) |>.resolve_left (by simp) |>.resolve_left (by simp) |>.resolve_left (by simp)
  have hlt : a < 184 := Nat.lt_succ_of_lt hlt
  have w1 := hw (.methodLinkNest (qos (qow y)) idx (qnm a) RX8) (by simp [qml_w])
  have w2 := hw (.static (qnm a)) (by simp [qml_w])
  have w4 := hw (.initialized (qnm a).cls) (by simp [qml_w])
  have w5 := hw (.code (qnm a) (qby a) (qmx a) (qrt a)) (by simp [qml_w])
  obtain ⟨r1, r2⟩ := qrm_call hr (by decide) (by decide) (by decide) (by decide)
  have hokall : ∀ v ∈ (st.take b).reverse, qok M.1.length v := fun v hv => C.hst v (List.mem_of_mem_take (List.mem_reverse.mp hv))
  have hor : ∀ v ∈ st.drop b, qok M.1.length v := fun v hv => C.hst v (List.mem_of_mem_drop hv)
  have hMt := qMet (ad := ad) H.size hlt hno hk (fun _ _ h => h.1) C.hH.2.2.2.1 hokall g5
  have hcls := qcls_ok a hlt
  have hpn := qplain _ (qow_lt a hlt) hno
  refine qs_back C (y2 := a) (r := st.drop b) hor (va_runSN (As := (st.take b).reverse.map (qv ad sa)) (rest := (st.drop b).map (qv ad sa)) C.fix hMt ⟨va_cnB (Ts := qtb) (ws' := qtb) b C.ts (qC.good a w5) rfl rfl rfl (C.2.1.2.1 _ (qnst_in w1 rfl)) (C.ts _ (qtb_in w4 rfl)) ⟨by rw [hcls]; exact hpn.2.1, by rw [hcls]; exact hpn.2.2, hpar⟩ ⟨Nat.le_trans r1 C.1.2.2.2.2.2.2.2.1, Nat.le_trans r2 C.1.2.2.2.2.2.2.2.2.1⟩, C.ts _ (qtb_in w2 rfl), trivial⟩ ⟨qPc_blind, fun U hU hW => C.pre _ U hU hW⟩ rfl ?_ (by show lsA.size = _; rw [C.L.1, C.n]) ?_ (lv_room (by rw [qcats_map hor]; exact g4)) hd ⟨C.roomC g2, C.roomS g3⟩)
  · rw [List.length_map, List.length_reverse, List.length_take]
    omega
  · show st.map (qv ad sa) = _
    rw [List.map_reverse, List.reverse_reverse, ← List.map_append, List.take_append_drop]
set_option maxHeartbeats 4000000 in
theorem qs_invI (C : qC l D cy sa tb y lim ls st M Rr p e R s m args below meth c A H locs cells slots ad ad0 lsA c0 s0 n0 Q) {idx : Nat} (h1 : (qow y, idx, a, b, 2) ∈ qml) (hin : a ∈ qinits) (hr : qrm y 2 a = true) (hd : decode (qby y) pc = .ok (.invokespecial idx, 3)) (h : qgo (qS l D cy sa tb) y lim M Rr (match (generalizing := false) st.drop b with
    | x :: r => qcal lim a (pc + 3) (x :: (st.take b).reverse) ls r M (x.1 == 3 && (decide (0 ≤ x.2) && ((2 : Int) == 2 || ((2 : Int) == 5 || qis M.1 x.2 (qow a)))))
    | _ => none)) : W p l e R s m args below meth c H locs cells slots Q (F0 m pc lsA (st.map (qv ad sa))) := by
  cases hdr : st.drop b with
  | nil => rw [hdr] at h; exact h.elim
  | cons x r =>
    rw [hdr] at h
    obtain ⟨g1, g2, g3, g4, g5, hk⟩ := qgo_cal h
    have hst : st = st.take b ++ x :: r := by rw [← hdr, List.take_append_drop]
    have hbl : b < st.length := by
      have := congrArg List.length hdr
      rw [List.length_drop, List.length_cons] at this
      omega
    obtain ⟨t, x⟩ := x
    simp only [Bool.and_eq_true, beq_iff_eq, decide_eq_true_eq] at g1
    obtain ⟨rfl, hx0, -⟩ := g1
    have hw := qml_ok _ h1
    obtain ⟨hpar, hlt, hno⟩ := (qpar_ok _ h1).resolve_left (by simp) |>.resolve_left (by simp) |>.resolve_left (by simp) |>.resolve_left (by simp)
    have hlt : a < 184 := Nat.lt_succ_of_lt hlt
    have w1 := hw (.methodLink (qos (qow y)) idx (qnm a)) (by simp [qml_w])
    have w2 := hw (.instanceMethod (qnm a)) (by simp [qml_w])
    have w4 := hw (.initialized (qnm a).cls) (by simp [qml_w])
    have w5 := hw (.code (qnm a) (qby a) (qmx a) (qrt a)) (by simp [qml_w])
    obtain ⟨r1, r2⟩ := qrm_call hr (by decide) (by decide) (by decide) (by decide)
    have hokall : ∀ v ∈ (3, x) :: (st.take b).reverse, qok M.1.length v := fun v hv => by
      rcases List.mem_cons.mp hv with rfl | hv
      · exact C.hst _ (by rw [hst]; simp)
      · exact C.hst v (List.mem_of_mem_take (List.mem_reverse.mp hv))
    have hor : ∀ v ∈ r, qok M.1.length v := fun v hv => C.hst v (by rw [hst]; simp [hv])
    have hMt := qMet (ad := ad) H.size hlt hno hk (fun _ _ h => h.1) C.hH.2.2.2.1 hokall g5
    have hcls := qcls_ok a hlt
    have hpn := qplain _ (qow_lt a hlt) hno
    obtain ⟨hnam, hret⟩ := qini_ok a hin
    refine qs_back C (y2 := a) (r := r) hor (va_runI (bytes := qby a) (maxL := qmx a) (b := ad x.toNat) (As := (st.take b).reverse.map (qv ad sa)) (rest := r.map (qv ad sa)) C.fix hMt ⟨callB_of (Ts := qtb) (ws' := qtb) b C.ts (qC.good a w5) (by rw [← hret]) rfl rfl (C.ts _ (qtb_in w4 rfl)) (C.ts _ (qtb_in w1 rfl)) ⟨by rw [hcls]; exact hpn.2.1, by rw [hcls]; exact hpn.2.2, hpar⟩ ⟨Nat.le_trans r1 C.1.2.2.2.2.2.2.2.1, Nat.le_trans r2 C.1.2.2.2.2.2.2.2.2.1⟩, hnam, C.ts _ (qtb_in w2 rfl)⟩ ⟨qPc_blind, fun U hU hW => ?_⟩ rfl ?_ (by show lsA.size = _; rw [C.L.1, C.n]) ?_ (lv_room (by rw [qcats_map hor]; exact g4)) hd ⟨C.roomC g2, C.roomS g3⟩)
    · have := C.pre ((3, x) :: (st.take b).reverse) U hU hW
      rw [List.map_cons, qv3 ad sa hx0] at this
      exact this
    · rw [List.length_map, List.length_reverse, List.length_take]
      omega
    · show st.map (qv ad sa) = _
      rw [List.map_reverse, List.reverse_reverse, ← qv3 ad sa hx0, ← List.map_cons, ← List.map_append, ← hst]
set_option maxHeartbeats 4000000 in
theorem qs_invIN (C : qC l D cy sa tb y lim ls st M Rr p e R s m args below meth c A H locs cells slots ad ad0 lsA c0 s0 n0 Q) {idx : Nat} (h1 : (qow y, idx, a, b, 5) ∈ qml) (hin : a ∈ qinits) (hr : qrm y 5 a = true) (hd : decode (qby y) pc = .ok (.invokespecial idx, 3)) (h : qgo (qS l D cy sa tb) y lim M Rr (match (generalizing := false) st.drop b with
    | x :: r => qcal lim a (pc + 3) (x :: (st.take b).reverse) ls r M (x.1 == 3 && (decide (0 ≤ x.2) && ((5 : Int) == 2 || ((5 : Int) == 5 || qis M.1 x.2 (qow a)))))
    | _ => none)) : W p l e R s m args below meth c H locs cells slots Q (F0 m pc lsA (st.map (qv ad sa))) := by
  cases hdr : st.drop b with
  | nil => rw [hdr] at h; exact h.elim
  | cons x r =>
    rw [hdr] at h
    obtain ⟨g1, g2, g3, g4, g5, hk⟩ := qgo_cal h
    have hst : st = st.take b ++ x :: r := by rw [← hdr, List.take_append_drop]
    have hbl : b < st.length := by
      have := congrArg List.length hdr
      rw [List.length_drop, List.length_cons] at this
      omega
    obtain ⟨t, x⟩ := x
    simp only [Bool.and_eq_true, beq_iff_eq, decide_eq_true_eq] at g1
    obtain ⟨rfl, hx0, -⟩ := g1
    have hw := qml_ok _ h1
    obtain ⟨hpar, hlt, hno⟩ := (qpar_ok _ h1).resolve_left (by simp) |>.resolve_left (by simp) |>.resolve_left (by simp) |>.resolve_left (by simp)
    have hlt : a < 184 := Nat.lt_succ_of_lt hlt
    have w1 := hw (.methodLinkNest (qos (qow y)) idx (qnm a) RX8) (by simp [qml_w])
    have w2 := hw (.instanceMethod (qnm a)) (by simp [qml_w])
    have w4 := hw (.initialized (qnm a).cls) (by simp [qml_w])
    have w5 := hw (.code (qnm a) (qby a) (qmx a) (qrt a)) (by simp [qml_w])
    obtain ⟨r1, r2⟩ := qrm_call hr (by decide) (by decide) (by decide) (by decide)
    have hokall : ∀ v ∈ (3, x) :: (st.take b).reverse, qok M.1.length v := fun v hv => by
      rcases List.mem_cons.mp hv with rfl | hv
      · exact C.hst _ (by rw [hst]; simp)
      · exact C.hst v (List.mem_of_mem_take (List.mem_reverse.mp hv))
    have hor : ∀ v ∈ r, qok M.1.length v := fun v hv => C.hst v (by rw [hst]; simp [hv])
    have hMt := qMet (ad := ad) H.size hlt hno hk (fun _ _ h => h.1) C.hH.2.2.2.1 hokall g5
    have hcls := qcls_ok a hlt
    have hpn := qplain _ (qow_lt a hlt) hno
    obtain ⟨hnam, hret⟩ := qini_ok a hin
    refine qs_back C (y2 := a) (r := r) hor (va_runIN (bytes := qby a) (maxL := qmx a) (b := ad x.toNat) (As := (st.take b).reverse.map (qv ad sa)) (rest := r.map (qv ad sa)) C.fix hMt ⟨va_cnB (Ts := qtb) (ws' := qtb) b C.ts (qC.good a w5) (by rw [← hret]) rfl rfl (C.2.1.2.1 _ (qnst_in w1 rfl)) (C.ts _ (qtb_in w4 rfl)) ⟨by rw [hcls]; exact hpn.2.1, by rw [hcls]; exact hpn.2.2, hpar⟩ ⟨Nat.le_trans r1 C.1.2.2.2.2.2.2.2.1, Nat.le_trans r2 C.1.2.2.2.2.2.2.2.2.1⟩, hnam, C.ts _ (qtb_in w2 rfl)⟩ ⟨qPc_blind, fun U hU hW => ?_⟩ rfl ?_ (by show lsA.size = _; rw [C.L.1, C.n]) ?_ (lv_room (by rw [qcats_map hor]; exact g4)) hd ⟨C.roomC g2, C.roomS g3⟩)
    · have := C.pre ((3, x) :: (st.take b).reverse) U hU hW
      rw [List.map_cons, qv3 ad sa hx0] at this
      exact this
    · rw [List.length_map, List.length_reverse, List.length_take]
      omega
    · show st.map (qv ad sa) = _
      rw [List.map_reverse, List.reverse_reverse, ← qv3 ad sa hx0, ← List.map_cons, ← List.map_append, ← hst]
theorem qs_obj (C : qC l D cy sa tb y lim ls st M Rr p e R s m args below meth c A H locs cells slots ad ad0 lsA c0 s0 n0 Q) {idx : Nat} (h1 : (qow y, idx, a, b, 6) ∈ qml) (hr : qrm y 6 a = true) (hd : decode (qby y) pc = .ok (.invokespecial idx, 3)) (h : qgo (qS l D cy sa tb) y lim M Rr (match (generalizing := false) st with
    | x :: r => qnx (x.1 == 3 && (decide (0 ≤ x.2) && decide (qcats r ≤ 8))) (pc + 3) ls r M
    | _ => none)) : W p l e R s m args below meth c H locs cells slots Q (F0 m pc lsA (st.map (qv ad sa))) := by
  cases st with
  | nil => exact h.elim
  | cons x r =>
    obtain ⟨t, x⟩ := x
    obtain ⟨hg, h⟩ := h
    simp only [Bool.and_eq_true, beq_iff_eq, decide_eq_true_eq] at hg
    obtain ⟨rfl, hx0, hc⟩ := hg
    have hw := qml_ok _ h1
    have w1 := C.ts _ (qtb_in (hw (.methodLink (qos (qow y)) idx objectInit) (by simp [qml_w])) rfl)
    have w2 := C.ts _ (qtb_in (hw (.instanceMethod objectInit) (by simp [qml_w])) rfl)
    have w3 := C.ts _ (qtb_in (hw (.code objectInit ⟨#[0xb1]⟩ 1 none) (by simp [qml_w])) rfl)
    have hr : (decide (1 ≤ qfr y) && decide (20 ≤ qlo y)) = true := hr
    simp only [Bool.and_eq_true, decide_eq_true_eq] at hr
    have e2 : qlo y ≤ R.locals := C.1.2.2.2.2.2.2.2.2.1
    have k := C.goS h (ok_tl C.hst)
    rw [List.map_cons, qv3 ad sa hx0]
    refine W.objInit C.x C.b C.own w1 w2 w3 rfl (by show lsA.size = _; rw [C.L.1, C.n, C.1.2.2.2.1]) rfl hd (Nat.le_trans hr.1 C.1.2.2.2.2.2.2.2.1) (by show 2 * 0 + _ + 12 ≤ _; rw [qcats_map (ok_tl C.hst)]; omega) k
theorem qs_min (C : qC l D cy sa tb y lim ls st M Rr p e R s m args below meth c A H locs cells slots ad ad0 lsA c0 s0 n0 Q) {idx : Nat} (h1 : (qow y, idx, a, b, 8) ∈ qml) (hr : qrm y 8 a = true) (hd : decode (qby y) pc = .ok (.invokestatic idx, 3)) (h : qgo (qS l D cy sa tb) y lim M Rr (qmin lim (pc + 3) ls st M)) : W p l e R s m args below meth c H locs cells slots Q (F0 m pc lsA (st.map (qv ad sa))) := by
  unfold qmin at h
  split at h
  · next z x r =>
    obtain ⟨hg, h⟩ := h
    obtain ⟨t1, z⟩ := z
    obtain ⟨t2, x⟩ := x
    simp only [Bool.and_eq_true, beq_iff_eq, decide_eq_true_eq] at hg
    obtain ⟨rfl, rfl, hc, hrc, hrs⟩ := hg
    have hz : -2147483648 ≤ z ∧ z < 2147483648 := ok_hd C.hst
    have hx : -2147483648 ≤ x ∧ x < 2147483648 := ok_hd (ok_tl C.hst)
    have hw := qml_ok _ h1
    have w1 := C.ts _ (qtb_in (hw (.methodLink (qos (qow y)) idx yJ9_min_7cf53) (by simp [qml_w])) rfl)
    have w2 := C.ts _ (qtb_in (hw (.static yJ9_min_7cf53) (by simp [qml_w])) rfl)
    have w3 := C.ts _ (qtb_in (hw (.initialized "java/lang/Math") (by simp [qml_w])) rfl)
    have w4 := C.ts _ (qtb_in (hw (.code yJ9_min_7cf53 cJ9_min_7cf53 2 (some .int)) (by simp [qml_w])) rfl)
    have hr : (decide (1 ≤ qfr y) && decide (21 ≤ qlo y)) = true := hr
    simp only [Bool.and_eq_true, decide_eq_true_eq] at hr
    have e2 : qlo y ≤ R.locals := C.1.2.2.2.2.2.2.2.2.1
    have e3 : i1 (if z < x then z else x) = if i1 z < i1 x then i1 z else i1 x := by
      by_cases q : z < x
      · rw [if_pos q, if_pos ((lt_i1 hz hx).mpr q)]
      · rw [if_neg q, if_neg (fun q2 => q ((lt_i1 hz hx).mp q2))]
    have e4 : qok M.1.length (0, if z < x then z else x) := by
      by_cases q : z < x
      · rw [if_pos q]; exact hz
      · rw [if_neg q]; exact hx
    have k := C.goS h (ok_cons e4 (ok_tl (ok_tl C.hst)))
    rw [List.map_cons, qv0, e3] at k
    have rc := C.roomC (n := 0) hrc
    have rs := C.roomS (n := 0) hrs
    exact va_mmin C.x C.b (by rw [C.1.2.2.2.1, C.L.1, C.n]) C.own w1 w2 w3 w4 (Nat.le_trans hr.1 C.1.2.2.2.2.2.2.2.1) (by rw [qcats_map (ok_tl (ok_tl C.hst))]; omega) rc rs hd k
  · exact h.elim
theorem qs_abs (C : qC l D cy sa tb y lim ls st M Rr p e R s m args below meth c A H locs cells slots ad ad0 lsA c0 s0 n0 Q) {idx : Nat} (h1 : (qow y, idx, a, b, 9) ∈ qml) (hr : qrm y 9 a = true) (hd : decode (qby y) pc = .ok (.invokestatic idx, 3)) (h : qgo (qS l D cy sa tb) y lim M Rr (qabs lim (pc + 3) ls st M)) : W p l e R s m args below meth c H locs cells slots Q (F0 m pc lsA (st.map (qv ad sa))) := by
  unfold qabs at h
  split at h
  · next x r =>
    obtain ⟨hg, h⟩ := h
    obtain ⟨t2, x⟩ := x
    simp only [Bool.and_eq_true, beq_iff_eq, decide_eq_true_eq] at hg
    obtain ⟨rfl, hc, hrc, hrs⟩ := hg
    have hx : -2147483648 ≤ x ∧ x < 2147483648 := ok_hd C.hst
    have hw := qml_ok _ h1
    have w1 := C.ts _ (qtb_in (hw (.methodLink (qos (qow y)) idx yJ9_abs_0f7a4) (by simp [qml_w])) rfl)
    have w2 := C.ts _ (qtb_in (hw (.static yJ9_abs_0f7a4) (by simp [qml_w])) rfl)
    have w3 := C.ts _ (qtb_in (hw (.initialized "java/lang/Math") (by simp [qml_w])) rfl)
    have w4 := C.ts _ (qtb_in (hw (.code yJ9_abs_0f7a4 cJ9_abs_0f7a4 1 (some .int)) (by simp [qml_w])) rfl)
    have hr : (decide (1 ≤ qfr y) && decide (21 ≤ qlo y)) = true := hr
    simp only [Bool.and_eq_true, decide_eq_true_eq] at hr
    have e2 : qlo y ≤ R.locals := C.1.2.2.2.2.2.2.2.2.1
    have e3 : i1 (if 0 ≤ x then x else w32 (0 - x)) = if 0 ≤ i1 x then i1 x else 0 - i1 x := by
      have h0 : (0 : Int32) = i1 0 := by decide
      by_cases q : 0 ≤ x
      · rw [if_pos q, if_pos (by rw [h0]; exact (le_i1 ⟨by omega, by omega⟩ hx).mpr q)]
      · rw [if_neg q, if_neg (fun q2 => q ((le_i1 ⟨by omega, by omega⟩ hx).mp (by rw [← h0]; exact q2))), i1_w32, h0]
        exact Int32.ofInt_sub 0 x
    have e4 : qok M.1.length (0, if 0 ≤ x then x else w32 (0 - x)) := by
      by_cases q : 0 ≤ x
      · rw [if_pos q]; exact hx
      · rw [if_neg q]; exact w32_rng _
    have k := C.goS h (ok_cons e4 (ok_tl C.hst))
    rw [List.map_cons, qv0, e3] at k
    exact va_mabs C.x C.b (by rw [C.1.2.2.2.1, C.L.1, C.n]) C.own w1 w2 w3 w4 (Nat.le_trans hr.1 C.1.2.2.2.2.2.2.2.1) (by rw [qcats_map (ok_tl C.hst)]; omega) (C.roomC (n := 0) hrc) (C.roomS (n := 0) hrs) hd k
  · exact h.elim
end QCALL
