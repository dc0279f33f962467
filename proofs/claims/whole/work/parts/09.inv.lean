/-! what a step that goes well says of the stack -/
section QINV
variable {P : qP} {y : Nat} {lim : Nat × Nat} {M : qM} {R : Option qV → qM → Prop} {pc : Nat} {ls st : List qV}
theorem qgo_nx {g : Bool} {M2 : qM} (h : qgo P y lim M R (qnx g pc ls st M2)) : g = true ∧ P y lim pc ls st M2 R := h
theorem qgo_pu {v : qV} (h : qgo P y lim M R (qpu v pc ls st M)) : P y lim pc ls (v :: st) M R := h.2
theorem qgo_lod {t i : Nat} (h : qgo P y lim M R (qlod t i pc ls st M)) : ∃ x, ls[i]? = some (t, x) ∧ P y lim pc ls ((t, x) :: st) M R := by
  unfold qlod at h
  split at h
  · next v hv =>
    obtain ⟨hg, h⟩ := h
    obtain ⟨a, x⟩ := v
    have : a = t := by simpa using hg
    subst this
    exact ⟨x, hv, h⟩
  · exact h.elim
theorem qgo_st1 {t i : Nat} (h : qgo P y lim M R (qst1 t i pc ls st M)) : ∃ x r, st = (t, x) :: r ∧ i < ls.length ∧ qfre i ls = true ∧ P y lim pc (ls.set i (t, x)) r M R := by
  unfold qst1 at h
  split at h
  · next v r =>
    obtain ⟨hg, h⟩ := h
    obtain ⟨a, x⟩ := v
    simp only [Bool.and_eq_true, beq_iff_eq, decide_eq_true_eq] at hg
    obtain ⟨rfl, h1, h2⟩ := hg
    exact ⟨x, r, rfl, h1, h2, h⟩
  · exact h.elim
theorem qgo_st2 {t i : Nat} (h : qgo P y lim M R (qst2 t i pc ls st M)) : ∃ x r, st = (t, x) :: r ∧ i + 1 < ls.length ∧ qfre i ls = true ∧ P y lim pc ((ls.set i (t, x)).set (i + 1) (9, 0)) r M R := by
  unfold qst2 at h
  split at h
  · next v r =>
    obtain ⟨hg, h⟩ := h
    obtain ⟨a, x⟩ := v
    simp only [Bool.and_eq_true, beq_iff_eq, decide_eq_true_eq] at hg
    obtain ⟨rfl, h1, h2⟩ := hg
    exact ⟨x, r, rfl, h1, h2, h⟩
  · exact h.elim
theorem qgo_ii {f : Int → Int → Int} (h : qgo P y lim M R (qii f pc ls st M)) : ∃ x z r, st = (0, z) :: (0, x) :: r ∧ P y lim pc ls ((0, f x z) :: r) M R := by
  unfold qii at h
  split at h
  · next z x r =>
    obtain ⟨hg, h⟩ := h
    obtain ⟨a, x⟩ := x
    obtain ⟨b, z⟩ := z
    simp only [Bool.and_eq_true, beq_iff_eq] at hg
    obtain ⟨rfl, rfl⟩ := hg
    exact ⟨x, z, r, rfl, h⟩
  · exact h.elim
theorem qgo_id {f : Int → Int → Int} (h : qgo P y lim M R (qid f pc ls st M)) : ∃ x z r, st = (0, z) :: (0, x) :: r ∧ ¬ z = 0 ∧ P y lim pc ls ((0, f x z) :: r) M R := by
  unfold qid at h
  split at h
  · next z x r =>
    obtain ⟨hg, h⟩ := h
    obtain ⟨a, x⟩ := x
    obtain ⟨b, z⟩ := z
    simp only [Bool.and_eq_true, beq_iff_eq, Bool.not_eq_true', beq_eq_false_iff_ne] at hg
    obtain ⟨rfl, rfl, hz⟩ := hg
    exact ⟨x, z, r, rfl, hz, h⟩
  · exact h.elim
theorem qgo_ll {f : Int → Int → Int} (h : qgo P y lim M R (qll f pc ls st M)) : ∃ x z r, st = (1, z) :: (1, x) :: r ∧ P y lim pc ls ((1, f x z) :: r) M R := by
  unfold qll at h
  split at h
  · next z x r =>
    obtain ⟨hg, h⟩ := h
    obtain ⟨a, x⟩ := x
    obtain ⟨b, z⟩ := z
    simp only [Bool.and_eq_true, beq_iff_eq] at hg
    obtain ⟨rfl, rfl⟩ := hg
    exact ⟨x, z, r, rfl, h⟩
  · exact h.elim
theorem qgo_ldv {f : Int → Int → Int} (h : qgo P y lim M R (qldv f pc ls st M)) : ∃ x z r, st = (1, z) :: (1, x) :: r ∧ ¬ z = 0 ∧ P y lim pc ls ((1, f x z) :: r) M R := by
  unfold qldv at h
  split at h
  · next z x r =>
    obtain ⟨hg, h⟩ := h
    obtain ⟨a, x⟩ := x
    obtain ⟨b, z⟩ := z
    simp only [Bool.and_eq_true, beq_iff_eq, Bool.not_eq_true', beq_eq_false_iff_ne] at hg
    obtain ⟨rfl, rfl, hz⟩ := hg
    exact ⟨x, z, r, rfl, hz, h⟩
  · exact h.elim
theorem qgo_li {f : Int → Int → Int} (h : qgo P y lim M R (qli f pc ls st M)) : ∃ x z r, st = (0, z) :: (1, x) :: r ∧ P y lim pc ls ((1, f x z) :: r) M R := by
  unfold qli at h
  split at h
  · next z x r =>
    obtain ⟨hg, h⟩ := h
    obtain ⟨a, x⟩ := x
    obtain ⟨b, z⟩ := z
    simp only [Bool.and_eq_true, beq_iff_eq] at hg
    obtain ⟨rfl, rfl⟩ := hg
    exact ⟨x, z, r, rfl, h⟩
  · exact h.elim
theorem qgo_ff {f : UInt32 → UInt32 → UInt32} (h : qgo P y lim M R (qff f pc ls st M)) : ∃ x z r, st = (2, z) :: (2, x) :: r ∧ vf_n32 (f (f1 x) (f1 z)) ∧ P y lim pc ls ((2, ((f (f1 x) (f1 z)).toNat : Int)) :: r) M R := by
  unfold qff at h
  split at h
  · next z x r =>
    obtain ⟨hg, h⟩ := h
    obtain ⟨a, x⟩ := x
    obtain ⟨b, z⟩ := z
    simp only [Bool.and_eq_true, beq_iff_eq, decide_eq_true_eq] at hg
    obtain ⟨rfl, rfl, hz⟩ := hg
    exact ⟨x, z, r, rfl, hz, h⟩
  · exact h.elim
theorem qgo_dd {f : UInt64 → UInt64 → UInt64} (h : qgo P y lim M R (qdd f pc ls st M)) : ∃ x z r, st = (4, z) :: (4, x) :: r ∧ vf_n64 (f (d1 x) (d1 z)) ∧ P y lim pc ls ((4, ((f (d1 x) (d1 z)).toNat : Int)) :: r) M R := by
  unfold qdd at h
  split at h
  · next z x r =>
    obtain ⟨hg, h⟩ := h
    obtain ⟨a, x⟩ := x
    obtain ⟨b, z⟩ := z
    simp only [Bool.and_eq_true, beq_iff_eq, decide_eq_true_eq] at hg
    obtain ⟨rfl, rfl, hz⟩ := hg
    exact ⟨x, z, r, rfl, hz, h⟩
  · exact h.elim
theorem qgo_cmp {t : Nat} {f : Int → Int → Int} (h : qgo P y lim M R (qcmp t f pc ls st M)) : ∃ x z r, st = (t, z) :: (t, x) :: r ∧ P y lim pc ls ((0, f x z) :: r) M R := by
  unfold qcmp at h
  split at h
  · next z x r =>
    obtain ⟨hg, h⟩ := h
    obtain ⟨a, x⟩ := x
    obtain ⟨b, z⟩ := z
    simp only [Bool.and_eq_true, beq_iff_eq] at hg
    obtain ⟨rfl, rfl⟩ := hg
    exact ⟨x, z, r, rfl, h⟩
  · exact h.elim
theorem qgo_un {t u : Nat} {f : Int → Int} (h : qgo P y lim M R (qun t u f pc ls st M)) : ∃ x r, st = (t, x) :: r ∧ P y lim pc ls ((u, f x) :: r) M R := by
  unfold qun at h
  split at h
  · next x r =>
    obtain ⟨hg, h⟩ := h
    obtain ⟨a, x⟩ := x
    simp only [beq_iff_eq] at hg
    obtain rfl := hg
    exact ⟨x, r, rfl, h⟩
  · exact h.elim
theorem qgo_if1 {c : ClassFile.Cond} {a b : Nat} (h : qgo P y lim M R (qif1 c a b ls st M)) : ∃ x r, st = (0, x) :: r ∧ P y lim (qifc c x 0 a b) ls r M R := by
  unfold qif1 at h
  split at h
  · next x r =>
    obtain ⟨hg, h⟩ := h
    obtain ⟨a, x⟩ := x
    simp only [beq_iff_eq] at hg
    obtain rfl := hg
    exact ⟨x, r, rfl, h⟩
  · exact h.elim
theorem qgo_if2 {c : ClassFile.Cond} {a b : Nat} (h : qgo P y lim M R (qif2 c a b ls st M)) : ∃ x z r, st = (0, z) :: (0, x) :: r ∧ P y lim (qifc c x z a b) ls r M R := by
  unfold qif2 at h
  split at h
  · next z x r =>
    obtain ⟨hg, h⟩ := h
    obtain ⟨a, x⟩ := x
    obtain ⟨b, z⟩ := z
    simp only [Bool.and_eq_true, beq_iff_eq] at hg
    obtain ⟨rfl, rfl⟩ := hg
    exact ⟨x, z, r, rfl, h⟩
  · exact h.elim
theorem qis_spec {l : List qK} {c : Int} {a : Nat} (h : qis l c a = true) : 0 ≤ c ∧ l[c.toNat]? = some (0, a) := by
  unfold qis at h
  simpa using h
theorem qgo_get {a b : Nat} (h : qgo P y lim M R (qget a b pc ls st M)) : ∃ x r, st = (3, x) :: r ∧ 0 ≤ x ∧ M.1[x.toNat]? = some (0, a) ∧ P y lim pc ls ((qtg a b, M.2 x.toNat b) :: r) M R := by
  unfold qget at h
  split at h
  · next x r =>
    obtain ⟨hg, h⟩ := h
    obtain ⟨t, x⟩ := x
    simp only [Bool.and_eq_true, beq_iff_eq] at hg
    obtain ⟨rfl, hi⟩ := hg
    exact ⟨x, r, rfl, (qis_spec hi).1, (qis_spec hi).2, h⟩
  · exact h.elim
theorem qgo_put {a b : Nat} (h : qgo P y lim M R (qput a b pc ls st M)) : ∃ v x r, st = (qtg a b, v) :: (3, x) :: r ∧ 0 ≤ x ∧ M.1[x.toNat]? = some (0, a) ∧ P y lim pc ls r (M.1, qup M.2 x.toNat b v) R := by
  unfold qput at h
  split at h
  · next v x r =>
    obtain ⟨hg, h⟩ := h
    obtain ⟨t, x⟩ := x
    obtain ⟨t2, v⟩ := v
    simp only [Bool.and_eq_true, beq_iff_eq] at hg
    obtain ⟨rfl, rfl, hi⟩ := hg
    exact ⟨v, x, r, rfl, (qis_spec hi).1, (qis_spec hi).2, h⟩
  · exact h.elim
theorem qln_spec {k : Nat} {l : List qK} {c i : Int} (h : 0 ≤ i ∧ i < qln k l c) : 0 ≤ c ∧ ∃ n, l[c.toNat]? = some (k, n) ∧ i < (n : Int) ∧ qln k l c = n := by
  unfold qln at h ⊢
  by_cases hc : c < 0
  · rw [if_pos hc] at h; omega
  · rw [if_neg hc] at h ⊢
    refine ⟨by omega, ?_⟩
    cases hq : l[c.toNat]? with
    | none => rw [hq] at h; dsimp only at h; omega
    | some q =>
      obtain ⟨k2, n⟩ := q
      rw [hq] at h
      dsimp only at h ⊢
      by_cases hk : k2 = k
      · subst hk
        rw [if_pos rfl] at h ⊢
        exact ⟨n, rfl, h.2, rfl⟩
      · rw [if_neg hk] at h; omega
theorem qrk_spec {l : List qK} {c : Int} {n : Nat} (h : qrk l c = n + 1) : ∃ m, l[c.toNat]? = some (n + 1, m) := by
  unfold qrk at h
  cases hq : l[c.toNat]? with
  | none => rw [hq] at h; cases h
  | some q =>
    obtain ⟨k2, m⟩ := q
    rw [hq] at h
    dsimp only at h
    subst h
    exact ⟨m, rfl⟩
theorem qgo_ald {tb : Nat → Nat × (Nat → Int)} {k t : Nat} (h : qgo P y lim M R (qald tb k t pc ls st M)) : ∃ i x r, st = (0, i) :: (3, x) :: r ∧ 0 ≤ i ∧ ((x ≤ -2 ∧ -8 < x ∧ ¬ x = -6 ∧ k = 1 ∧ i < ((tb (-x - 2).toNat).1 : Int) ∧ P y lim pc ls ((0, (tb (-x - 2).toNat).2 i.toNat) :: r) M R) ∨ (∃ n, 0 ≤ x ∧ M.1[x.toNat]? = some (k, n) ∧ i < (n : Int) ∧ P y lim pc ls ((t, M.2 x.toNat i.toNat) :: r) M R)) := by
  unfold qald at h
  split at h
  · next i x r =>
    obtain ⟨t1, i⟩ := i
    obtain ⟨t2, x⟩ := x
    dsimp only at h
    by_cases hx : x < 0
    · rw [if_pos hx] at h
      obtain ⟨hg, h⟩ := h
      simp only [Bool.and_eq_true, beq_iff_eq, Bool.not_eq_true', beq_eq_false_iff_ne, decide_eq_true_eq] at hg
      obtain ⟨rfl, rfl, h1, h2, h3, h4, h5, h6⟩ := hg
      exact ⟨i, x, r, rfl, h5, Or.inl ⟨h1, h4, h3, h2, h6, h⟩⟩
    · rw [if_neg hx] at h
      obtain ⟨hg, h⟩ := h
      simp only [Bool.and_eq_true, beq_iff_eq, decide_eq_true_eq] at hg
      obtain ⟨rfl, rfl, h1, h2⟩ := hg
      obtain ⟨h3, n, h4, h5, -⟩ := qln_spec ⟨h1, h2⟩
      exact ⟨i, x, r, rfl, h1, Or.inr ⟨n, h3, h4, h5, h⟩⟩
  · exact h.elim
theorem qgo_lal {tb : Nat → Nat × (Nat → Int)} (h : qgo P y lim M R (qlal tb pc ls st M)) : ∃ i r, st = (0, i) :: (3, -6) :: r ∧ 0 ≤ i ∧ i < ((tb 4).1 : Int) ∧ P y lim pc ls ((1, (tb 4).2 i.toNat) :: r) M R := by
  unfold qlal at h
  split at h
  · next i x r =>
    obtain ⟨hg, h⟩ := h
    obtain ⟨t1, i⟩ := i
    obtain ⟨t2, x⟩ := x
    simp only [Bool.and_eq_true, beq_iff_eq, decide_eq_true_eq] at hg
    obtain ⟨rfl, rfl, rfl, h1, h2⟩ := hg
    exact ⟨i, r, rfl, h1, h2, h⟩
  · exact h.elim
theorem qgo_aal (h : qgo P y lim M R (qaal pc ls st M)) : ∃ i x r k n, st = (0, i) :: (3, x) :: r ∧ 0 ≤ i ∧ 0 ≤ x ∧ (k = 3 ∨ k = 4) ∧ M.1[x.toNat]? = some (k, n) ∧ i < (n : Int) ∧ P y lim pc ls ((3, M.2 x.toNat i.toNat) :: r) M R := by
  unfold qaal at h
  split at h
  · next i x r =>
    obtain ⟨hg, h⟩ := h
    obtain ⟨t1, i⟩ := i
    obtain ⟨t2, x⟩ := x
    simp only [Bool.and_eq_true, Bool.or_eq_true, beq_iff_eq, decide_eq_true_eq] at hg
    obtain ⟨rfl, rfl, h1, h2, h3, h4⟩ := hg
    obtain ⟨h5, n, h6, h7, -⟩ := qln_spec ⟨h3, h4⟩
    exact ⟨i, x, r, _, n, rfl, h3, h1, h2, h6, h7, h⟩
  · exact h.elim
theorem qgo_ias {k : Nat} (h : qgo P y lim M R (qias k pc ls st M)) : ∃ v i x r n, st = (0, v) :: (0, i) :: (3, x) :: r ∧ (k = 1 ∨ v = 0 ∨ v = 1) ∧ 0 ≤ i ∧ 0 ≤ x ∧ M.1[x.toNat]? = some (k, n) ∧ i < (n : Int) ∧ P y lim pc ls r (M.1, qup M.2 x.toNat i.toNat v) R := by
  unfold qias at h
  split at h
  · next v i x r =>
    obtain ⟨hg, h⟩ := h
    obtain ⟨t0, v⟩ := v
    obtain ⟨t1, i⟩ := i
    obtain ⟨t2, x⟩ := x
    simp only [Bool.and_eq_true, Bool.or_eq_true, beq_iff_eq, decide_eq_true_eq] at hg
    obtain ⟨rfl, rfl, rfl, h1, h3, h4⟩ := hg
    obtain ⟨h5, n, h6, h7, -⟩ := qln_spec ⟨h3, h4⟩
    exact ⟨v, i, x, r, n, rfl, h1, h3, h5, h6, h7, h⟩
  · exact h.elim
theorem qgo_aas (h : qgo P y lim M R (qaas pc ls st M)) : ∃ v i x r k n, st = (3, v) :: (0, i) :: (3, x) :: r ∧ 0 ≤ v ∧ ((k = 3 ∧ M.1[v.toNat]? = some (0, 3)) ∨ (k = 4 ∧ M.1[v.toNat]? = some (0, 5))) ∧ 0 ≤ i ∧ 0 ≤ x ∧ M.1[x.toNat]? = some (k, n) ∧ i < (n : Int) ∧ P y lim pc ls r (M.1, qup M.2 x.toNat i.toNat v) R := by
  unfold qaas at h
  split at h
  · next v i x r =>
    obtain ⟨hg, h⟩ := h
    obtain ⟨t0, v⟩ := v
    obtain ⟨t1, i⟩ := i
    obtain ⟨t2, x⟩ := x
    simp only [Bool.and_eq_true, Bool.or_eq_true, beq_iff_eq, decide_eq_true_eq] at hg
    obtain ⟨rfl, rfl, rfl, h1, h2, h3, h4⟩ := hg
    obtain ⟨h5, n, h6, h7, -⟩ := qln_spec ⟨h3, h4⟩
    refine ⟨v, i, x, r, _, n, rfl, ?_, ?_, h3, h1, h6, h7, h⟩
    · rcases h2 with h2 | h2
      · exact (qis_spec h2.2).1
      · exact (qis_spec h2.2).1
    · rcases h2 with h2 | h2
      · exact Or.inl ⟨h2.1, (qis_spec h2.2).2⟩
      · exact Or.inr ⟨h2.1, (qis_spec h2.2).2⟩
  · exact h.elim
theorem qgo_len {tb : Nat → Nat × (Nat → Int)} (h : qgo P y lim M R (qlen tb pc ls st M)) : ∃ x r, st = (3, x) :: r ∧ ((x ≤ -2 ∧ -8 < x ∧ P y lim pc ls ((0, ((tb (-x - 2).toNat).1 : Int)) :: r) M R) ∨ (∃ k n, 0 ≤ x ∧ 0 < k ∧ k < 5 ∧ M.1[x.toNat]? = some (k, n) ∧ P y lim pc ls ((0, (n : Int)) :: r) M R)) := by
  unfold qlen at h
  split at h
  · next x r =>
    obtain ⟨t2, x⟩ := x
    dsimp only at h
    by_cases hx : x < 0
    · rw [if_pos hx] at h
      obtain ⟨hg, h⟩ := h
      simp only [Bool.and_eq_true, beq_iff_eq, decide_eq_true_eq] at hg
      obtain ⟨rfl, h1, h4⟩ := hg
      exact ⟨x, r, rfl, Or.inl ⟨h1, h4, h⟩⟩
    · rw [if_neg hx] at h
      obtain ⟨hg, h⟩ := h
      simp only [Bool.and_eq_true, beq_iff_eq, decide_eq_true_eq] at hg
      obtain ⟨rfl, h1, h2, h3⟩ := hg
      obtain ⟨q, hq⟩ : ∃ q, M.1[x.toNat]? = some q := ⟨_, List.getElem?_eq_getElem h1⟩
      obtain ⟨k, n⟩ := q
      have e1 : qrk M.1 x = k := by unfold qrk; rw [hq]
      have e2 : qln k M.1 x = (n : Int) := by unfold qln; rw [if_neg hx, hq]; dsimp only; rw [if_pos rfl]
      rw [e1] at h2 h3 h
      rw [e2] at h
      exact ⟨x, r, rfl, Or.inr ⟨k, n, by omega, h2, h3, hq, h⟩⟩
  · exact h.elim
theorem qgo_new {a : Nat} (h : qgo P y lim M R (qnew lim a pc ls st M)) : M.1.length + 1 ≤ lim.1 ∧ qsz M.1 + qnf a ≤ lim.2 ∧ P y lim pc ls ((3, (M.1.length : Int)) :: st) (M.1 ++ [(0, a)], va_up M.2 M.1.length (fun j => if qtg a j = 3 then -1 else 0)) R := by
  obtain ⟨hg, h⟩ := h
  simp only [Bool.and_eq_true, decide_eq_true_eq] at hg
  exact ⟨hg.1, hg.2, h⟩
theorem qgo_nar {k : Nat} {d : Int} (h : qgo P y lim M R (qnar lim k d pc ls st M)) : ∃ n r, st = (0, n) :: r ∧ 0 ≤ n ∧ n ≤ 1000 ∧ M.1.length + 1 ≤ lim.1 ∧ qsz M.1 + n.toNat ≤ lim.2 ∧ P y lim pc ls ((3, (M.1.length : Int)) :: r) (M.1 ++ [(k, n.toNat)], va_up M.2 M.1.length (fun _ => d)) R := by
  unfold qnar at h
  split at h
  · next n r =>
    obtain ⟨hg, h⟩ := h
    obtain ⟨t, n⟩ := n
    simp only [Bool.and_eq_true, beq_iff_eq, decide_eq_true_eq] at hg
    obtain ⟨rfl, h1, h2, h3, h4⟩ := hg
    exact ⟨n, r, rfl, h1, h2, h3, h4, h⟩
  · exact h.elim
end QINV
