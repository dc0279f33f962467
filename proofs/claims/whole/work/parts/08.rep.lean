/-! what the small machine's numbers stand for on the heap -/
theorem i1_w32 (x : Int) : i1 (w32 x) = i1 x := by unfold w32; exact Int32.ofInt_toInt _
theorem l1_w64 (x : Int) : l1 (w64 x) = l1 x := by unfold w64; exact Int64.ofInt_toInt _
theorem i1_toInt (x : Int32) : i1 x.toInt = x := Int32.ofInt_toInt x
theorem l1_toInt (x : Int64) : l1 x.toInt = x := Int64.ofInt_toInt x
theorem toInt_i1 {x : Int} (h : -2147483648 ≤ x ∧ x < 2147483648) : (i1 x).toInt = x := Int32.toInt_ofInt_of_le (by omega) (by omega)
theorem toInt_l1 {x : Int} (h : -9223372036854775808 ≤ x ∧ x < 9223372036854775808) : (l1 x).toInt = x := Int64.toInt_ofInt_of_le (by omega) (by omega)
theorem rng32 (x : Int32) : -2147483648 ≤ x.toInt ∧ x.toInt < 2147483648 := ⟨by have := Int32.le_toInt x; omega, by have := Int32.toInt_lt x; omega⟩
theorem rng64 (x : Int64) : -9223372036854775808 ≤ x.toInt ∧ x.toInt < 9223372036854775808 := ⟨by have := Int64.le_toInt x; omega, by have := Int64.toInt_lt x; omega⟩
theorem w32_rng (x : Int) : -2147483648 ≤ w32 x ∧ w32 x < 2147483648 := rng32 _
theorem w64_rng (x : Int) : -9223372036854775808 ≤ w64 x ∧ w64 x < 9223372036854775808 := rng64 _
theorem w32_id {x : Int} (h : -2147483648 ≤ x ∧ x < 2147483648) : w32 x = x := toInt_i1 h
theorem w64_id {x : Int} (h : -9223372036854775808 ≤ x ∧ x < 9223372036854775808) : w64 x = x := toInt_l1 h
theorem f1_toNat (x : UInt32) : f1 (x.toNat : Int) = x := by show UInt32.ofNat ((x.toNat : Int).toNat) = x; rw [Int.toNat_natCast]; exact UInt32.ofNat_toNat
theorem d1_toNat (x : UInt64) : d1 (x.toNat : Int) = x := by show UInt64.ofNat ((x.toNat : Int).toNat) = x; rw [Int.toNat_natCast]; exact UInt64.ofNat_toNat
theorem frng (x : UInt32) : 0 ≤ (x.toNat : Int) ∧ (x.toNat : Int) < 4294967296 := ⟨by omega, by have := x.toNat_lt; omega⟩
theorem drng (x : UInt64) : 0 ≤ (x.toNat : Int) ∧ (x.toNat : Int) < 18446744073709551616 := ⟨by omega, by have := x.toNat_lt; omega⟩
def qv (ad sa : Nat → Nat) (v : qV) : Value := match v.1 with
  | 0 => .int (i1 v.2)
  | 1 => .long (l1 v.2)
  | 2 => .float (f1 v.2)
  | 4 => .double (d1 v.2)
  | _ => if v.2 < 0 then (if v.2 = -1 then .null else .ref (sa (-v.2 - 2).toNat)) else .ref (ad v.2.toNat)
theorem qv0 (ad sa : Nat → Nat) (x : Int) : qv ad sa (0, x) = .int (i1 x) := rfl
theorem qv1 (ad sa : Nat → Nat) (x : Int) : qv ad sa (1, x) = .long (l1 x) := rfl
theorem qv2 (ad sa : Nat → Nat) (x : Int) : qv ad sa (2, x) = .float (f1 x) := rfl
theorem qv4 (ad sa : Nat → Nat) (x : Int) : qv ad sa (4, x) = .double (d1 x) := rfl
theorem qv3 (ad sa : Nat → Nat) {x : Int} (h : 0 ≤ x) : qv ad sa (3, x) = .ref (ad x.toNat) := by
  show (if x < 0 then _ else _) = _
  rw [if_neg (by omega)]
theorem qv3s (ad sa : Nat → Nat) {x : Int} (h : x ≤ -2) : qv ad sa (3, x) = .ref (sa (-x - 2).toNat) := by
  show (if x < 0 then (if x = -1 then _ else _) else _) = _
  rw [if_pos (by omega), if_neg (by omega)]
theorem qv3n (ad sa : Nat → Nat) : qv ad sa (3, -1) = .null := rfl
def qok (n : Nat) (v : qV) : Prop := match v.1 with
  | 0 => -2147483648 ≤ v.2 ∧ v.2 < 2147483648
  | 1 => -9223372036854775808 ≤ v.2 ∧ v.2 < 9223372036854775808
  | 2 => 0 ≤ v.2 ∧ v.2 < 4294967296
  | 3 => -8 < v.2 ∧ v.2 < (n : Int)
  | 4 => 0 ≤ v.2 ∧ v.2 < 18446744073709551616
  | _ => False
theorem qok_tag {n : Nat} {v : qV} (h : qok n v) : v.1 = 0 ∨ v.1 = 1 ∨ v.1 = 2 ∨ v.1 = 3 ∨ v.1 = 4 := by
  obtain ⟨t, x⟩ := v
  match t, h with
  | 0, _ => exact Or.inl rfl
  | 1, _ => exact Or.inr (Or.inl rfl)
  | 2, _ => exact Or.inr (Or.inr (Or.inl rfl))
  | 3, _ => exact Or.inr (Or.inr (Or.inr (Or.inl rfl)))
  | 4, _ => exact Or.inr (Or.inr (Or.inr (Or.inr rfl)))
  | (k + 5), h => exact absurd h (by simp [qok])
theorem qok_mono {n n2 : Nat} (hn : n ≤ n2) {v : qV} (h : qok n v) : qok n2 v := by
  obtain ⟨t, x⟩ := v
  match t, h with
  | 0, h => exact h
  | 1, h => exact h
  | 2, h => exact h
  | 3, h => exact ⟨h.1, Int.lt_of_lt_of_le h.2 (by exact_mod_cast hn)⟩
  | 4, h => exact h
  | (k + 5), h => exact absurd h (by simp [qok])
/-- a value says the same where the addresses of its cells are the same -/
theorem qv_ad {ad ad2 sa : Nat → Nat} {n : Nat} {v : qV} (h : qok n v) (ha : ∀ k, k < n → ad2 k = ad k) : qv ad2 sa v = qv ad sa v := by
  obtain ⟨t, x⟩ := v
  match t, h with
  | 0, _ => rfl
  | 1, _ => rfl
  | 2, _ => rfl
  | 3, h =>
    by_cases h0 : 0 ≤ x
    · rw [qv3 ad2 sa h0, qv3 ad sa h0, ha x.toNat (by have h2 : x < (n : Int) := h.2; omega)]
    · by_cases h1 : x = -1
      · subst h1; rfl
      · rw [qv3s ad2 sa (by omega), qv3s ad sa (by omega)]
  | 4, _ => rfl
  | (k + 5), h => exact absurd h (by simp [qok])
theorem qv_cat {ad sa : Nat → Nat} {n : Nat} {v : qV} (h : qok n v) : (qv ad sa v).category = qcat v.1 := by
  obtain ⟨t, x⟩ := v
  match t, h with
  | 0, _ => rfl
  | 1, _ => rfl
  | 2, _ => rfl
  | 3, h =>
    show (if x < 0 then (if x = -1 then Value.null else .ref (sa (-x - 2).toNat)) else .ref (ad x.toNat)).category = 1
    split
    · split <;> rfl
    · rfl
  | 4, _ => rfl
  | (k + 5), h => exact absurd h (by simp [qok])
theorem qcats_map {ad sa : Nat → Nat} {n : Nat} : ∀ {st : List qV}, (∀ v ∈ st, qok n v) → ((st.map (qv ad sa)).map fun v => v.category).sum = qcats st
  | [], _ => rfl
  | v :: r, h => by
    have h1 := qv_cat (ad := ad) (sa := sa) (h v List.mem_cons_self)
    have h2 := qcats_map (ad := ad) (sa := sa) (fun w hw => h w (List.mem_cons_of_mem _ hw))
    simp only [List.map_cons, List.sum_cons, qcats] at h2 ⊢
    rw [h1, h2]
/-! cells -/
def qro (ad : Nat → Nat) (x : Int) : Option Nat := if x < 0 then none else some (ad x.toNat)
def qE (ad sa : Nat → Nat) (cy : Nat → ClassId) (kd : qK) (f : Nat → Int) : va_E := match kd.1 with
  | 0 => .inr (kd.2, (List.range (qnf kd.2)).map (fun j => qv ad sa (qtg kd.2 j, f j)))
  | 1 => .inl (cy 1, kd.2, .inl (fun j => i1 (f j)))
  | 2 => .inl (cy 2, kd.2, .inl (fun j => i1 (f j)))
  | k => .inl (cy k, kd.2, .inr (.inr (.inr (.inr (fun j => qro ad (f j))))))
def qws (ad sa : Nat → Nat) (cy : Nat → ClassId) (M : qM) : va_W := (List.range M.1.length).map (fun k => (ad k, qE ad sa cy (M.1.getD k (0, 0)) (M.2 k)))
def qkok (n : Nat) (kd : qK) (f : Nat → Int) : Prop := match kd.1 with
  | 0 => kd.2 < 10 ∧ ∀ j, j < qnf kd.2 → qok n (qtg kd.2 j, f j)
  | 1 => kd.2 < 2147483648 ∧ ∀ j, qok n (0, f j)
  | 2 => kd.2 < 2147483648 ∧ ∀ j, qok n (0, f j)
  | 3 => kd.2 < 2147483648 ∧ ∀ j, -1 ≤ f j ∧ f j < (n : Int)
  | 4 => kd.2 < 2147483648 ∧ ∀ j, -1 ≤ f j ∧ f j < (n : Int)
  | _ => False
def qmok (M : qM) : Prop := ∀ (k : Nat) (kd : qK), M.1[k]? = some kd → qkok M.1.length kd (M.2 k)
theorem qkok_mono {n n2 : Nat} (hn : n ≤ n2) {kd : qK} {f : Nat → Int} (h : qkok n kd f) : qkok n2 kd f := by
  obtain ⟨t, c⟩ := kd
  have hi : (n : Int) ≤ n2 := by exact_mod_cast hn
  match t, h with
  | 0, h => exact ⟨h.1, fun j hj => qok_mono hn (h.2 j hj)⟩
  | 1, h => exact ⟨h.1, fun j => qok_mono hn (h.2 j)⟩
  | 2, h => exact ⟨h.1, fun j => qok_mono hn (h.2 j)⟩
  | 3, h => exact ⟨h.1, fun j => ⟨(h.2 j).1, Int.lt_of_lt_of_le (h.2 j).2 hi⟩⟩
  | 4, h => exact ⟨h.1, fun j => ⟨(h.2 j).1, Int.lt_of_lt_of_le (h.2 j).2 hi⟩⟩
  | (k + 5), h => exact absurd h (by simp [qkok])
theorem qE_ad {ad ad2 sa : Nat → Nat} {cy : Nat → ClassId} {n : Nat} {kd : qK} {f : Nat → Int} (h : qkok n kd f) (ha : ∀ k, k < n → ad2 k = ad k) : qE ad2 sa cy kd f = qE ad sa cy kd f := by
  obtain ⟨t, c⟩ := kd
  have hro : (∀ j, -1 ≤ f j ∧ f j < (n : Int)) → (fun j => qro ad2 (f j)) = fun j => qro ad (f j) := fun hf => by
    funext j
    unfold qro
    by_cases h0 : f j < 0
    · rw [if_pos h0, if_pos h0]
    · rw [if_neg h0, if_neg h0, ha (f j).toNat (by have := (hf j).2; omega)]
  match t, h with
  | 0, h =>
    show Sum.inr (c, _) = Sum.inr (c, _)
    congr 2
    apply List.map_congr_left
    intro j hj
    exact qv_ad (h.2 j (List.mem_range.mp hj)) ha
  | 1, _ => rfl
  | 2, _ => rfl
  | 3, h =>
    show Sum.inl (cy 3, c, Sum.inr (Sum.inr (Sum.inr (Sum.inr _)))) = Sum.inl (cy 3, c, Sum.inr (Sum.inr (Sum.inr (Sum.inr _))))
    rw [hro h.2]
  | 4, h =>
    show Sum.inl (cy 4, c, Sum.inr (Sum.inr (Sum.inr (Sum.inr _)))) = Sum.inl (cy 4, c, Sum.inr (Sum.inr (Sum.inr (Sum.inr _))))
    rw [hro h.2]
  | (k + 5), h => exact absurd h (by simp [qkok])
theorem qws_len (ad sa : Nat → Nat) (cy : Nat → ClassId) (M : qM) : (qws ad sa cy M).length = M.1.length := by simp [qws]
theorem qws_at {ad sa : Nat → Nat} {cy : Nat → ClassId} {M : qM} {k : Nat} {kd : qK} (h : M.1[k]? = some kd) : (qws ad sa cy M)[k]? = some (ad k, qE ad sa cy kd (M.2 k)) := by
  have hk : k < M.1.length := (List.getElem?_eq_some_iff.mp h).1
  unfold qws
  rw [List.getElem?_map, List.getElem?_range hk]
  show some (ad k, qE ad sa cy (M.1.getD k (0, 0)) (M.2 k)) = _
  rw [List.getD_eq_getElem?_getD, h]
  rfl
theorem qws_set {ad sa : Nat → Nat} {cy : Nat → ClassId} {M : qM} {k : Nat} {kd : qK} (h : M.1[k]? = some kd) (g : Nat → Int) : (qws ad sa cy M).set k (ad k, qE ad sa cy kd g) = qws ad sa cy (M.1, va_up M.2 k g) := by
  have hk : k < M.1.length := (List.getElem?_eq_some_iff.mp h).1
  apply List.ext_getElem?
  intro i
  by_cases hi : i = k
  · subst hi
    rw [List.getElem?_set_self (by rw [qws_len]; exact hk), qws_at (M := (M.1, va_up M.2 i g)) h]
    simp [va_up]
  · rw [List.getElem?_set_ne (Ne.symm hi)]
    unfold qws
    rw [List.getElem?_map, List.getElem?_map]
    cases hr : (List.range M.1.length)[i]? with
    | none => rfl
    | some j =>
      have hj : j = i := by
        have hl := (List.getElem?_eq_some_iff.mp hr).1
        rw [List.length_range] at hl
        rw [List.getElem?_range hl] at hr
        cases hr
        rfl
      subst hj
      simp [va_up, hi]
theorem qws_push {ad sa : Nat → Nat} {cy : Nat → ClassId} {M : qM} (hM : qmok M) (q : Nat) (kd : qK) (g : Nat → Int) (hE : qE (va_up ad M.1.length q) sa cy kd g = qE ad sa cy kd g) : qws ad sa cy M ++ [(q, qE ad sa cy kd g)] = qws (va_up ad M.1.length q) sa cy (M.1 ++ [kd], va_up M.2 M.1.length g) := by
  apply List.ext_getElem?
  intro i
  by_cases hi : i < M.1.length
  · obtain ⟨k2, hk2⟩ : ∃ k2, M.1[i]? = some k2 := ⟨_, List.getElem?_eq_getElem hi⟩
    have h2 : (M.1 ++ [kd])[i]? = some k2 := by rw [List.getElem?_append_left hi]; exact hk2
    rw [List.getElem?_append_left (by rw [qws_len]; exact hi), qws_at hk2, qws_at (M := (M.1 ++ [kd], va_up M.2 M.1.length g)) h2]
    have e1 : va_up M.2 M.1.length g i = M.2 i := by simp [va_up, Nat.ne_of_lt hi]
    have e2 : va_up ad M.1.length q i = ad i := by simp [va_up, Nat.ne_of_lt hi]
    show some (ad i, _) = some (va_up ad M.1.length q i, qE _ sa cy k2 (va_up M.2 M.1.length g i))
    rw [e1, e2, qE_ad (ad := ad) (ad2 := va_up ad M.1.length q) (hM i k2 hk2) (fun k hk => by simp [va_up, Nat.ne_of_lt hk])]
  · rw [List.getElem?_append_right (by rw [qws_len]; omega), qws_len]
    by_cases h0 : i = M.1.length
    · subst h0
      have h2 : (M.1 ++ [kd])[M.1.length]? = some kd := by simp
      rw [qws_at (M := (M.1 ++ [kd], va_up M.2 M.1.length g)) h2, Nat.sub_self]
      show some (q, qE ad sa cy kd g) = some (va_up ad M.1.length q M.1.length, qE _ sa cy kd (va_up M.2 M.1.length g M.1.length))
      rw [show va_up M.2 M.1.length g M.1.length = g by simp [va_up], show va_up ad M.1.length q M.1.length = q by simp [va_up], hE]
    · have h1 : i - M.1.length ≠ 0 := by omega
      rw [List.getElem?_eq_none (by simp; omega), List.getElem?_eq_none (by rw [qws_len]; simp; omega)]
/-- a write keeps all in order -/
theorem qmok_up {M : qM} (hM : qmok M) {k : Nat} {kd : qK} (hk : M.1[k]? = some kd) {g : Nat → Int} (hg : qkok M.1.length kd g) : qmok (M.1, va_up M.2 k g) := by
  intro i ki hi
  by_cases h : i = k
  · subst h
    rw [hk] at hi
    cases hi
    show qkok M.1.length kd (va_up M.2 i g i)
    rw [show va_up M.2 i g i = g by simp [va_up]]
    exact hg
  · show qkok M.1.length ki (va_up M.2 k g i)
    rw [show va_up M.2 k g i = M.2 i by simp [va_up, h]]
    exact hM i ki hi
theorem qmok_push {M : qM} (hM : qmok M) {kd : qK} {g : Nat → Int} (hg : qkok (M.1.length + 1) kd g) : qmok (M.1 ++ [kd], va_up M.2 M.1.length g) := by
  intro i ki hi
  have hlen : (M.1 ++ [kd]).length = M.1.length + 1 := by simp
  show qkok (M.1 ++ [kd]).length ki (va_up M.2 M.1.length g i)
  rw [hlen]
  by_cases h : i < M.1.length
  · rw [List.getElem?_append_left h] at hi
    rw [show va_up M.2 M.1.length g i = M.2 i by simp [va_up, Nat.ne_of_lt h]]
    exact qkok_mono (by omega) (hM i ki hi)
  · have hl := (List.getElem?_eq_some_iff.mp hi).1
    rw [hlen] at hl
    have e : i = M.1.length := by omega
    subst e
    rw [List.getElem?_append_right (Nat.le_refl _), Nat.sub_self] at hi
    cases hi
    rw [show va_up M.2 M.1.length g M.1.length = g by simp [va_up]]
    exact hg
theorem qsz_push (l : List qK) (kd : qK) : qsz (l ++ [kd]) = qsz l + (if kd.1 = 0 then qnf kd.2 else kd.2) := by simp [qsz]
/-! locals -/
def qL (ad sa : Nat → Nat) (n : Nat) (ls : Array Slot) (L : List qV) : Prop := ls.size = L.length ∧ lv_wf ls ∧ ∀ (i : Nat) (v : qV), L[i]? = some v → v.1 ≠ 9 → qok n v ∧ ls[i]? = some (.val (qv ad sa v))
def qlv (ad sa : Nat → Nat) (L : List qV) : List (Nat × Value) := (List.range L.length).filterMap (fun i => match L[i]? with
  | some v => if v.1 = 9 then none else some (i, qv ad sa v)
  | none => none)
theorem qlv_mem {ad sa : Nat → Nat} {L : List qV} {i : Nat} {w : Value} : (i, w) ∈ qlv ad sa L ↔ ∃ v, L[i]? = some v ∧ v.1 ≠ 9 ∧ w = qv ad sa v := by
  unfold qlv
  rw [List.mem_filterMap]
  constructor
  · rintro ⟨k, hk, h⟩
    cases hv : L[k]? with
    | none => rw [hv] at h; cases h
    | some v =>
      rw [hv] at h
      dsimp only at h
      by_cases h9 : v.1 = 9
      · rw [if_pos h9] at h; cases h
      · rw [if_neg h9] at h
        cases h
        exact ⟨v, hv, h9, rfl⟩
  · rintro ⟨v, hv, h9, rfl⟩
    refine ⟨i, List.mem_range.mpr (List.getElem?_eq_some_iff.mp hv).1, ?_⟩
    rw [hv]
    dsimp only
    rw [if_neg h9]
theorem qL.has {ad sa : Nat → Nat} {n : Nat} {ls : Array Slot} {L : List qV} (h : qL ad sa n ls L) : lv_has ls L.length (qlv ad sa L) := by
  refine ⟨h.1, h.2.1, ?_⟩
  rintro ⟨i, w⟩ hq
  obtain ⟨v, hv, h9, rfl⟩ := qlv_mem.mp hq
  exact (h.2.2 i v hv h9).2
theorem qL.ad {ad ad2 sa : Nat → Nat} {n n2 : Nat} {ls : Array Slot} {L : List qV} (h : qL ad sa n ls L) (hn : n ≤ n2) (ha : ∀ k, k < n → ad2 k = ad k) : qL ad2 sa n2 ls L :=
  ⟨h.1, h.2.1, fun i v hv h9 => ⟨qok_mono hn (h.2.2 i v hv h9).1, by rw [qv_ad (h.2.2 i v hv h9).1 ha]; exact (h.2.2 i v hv h9).2⟩⟩
theorem qfre_at {i : Nat} {L : List qV} (h : qfre i L = true) {j : Nat} {v : qV} (hv : L[j]? = some v) (hj : j + 1 = i) : qcat v.1 = 1 := by
  unfold qfre at h
  rw [Bool.or_eq_true] at h
  rcases h with h | h
  · have : i = 0 := by simpa using h
    omega
  · have e : i - 1 = j := by omega
    rw [e, List.getD_eq_getElem?_getD, hv] at h
    simpa using h
theorem qL.st1 {ad sa : Nat → Nat} {n : Nat} {ls ls2 : Array Slot} {L : List qV} {i : Nat} {v : qV} (h : qL ad sa n ls L) (hi : i < L.length) (hf : qfre i L = true) (hv : qok n v) (h2 : lv_has ls2 L.length ((i, qv ad sa v) :: (qlv ad sa L).filter (fun q => !(q.1 == i) && !(q.1 + 1 == i && q.2.category == 2)))) : qL ad sa n ls2 (L.set i v) := by
  refine ⟨by rw [h2.1, List.length_set], h2.2.1, ?_⟩
  intro j w hw h9
  by_cases hj : j = i
  · subst hj
    rw [List.getElem?_set_self hi] at hw
    cases hw
    exact ⟨hv, h2.2.2 (j, _) List.mem_cons_self⟩
  · rw [List.getElem?_set_ne (Ne.symm hj)] at hw
    have hok := (h.2.2 j w hw h9).1
    refine ⟨hok, h2.2.2 (j, _) (List.mem_cons_of_mem _ (List.mem_filter.mpr ⟨qlv_mem.mpr ⟨w, hw, h9, rfl⟩, ?_⟩))⟩
    have h1 : (j == i) = false := by simp [hj]
    show (!(j == i) && !(j + 1 == i && (qv ad sa w).category == 2)) = true
    rw [h1]
    by_cases hj1 : j + 1 = i
    · rw [qv_cat hok, qfre_at hf hw hj1]
      simp
    · simp [hj1]
theorem qL.st2 {ad sa : Nat → Nat} {n : Nat} {ls ls2 : Array Slot} {L : List qV} {i : Nat} {v : qV} (h : qL ad sa n ls L) (hi : i + 1 < L.length) (hf : qfre i L = true) (hv : qok n v) (h2 : lv_has ls2 L.length ((i, qv ad sa v) :: (qlv ad sa L).filter (fun q => !(q.1 == i) && (!(q.1 == i + 1) && !(q.1 + 1 == i && q.2.category == 2))))) : qL ad sa n ls2 ((L.set i v).set (i + 1) (9, 0)) := by
  refine ⟨by rw [h2.1, List.length_set, List.length_set], h2.2.1, ?_⟩
  intro j w hw h9
  by_cases hj1 : j = i + 1
  · subst hj1
    rw [List.getElem?_set_self (by rw [List.length_set]; exact hi)] at hw
    cases hw
    exact absurd rfl h9
  · rw [List.getElem?_set_ne (Ne.symm hj1)] at hw
    by_cases hj : j = i
    · subst hj
      rw [List.getElem?_set_self (by omega)] at hw
      cases hw
      exact ⟨hv, h2.2.2 (j, _) List.mem_cons_self⟩
    · rw [List.getElem?_set_ne (Ne.symm hj)] at hw
      have hok := (h.2.2 j w hw h9).1
      refine ⟨hok, h2.2.2 (j, _) (List.mem_cons_of_mem _ (List.mem_filter.mpr ⟨qlv_mem.mpr ⟨w, hw, h9, rfl⟩, ?_⟩))⟩
      have e1 : (j == i) = false := by simp [hj]
      have e2 : (j == i + 1) = false := by simp [hj1]
      show (!(j == i) && (!(j == i + 1) && !(j + 1 == i && (qv ad sa w).category == 2))) = true
      rw [e1, e2]
      by_cases hj2 : j + 1 = i
      · rw [qv_cat hok, qfre_at hf hw hj2]
        simp
      · simp [hj2]
/-- a method's first locals -/
theorem qargs_at {ad sa : Nat → Nat} {n : Nat} : ∀ (as : List qV), (∀ v ∈ as, qok n v) → ∀ (o i : Nat) (v : qV), (qargs as)[i]? = some v → v.1 ≠ 9 → qok n v ∧ (o + i, qv ad sa v) ∈ lv_args o (as.map (qv ad sa))
  | [], _, o, i, v, h, _ => by simp [qargs] at h
  | a :: r, ha, o, i, v, h, h9 => by
    have hc := qv_cat (ad := ad) (sa := sa) (ha a List.mem_cons_self)
    have hr := qargs_at (ad := ad) (sa := sa) r (fun v hv => ha v (List.mem_cons_of_mem _ hv))
    unfold qargs at h
    by_cases h2 : qcat a.1 = 2
    · rw [if_pos h2] at h
      have hm : lv_args o ((a :: r).map (qv ad sa)) = (o, qv ad sa a) :: lv_args (o + 2) (r.map (qv ad sa)) := by
        show (o, qv ad sa a) :: lv_args (if (qv ad sa a).category = 2 then o + 2 else o + 1) _ = _
        rw [if_pos (by rw [hc]; exact h2)]
      rw [hm]
      match i, h with
      | 0, h => cases h; exact ⟨ha _ List.mem_cons_self, List.mem_cons_self⟩
      | 1, h => cases h; exact absurd rfl h9
      | i + 2, h =>
        obtain ⟨g1, g2⟩ := hr (o + 2) i v h h9
        exact ⟨g1, List.mem_cons_of_mem _ (by rw [show o + (i + 2) = o + 2 + i by omega]; exact g2)⟩
    · rw [if_neg h2] at h
      have hm : lv_args o ((a :: r).map (qv ad sa)) = (o, qv ad sa a) :: lv_args (o + 1) (r.map (qv ad sa)) := by
        show (o, qv ad sa a) :: lv_args (if (qv ad sa a).category = 2 then o + 2 else o + 1) _ = _
        rw [if_neg (by rw [hc]; exact h2)]
      rw [hm]
      match i, h with
      | 0, h => cases h; exact ⟨ha _ List.mem_cons_self, List.mem_cons_self⟩
      | i + 1, h =>
        obtain ⟨g1, g2⟩ := hr (o + 1) i v h h9
        exact ⟨g1, List.mem_cons_of_mem _ (by rw [show o + (i + 1) = o + 1 + i by omega]; exact g2)⟩
theorem qargs_len {ad sa : Nat → Nat} {n : Nat} : ∀ (as : List qV), (∀ v ∈ as, qok n v) → (lg_sl (as.map (qv ad sa))).length = (qargs as).length
  | [], _ => rfl
  | a :: r, ha => by
    have hc := qv_cat (ad := ad) (sa := sa) (ha a List.mem_cons_self)
    have hr := qargs_len (ad := ad) (sa := sa) r (fun v hv => ha v (List.mem_cons_of_mem _ hv))
    unfold lg_sl at hr ⊢
    rw [List.map_cons, List.flatMap_cons, List.length_append, hr, show qargs (a :: r) = (if qcat a.1 = 2 then a :: (9, 0) :: qargs r else a :: qargs r) from rfl]
    by_cases h2 : qcat a.1 = 2
    · rw [if_pos h2, if_pos (by rw [hc]; exact h2)]
      simp only [List.length_cons, List.length_nil]
      omega
    · rw [if_neg h2, if_neg (by rw [hc]; exact h2)]
      simp only [List.length_cons, List.length_nil]
      omega
theorem qL.entry {ad sa : Nat → Nat} {n N : Nat} {as : List qV} (ha : ∀ v ∈ as, qok n v) (hN : (qargs as).length ≤ N) : qL ad sa n ((lg_sl (as.map (qv ad sa)) ++ List.replicate (N - (lg_sl (as.map (qv ad sa))).length) Slot.unset).toArray) (qent N as) := by
  have hl := qargs_len (ad := ad) (sa := sa) as ha
  have h := lv_entry (as.map (qv ad sa)) (n := N) (by rw [hl]; exact hN)
  refine ⟨?_, h.2.1, ?_⟩
  · rw [h.1]
    unfold qent
    rw [List.length_append, List.length_replicate]
    omega
  · intro i v hv h9
    unfold qent at hv
    by_cases hi : i < (qargs as).length
    · rw [List.getElem?_append_left hi] at hv
      obtain ⟨g1, g2⟩ := qargs_at (ad := ad) (sa := sa) as ha 0 i v hv h9
      rw [Nat.zero_add] at g2
      exact ⟨g1, h.2.2 (i, _) g2⟩
    · rw [List.getElem?_append_right (by omega)] at hv
      have := List.eq_of_mem_replicate (List.mem_of_getElem? hv)
      subst this
      exact absurd rfl h9
