/-! hours by a seed; the pair drawn -/
theorem d90a (tb : qTb) (lim : Nat × Nat) (R : Option qV → qM → Prop) (ls st : List qV) (M : qM) : qW tb 90 lim 22 ls st M R = qy tb 90 lim R (22, .iconst 0, 1, 0, 0, 0) ls st M ∧ qW tb 90 lim 23 ls st M R = qy tb 90 lim R (23, .istore 4, 2, 0, 0, 0) ls st M ∧ qW tb 90 lim 27 ls st M R = qy tb 90 lim R (27, .aload_n 0, 1, 0, 0, 0) ls st M ∧ qW tb 90 lim 28 ls st M R = qy tb 90 lim R (28, .getfield 29, 3, 8, 3, 0) ls st M ∧ qW tb 90 lim 31 ls st M R = qy tb 90 lim R (31, .getfield 94, 3, 7, 2, 0) ls st M ∧ qW tb 90 lim 34 ls st M R = qy tb 90 lim R (34, .if_icmp .ge 22, 3, 0, 0, 0) ls st M ∧ qW tb 90 lim 37 ls st M R = qy tb 90 lim R (37, .aload_n 0, 1, 0, 0, 0) ls st M ∧ qW tb 90 lim 38 ls st M R = qy tb 90 lim R (38, .getfield 77, 3, 8, 12, 0) ls st M ∧ qW tb 90 lim 41 ls st M R = qy tb 90 lim R (41, .iload 4, 2, 0, 0, 0) ls st M ∧ qW tb 90 lim 43 ls st M R = qy tb 90 lim R (43, .aload_n 0, 1, 0, 0, 0) ls st M ∧ qW tb 90 lim 44 ls st M R = qy tb 90 lim R (44, .bipush 41, 2, 0, 0, 0) ls st M ∧ qW tb 90 lim 46 ls st M R = qy tb 90 lim R (46, .invokevirtual 215, 3, 99, 1, 0) ls st M ∧ qW tb 90 lim 49 ls st M R = qy tb 90 lim R (49, .iastore, 1, 0, 0, 0) ls st M ∧ qW tb 90 lim 50 ls st M R = qy tb 90 lim R (50, .iinc 4 1, 3, 0, 0, 0) ls st M ∧ qW tb 90 lim 53 ls st M R = qy tb 90 lim R (53, .goto (-28), 3, 0, 0, 0) ls st M := ⟨qW_at (qcdB_spec (e := (22, .iconst 0, 1, 0, 0, 0)) (by decide +kernel)), qW_at (qcdB_spec (e := (23, .istore 4, 2, 0, 0, 0)) (by decide +kernel)), qW_at (qcdB_spec (e := (27, .aload_n 0, 1, 0, 0, 0)) (by decide +kernel)), qW_at (qcdB_spec (e := (28, .getfield 29, 3, 8, 3, 0)) (by decide +kernel)), qW_at (qcdB_spec (e := (31, .getfield 94, 3, 7, 2, 0)) (by decide +kernel)), qW_at (qcdB_spec (e := (34, .if_icmp .ge 22, 3, 0, 0, 0)) (by decide +kernel)), qW_at (qcdB_spec (e := (37, .aload_n 0, 1, 0, 0, 0)) (by decide +kernel)), qW_at (qcdB_spec (e := (38, .getfield 77, 3, 8, 12, 0)) (by decide +kernel)), qW_at (qcdB_spec (e := (41, .iload 4, 2, 0, 0, 0)) (by decide +kernel)), qW_at (qcdB_spec (e := (43, .aload_n 0, 1, 0, 0, 0)) (by decide +kernel)), qW_at (qcdB_spec (e := (44, .bipush 41, 2, 0, 0, 0)) (by decide +kernel)), qW_at (qcdB_spec (e := (46, .invokevirtual 215, 3, 99, 1, 0)) (by decide +kernel)), qW_at (qcdB_spec (e := (49, .iastore, 1, 0, 0, 0)) (by decide +kernel)), qW_at (qcdB_spec (e := (50, .iinc 4 1, 3, 0, 0, 0)) (by decide +kernel)), qW_at (qcdB_spec (e := (53, .goto (-28), 3, 0, 0, 0)) (by decide +kernel))⟩
theorem d176a (tb : qTb) (lim : Nat × Nat) (R : Option qV → qM → Prop) (ls st : List qV) (M : qM) : qW tb 176 lim 24 ls st M R = qy tb 176 lim R (24, .iconst 0, 1, 0, 0, 0) ls st M ∧ qW tb 176 lim 25 ls st M R = qy tb 176 lim R (25, .istore 4, 2, 0, 0, 0) ls st M ∧ qW tb 176 lim 29 ls st M R = qy tb 176 lim R (29, .aload_n 0, 1, 0, 0, 0) ls st M ∧ qW tb 176 lim 30 ls st M R = qy tb 176 lim R (30, .getfield 252, 3, 9, 3, 0) ls st M ∧ qW tb 176 lim 33 ls st M R = qy tb 176 lim R (33, .if_icmp .ge 44, 3, 0, 0, 0) ls st M ∧ qW tb 176 lim 36 ls st M R = qy tb 176 lim R (36, .aload_n 0, 1, 0, 0, 0) ls st M ∧ qW tb 176 lim 37 ls st M R = qy tb 176 lim R (37, .aload_n 0, 1, 0, 0, 0) ls st M ∧ qW tb 176 lim 38 ls st M R = qy tb 176 lim R (38, .getfield 429, 3, 9, 38, 0) ls st M ∧ qW tb 176 lim 41 ls st M R = qy tb 176 lim R (41, .ldc2_w 433, 3, 2, 0, 6364136223846793005) ls st M ∧ qW tb 176 lim 44 ls st M R = qy tb 176 lim R (44, .lmul, 1, 0, 0, 0) ls st M ∧ qW tb 176 lim 45 ls st M R = qy tb 176 lim R (45, .ldc2_w 435, 3, 2, 0, 1442695040888963407) ls st M ∧ qW tb 176 lim 48 ls st M R = qy tb 176 lim R (48, .ladd, 1, 0, 0, 0) ls st M ∧ qW tb 176 lim 49 ls st M R = qy tb 176 lim R (49, .putfield 429, 3, 9, 38, 0) ls st M ∧ qW tb 176 lim 52 ls st M R = qy tb 176 lim R (52, .aload_n 0, 1, 0, 0, 0) ls st M ∧ qW tb 176 lim 53 ls st M R = qy tb 176 lim R (53, .getfield 89, 3, 9, 39, 0) ls st M ∧ qW tb 176 lim 56 ls st M R = qy tb 176 lim R (56, .iload 4, 2, 0, 0, 0) ls st M ∧ qW tb 176 lim 58 ls st M R = qy tb 176 lim R (58, .aload_n 0, 1, 0, 0, 0) ls st M ∧ qW tb 176 lim 59 ls st M R = qy tb 176 lim R (59, .getfield 429, 3, 9, 38, 0) ls st M ∧ qW tb 176 lim 62 ls st M R = qy tb 176 lim R (62, .bipush 33, 2, 0, 0, 0) ls st M ∧ qW tb 176 lim 64 ls st M R = qy tb 176 lim R (64, .lushr, 1, 0, 0, 0) ls st M ∧ qW tb 176 lim 65 ls st M R = qy tb 176 lim R (65, .ldc2_w 437, 3, 2, 0, 41) ls st M ∧ qW tb 176 lim 68 ls st M R = qy tb 176 lim R (68, .lrem, 1, 0, 0, 0) ls st M ∧ qW tb 176 lim 69 ls st M R = qy tb 176 lim R (69, .l2i, 1, 0, 0, 0) ls st M ∧ qW tb 176 lim 70 ls st M R = qy tb 176 lim R (70, .iastore, 1, 0, 0, 0) ls st M ∧ qW tb 176 lim 71 ls st M R = qy tb 176 lim R (71, .iinc 4 1, 3, 0, 0, 0) ls st M ∧ qW tb 176 lim 74 ls st M R = qy tb 176 lim R (74, .goto (-47), 3, 0, 0, 0) ls st M := ⟨qW_at (qcdB_spec (e := (24, .iconst 0, 1, 0, 0, 0)) (by decide +kernel)), qW_at (qcdB_spec (e := (25, .istore 4, 2, 0, 0, 0)) (by decide +kernel)), qW_at (qcdB_spec (e := (29, .aload_n 0, 1, 0, 0, 0)) (by decide +kernel)), qW_at (qcdB_spec (e := (30, .getfield 252, 3, 9, 3, 0)) (by decide +kernel)), qW_at (qcdB_spec (e := (33, .if_icmp .ge 44, 3, 0, 0, 0)) (by decide +kernel)), qW_at (qcdB_spec (e := (36, .aload_n 0, 1, 0, 0, 0)) (by decide +kernel)), qW_at (qcdB_spec (e := (37, .aload_n 0, 1, 0, 0, 0)) (by decide +kernel)), qW_at (qcdB_spec (e := (38, .getfield 429, 3, 9, 38, 0)) (by decide +kernel)), qW_at (qcdB_spec (e := (41, .ldc2_w 433, 3, 2, 0, 6364136223846793005)) (by decide +kernel)), qW_at (qcdB_spec (e := (44, .lmul, 1, 0, 0, 0)) (by decide +kernel)), qW_at (qcdB_spec (e := (45, .ldc2_w 435, 3, 2, 0, 1442695040888963407)) (by decide +kernel)), qW_at (qcdB_spec (e := (48, .ladd, 1, 0, 0, 0)) (by decide +kernel)), qW_at (qcdB_spec (e := (49, .putfield 429, 3, 9, 38, 0)) (by decide +kernel)), qW_at (qcdB_spec (e := (52, .aload_n 0, 1, 0, 0, 0)) (by decide +kernel)), qW_at (qcdB_spec (e := (53, .getfield 89, 3, 9, 39, 0)) (by decide +kernel)), qW_at (qcdB_spec (e := (56, .iload 4, 2, 0, 0, 0)) (by decide +kernel)), qW_at (qcdB_spec (e := (58, .aload_n 0, 1, 0, 0, 0)) (by decide +kernel)), qW_at (qcdB_spec (e := (59, .getfield 429, 3, 9, 38, 0)) (by decide +kernel)), qW_at (qcdB_spec (e := (62, .bipush 33, 2, 0, 0, 0)) (by decide +kernel)), qW_at (qcdB_spec (e := (64, .lushr, 1, 0, 0, 0)) (by decide +kernel)), qW_at (qcdB_spec (e := (65, .ldc2_w 437, 3, 2, 0, 41)) (by decide +kernel)), qW_at (qcdB_spec (e := (68, .lrem, 1, 0, 0, 0)) (by decide +kernel)), qW_at (qcdB_spec (e := (69, .l2i, 1, 0, 0, 0)) (by decide +kernel)), qW_at (qcdB_spec (e := (70, .iastore, 1, 0, 0, 0)) (by decide +kernel)), qW_at (qcdB_spec (e := (71, .iinc 4 1, 3, 0, 0, 0)) (by decide +kernel)), qW_at (qcdB_spec (e := (74, .goto (-47), 3, 0, 0, 0)) (by decide +kernel))⟩
def sdS (s : Int) : Int := w64 (w64 (s * 6364136223846793005) + 1442695040888963407)
def sdH (s : Int) : Int := w32 (w64 (Int.tmod ((l1 s).toUInt64 >>> ((i1 33).toInt64.toUInt64 &&& Int64.toUInt64 63)).toInt64.toInt 41))
theorem sdH_r (s : Int) : 0 ≤ sdH s ∧ sdH s ≤ 40 := by
  unfold sdH
  have e33 : ((i1 33).toInt64.toUInt64 &&& Int64.toUInt64 63) = 33 := by decide +kernel
  rw [e33]
  generalize (l1 s).toUInt64 = u
  have h1 : (u >>> 33).toNat < 2 ^ 31 := by
    rw [UInt64.toNat_shiftRight]
    have : (33 : UInt64).toNat % 64 = 33 := rfl
    rw [this, Nat.shiftRight_eq_div_pow]
    have := u.toNat_lt
    omega
  have h2 : (u >>> 33).toInt64.toInt = ((u >>> 33).toNat : Int) := by
    show (u >>> 33).toBitVec.toInt = _
    rw [BitVec.toInt_eq_toNat_of_lt]
    · rfl
    · show 2 * (u >>> 33).toNat < 2 ^ 64
      omega
  rw [h2]
  generalize (u >>> 33).toNat = k at h1
  have h3 : Int.tmod (k : Int) 41 = ((k % 41 : Nat) : Int) := rfl
  rw [h3]
  have h4 : k % 41 < 41 := Nat.mod_lt _ (by decide)
  have h5 : w64 ((k % 41 : Nat) : Int) = ((k % 41 : Nat) : Int) := toInt_l1 ⟨by omega, by omega⟩
  rw [h5, w32_id ⟨by omega, by omega⟩]
  omega
def sdN (s : Int) : Nat → Int
  | 0 => s
  | k + 1 => sdS (sdN s k)
theorem sdN_r {s : Int} (hs : I64 s) : ∀ k, I64 (sdN s k) := by
  intro k
  cases k with
  | zero => exact hs
  | succ k => unfold sdN sdS w64; exact rng64 _
def drF (F : XT) (na : Nat) (s : Int) (i : Nat) : XT := qup (va_up F 96 (fun j => if j < na then sdH (sdN s (i * na + j + 1)) else F 96 j)) 69 38 (sdN s ((i + 1) * na))
theorem drF_c {F : XT} {na : Nat} {s : Int} {i c : Nat} (h1 : c ≠ 96) (h2 : c ≠ 69) : drF F na s i c = F c := by
  unfold drF
  rw [qup_c h2]
  funext j
  rw [vup_ap, if_neg h1]
theorem drF_96 {F : XT} {na : Nat} {s : Int} {i j : Nat} : drF F na s i 96 j = if j < na then sdH (sdN s (i * na + j + 1)) else F 96 j := by
  unfold drF
  rw [qup_c (by decide), vup_ap, if_pos rfl]
theorem drF_69 {F : XT} {na : Nat} {s : Int} {i j : Nat} : drF F na s i 69 j = if j = 38 then sdN s ((i + 1) * na) else F 69 j := by
  unfold drF
  simp only [qup_ap, vup_ap, if_true, if_false, Nat.reduceEqDiff]
def drX (F : XT) (na : Nat) (s : Int) (i : Nat) : XT := pIni 89 (-9) (drF F na s i)
def drT (F : XT) (n ns na : Nat) (s : Int) : Nat → Int
  | 0 => 0
  | i + 1 => w32 (drT F n ns na s i + mT (pRunT n ns na 80 (drX F na s i, L0)).1 2 na)
def DFr (F G : XT) (s : Int) : Prop := Rf G ∧ (∀ c : Nat, fx c → c ≠ 0 → c ≠ 64 → G c = F c) ∧ (∀ j : Nat, j ≠ 13 → G 0 j = F 0 j) ∧ G 0 13 = s
theorem DFr_ok {F G : XT} {n ns na i : Nat} {s sd : Int} (hR : Rel F) (hd : DN F n ns na) (hG : DFr F G sd) (h64 : ∀ a : Nat, a < na → G 64 a = sdH (sdN s (i * na + a + 1))) : Inv n ns na 0 0 (drX F na s i, L0) ∧ ST n ns na 23 24 64 (-1) G (drX F na s i) := by
  have hP := hR.2.2.2.1
  have hf := hG.1
  have hc := hG.2.1
  refine run_ok (F := F) (Fc := G) (G := drF F na s i) (p := 23) (s := 24) (u := 64) (y := 89) hR hd ⟨Or.inl ⟨rfl, rfl⟩, Or.inr rfl⟩ (fun c h1 h2 => hc c (by unfold fx; omega) (by omega) (by omega)) (fun c h1 h2 => drF_c (by omega) (by omega)) (fun j hj => by rw [drF_69, if_neg (by omega)]) ⟨(Rf_k hf).2.1.2.2.2.2.2.2.2.2.2.2.2.1, fun k hk => by rw [drF_c (by decide) (by decide), hc 24 (by unfold fx; decide) (by decide) (by decide)]; exact (hP.2.1 k hk).symm, by rw [drF_c (by decide) (by decide), hc 23 (by unfold fx; decide) (by decide) (by decide)]; exact hP.2.2.symm⟩ (by rw [drF_c (by decide) (by decide)]; exact PB89 hR) (fun a ha => by rw [drF_96, if_pos ha, h64 a ha]; exact ⟨rfl, sdH_r _⟩) (Or.inl ⟨rfl, rfl⟩)
theorem DFr_CR {p u : Nat} {sp : Int} {F G X H : XT} {L : LT} {e b s : Int} (h : DFr F G s) (hR : CR p u sp G X L e b H) : DFr F H s := by
  obtain ⟨h1, h2, h3, h4⟩ := h
  have e0 := hR.2.1 0 (by unfold fx; decide)
  exact ⟨hR.rf, fun c hc c1 c2 => (hR.2.1 c hc).trans (h2 c hc c1 c2), fun j hj => by rw [e0]; exact h3 j hj, by rw [e0]; exact h4⟩
theorem DFr_s {F G : XT} {s : Int} (h : DFr F G s) (v : Int) : DFr F (qup G 0 13 v) v := by
  obtain ⟨h1, h2, h3, h4⟩ := h
  exact ⟨h1.up (by decide), fun c hc c1 c2 => by rw [qup_c c1]; exact h2 c hc c1 c2, fun j hj => by rw [qup_ap, if_pos rfl, if_neg hj]; exact h3 j hj, by rw [qup_ap, if_pos rfl, if_pos rfl]⟩
theorem DFr_h {F G : XT} {s : Int} (h : DFr F G s) (a : Nat) (v : Int) : DFr F (qup G 64 a v) s := by
  obtain ⟨h1, h2, h3, h4⟩ := h
  exact ⟨h1.upA a v (by decide), fun c hc c1 c2 => by rw [qup_c c2]; exact h2 c hc c1 c2, fun j hj => by rw [qup_c (by decide)]; exact h3 j hj, by rw [qup_c (by decide)]; exact h4⟩
theorem k90 {tb : qTb} {F : XT} {n ns na m : Nat} {R : Option qV → qM → Prop} (hA : FA) (hR : Rel F) (hd : DN F n ns na) (hna : na ≤ 12) (hm : 1 ≤ m ∧ m ≤ 4) (hk : ∀ G, DFr F G (sdN (F 0 13) (m * na)) → R (some (0, drT F n ns na (F 0 13) m)) (LAY, G)) : qW tb 90 (119, 1262) 0 [(3, 0), (0, (m : Int)), (9, 0), (9, 0), (9, 0)] [] (LAY, F) R := by
  generalize hs : F 0 13 = s at hk
  have hin : ∀ (i : Nat), (∀ G v, DFr F G (sdN s ((i + 1) * na)) → (∀ a : Nat, a < na → G 64 a = sdH (sdN s (i * na + a + 1))) → qW tb 90 (119, 1262) 56 [(3, 0), (0, (m : Int)), (0, drT F n ns na s i), (0, (i : Int)), v] [] (LAY, G) R) → ∀ (q a : Nat) (G : XT), a + q = na → DFr F G (sdN s (i * na + a)) → (∀ j : Nat, j < a → G 64 j = sdH (sdN s (i * na + j + 1))) → qW tb 90 (119, 1262) 25 [(3, 0), (0, (m : Int)), (0, drT F n ns na s i), (0, (i : Int)), (0, (a : Int))] [] (LAY, G) R := by
    intro i hgo q
    induction q with
    | zero =>
      intro a G hq hG h64
      have hr := Rf_k hG.1
      have g3 : G 3 2 = (na : Int) := by rw [hG.2.1 3 (by unfold fx; decide) (by decide) (by decide)]; exact hd.2.2
      have ea : a = na := by omega
      have b1 : ((a : Int) < (na : Int)) = False := eq_false (by omega)
      have hq2 := hgo G (0, (a : Int)) (by rw [Nat.add_mul, Nat.one_mul, ← ea]; rw [ea] at hG ⊢; exact hG) (fun j hj => h64 j (by omega))
      rw [h90_25]
      simp only [YK, d90a, t90, tgK, lyK, rkK, wK, rfK, hr, qRes_eq, qNon_eq, qup_ap, vup_ap, vcpy_ap, kc8_0, kc8_1, kc8_2, lc_lt, lc_gt, lc_eq, Option.toList_some, Option.toList_none, List.cons_append, List.nil_append, lay_len, lay_sz, Nat.reduceAdd, Nat.reduceSub, Nat.reduceMul, Int.reduceToNat, Int.reduceLE, Int.reduceLT, Int.reduceEq, Int.reduceAdd, Int.reduceSub, Int.reduceMul, Int.reduceNeg, Nat.reduceLeDiff, Nat.reduceLT, true_and, and_true, false_and, and_false, qcat_0, qcat_1, qcat_3, qcat_9, Nat.reduceEqDiff, if_true, if_false, ite_self, or_true, true_or, or_false, false_or, forall_const, not_true_eq_false, not_false_eq_true, false_implies, implies_true, qtK0, qtK1, qtK2, qtK3, qtK4, List.getD_cons_zero, List.getD_cons_succ, Int.toNat_natCast, ne_eq, qcK, hbF, bsetF, bclrF, g3, b1]
      exact hq2
    | succ q ih =>
      intro a G hq hG h64
      have hr := Rf_k hG.1
      have g3 : G 3 2 = (na : Int) := by rw [hG.2.1 3 (by unfold fx; decide) (by decide) (by decide)]; exact hd.2.2
      have g13 := hG.2.2.2
      have b1 : ((a : Int) < (na : Int)) = True := eq_true (by omega)
      have b2 : (0 ≤ (a : Int) ∧ (a : Int) < 12) = True := eq_true (by omega)
      have w1 : w32 ((a : Int) + 1) = ((a + 1 : Nat) : Int) := by rw [w32_id ⟨by omega, by omega⟩]; omega
      have hG2 := DFr_h (DFr_s hG (sdN s (i * na + a + 1))) a (sdH (sdN s (i * na + a + 1)))
      have hi := ih (a + 1) _ (by omega) hG2 (fun j hj => by
        rw [qup_ap, if_pos rfl]
        by_cases hja : j = a
        · rw [if_pos hja, hja]
        · rw [if_neg hja, qup_c (by decide)]; exact h64 j (by omega))
      have es : sdN s (i * na + a + 1) = w64 (w64 (sdN s (i * na + a) * 6364136223846793005) + 1442695040888963407) := rfl
      unfold sdH at hi
      rw [es] at hi
      rw [h90_25]
      simp only [YK, c90, t90, c99, t99, cl99, tgK, lyK, rkK, wK, rfK, hr, qRes_eq, qNon_eq, qup_ap, vup_ap, vcpy_ap, kc8_0, kc8_1, kc8_2, lc_lt, lc_gt, lc_eq, Option.toList_some, Option.toList_none, List.cons_append, List.nil_append, lay_len, lay_sz, Nat.reduceAdd, Nat.reduceSub, Nat.reduceMul, Int.reduceToNat, Int.reduceLE, Int.reduceLT, Int.reduceEq, Int.reduceAdd, Int.reduceSub, Int.reduceMul, Int.reduceNeg, Nat.reduceLeDiff, Nat.reduceLT, true_and, and_true, false_and, and_false, qcat_0, qcat_1, qcat_3, qcat_9, Nat.reduceEqDiff, if_true, if_false, ite_self, or_true, true_or, or_false, false_or, forall_const, not_true_eq_false, not_false_eq_true, false_implies, implies_true, qtK0, qtK1, qtK2, qtK3, qtK4, List.getD_cons_zero, List.getD_cons_succ, Int.toNat_natCast, ne_eq, qcK, hbF, bsetF, bclrF, g3, g13, b1, b2, w1]
      exact hi
  have hloop : ∀ (q i : Nat) (G : XT) (v : qV), i + q = m → DFr F G (sdN s (i * na)) → qW tb 90 (119, 1262) 17 [(3, 0), (0, (m : Int)), (0, drT F n ns na s i), (0, (i : Int)), v] [] (LAY, G) R := by
    intro q
    induction q with
    | zero =>
      intro i G v hq hG
      have ei : i = m := by omega
      subst ei
      have b1 : ((i : Int) < (i : Int)) = False := eq_false (by omega)
      have hq2 := hk G hG
      rw [h90_17]
      simp only [YK, c90, t90, tgK, lyK, rkK, wK, rfK, qRes_eq, qNon_eq, qup_ap, vup_ap, vcpy_ap, kc8_0, kc8_1, kc8_2, lc_lt, lc_gt, lc_eq, Option.toList_some, Option.toList_none, List.cons_append, List.nil_append, lay_len, lay_sz, Nat.reduceAdd, Nat.reduceSub, Nat.reduceMul, Int.reduceToNat, Int.reduceLE, Int.reduceLT, Int.reduceEq, Int.reduceAdd, Int.reduceSub, Int.reduceMul, Int.reduceNeg, Nat.reduceLeDiff, Nat.reduceLT, true_and, and_true, false_and, and_false, qcat_0, qcat_1, qcat_3, qcat_9, Nat.reduceEqDiff, if_true, if_false, ite_self, or_true, true_or, or_false, false_or, forall_const, not_true_eq_false, not_false_eq_true, false_implies, implies_true, qtK0, qtK1, qtK2, qtK3, qtK4, List.getD_cons_zero, List.getD_cons_succ, Int.toNat_natCast, ne_eq, qcK, hbF, bsetF, bclrF, b1]
      exact hq2
    | succ q ih =>
      intro i G v hq hG
      have b1 : ((i : Int) < (m : Int)) = True := eq_true (by omega)
      have w1 : w32 ((i : Int) + 1) = ((i + 1 : Nat) : Int) := by rw [w32_id ⟨by omega, by omega⟩]; omega
      have hq2 := hin i ?_ na 0 G (by omega) hG (fun j hj => absurd hj (by omega))
      · rw [h90_17]
        simp only [YK, c90, t90, tgK, lyK, rkK, wK, rfK, qRes_eq, qNon_eq, qup_ap, vup_ap, vcpy_ap, kc8_0, kc8_1, kc8_2, lc_lt, lc_gt, lc_eq, Option.toList_some, Option.toList_none, List.cons_append, List.nil_append, lay_len, lay_sz, Nat.reduceAdd, Nat.reduceSub, Nat.reduceMul, Int.reduceToNat, Int.reduceLE, Int.reduceLT, Int.reduceEq, Int.reduceAdd, Int.reduceSub, Int.reduceMul, Int.reduceNeg, Nat.reduceLeDiff, Nat.reduceLT, true_and, and_true, false_and, and_false, qcat_0, qcat_1, qcat_3, qcat_9, Nat.reduceEqDiff, if_true, if_false, ite_self, or_true, true_or, or_false, false_or, forall_const, not_true_eq_false, not_false_eq_true, false_implies, implies_true, qtK0, qtK1, qtK2, qtK3, qtK4, List.getD_cons_zero, List.getD_cons_succ, Int.toNat_natCast, ne_eq, qcK, hbF, bsetF, bclrF, b1]
        exact hq2
      · intro G2 v2 hG2 h64
        have hr := Rf_k hG2.1
        obtain ⟨hI, hST⟩ := DFr_ok (s := s) (i := i) hR hd hG2 h64
        simp only [YK, c90, t90, cl8, tgK, lyK, rkK, wK, rfK, hr, qRes_eq, qNon_eq, qup_ap, vup_ap, vcpy_ap, kc8_0, kc8_1, kc8_2, lc_lt, lc_gt, lc_eq, Option.toList_some, Option.toList_none, List.cons_append, List.nil_append, lay_len, lay_sz, Nat.reduceAdd, Nat.reduceSub, Nat.reduceMul, Int.reduceToNat, Int.reduceLE, Int.reduceLT, Int.reduceEq, Int.reduceAdd, Int.reduceSub, Int.reduceMul, Int.reduceNeg, Nat.reduceLeDiff, Nat.reduceLT, true_and, and_true, false_and, and_false, qcat_0, qcat_1, qcat_3, qcat_9, Nat.reduceEqDiff, if_true, if_false, ite_self, or_true, true_or, or_false, false_or, forall_const, not_true_eq_false, not_false_eq_true, false_implies, implies_true, qtK0, qtK1, qtK2, qtK3, qtK4, List.getD_cons_zero, List.getD_cons_succ, Int.toNat_natCast, ne_eq, qcK, hbF, bsetF, bclrF]
        refine k8 (p := 23) (s := 24) (u := 64) hA.1 hA.2.1 hG2.1 (pIni_St0 89 (-9) (drF F na s i)) hST hI 79 (by decide) ?_
        intro G3 hC
        have hC2 := hC
        unfold CC at hC2
        have hG3 := DFr_CR hG2 hC2
        clear hr
        have hr := Rf_k hG3.1
        have hi := ih (i + 1) G3 v2 (by omega) hG3
        unfold drT at hi
        simp only [YK, c90, t90, cl26, tgK, lyK, rkK, wK, rfK, hr, qRes_eq, qNon_eq, qup_ap, vup_ap, vcpy_ap, kc8_0, kc8_1, kc8_2, lc_lt, lc_gt, lc_eq, Option.toList_some, Option.toList_none, List.cons_append, List.nil_append, lay_len, lay_sz, Nat.reduceAdd, Nat.reduceSub, Nat.reduceMul, Int.reduceToNat, Int.reduceLE, Int.reduceLT, Int.reduceEq, Int.reduceAdd, Int.reduceSub, Int.reduceMul, Int.reduceNeg, Nat.reduceLeDiff, Nat.reduceLT, true_and, and_true, false_and, and_false, qcat_0, qcat_1, qcat_3, qcat_9, Nat.reduceEqDiff, if_true, if_false, ite_self, or_true, true_or, or_false, false_or, forall_const, not_true_eq_false, not_false_eq_true, false_implies, implies_true, qtK0, qtK1, qtK2, qtK3, qtK4, List.getD_cons_zero, List.getD_cons_succ, Int.toNat_natCast, ne_eq, qcK, hbF, bsetF, bclrF]
        refine k26 hC2 2 na (by rw [hG2.2.1 3 (by unfold fx; decide) (by decide) (by decide)]; exact hd.2.2) hna ?_
        simp only [YK, c90, t90, tgK, lyK, rkK, wK, rfK, qRes_eq, qNon_eq, qup_ap, vup_ap, vcpy_ap, kc8_0, kc8_1, kc8_2, lc_lt, lc_gt, lc_eq, Option.toList_some, Option.toList_none, List.cons_append, List.nil_append, lay_len, lay_sz, Nat.reduceAdd, Nat.reduceSub, Nat.reduceMul, Int.reduceToNat, Int.reduceLE, Int.reduceLT, Int.reduceEq, Int.reduceAdd, Int.reduceSub, Int.reduceMul, Int.reduceNeg, Nat.reduceLeDiff, Nat.reduceLT, true_and, and_true, false_and, and_false, qcat_0, qcat_1, qcat_3, qcat_9, Nat.reduceEqDiff, if_true, if_false, ite_self, or_true, true_or, or_false, false_or, forall_const, not_true_eq_false, not_false_eq_true, false_implies, implies_true, qtK0, qtK1, qtK2, qtK3, qtK4, List.getD_cons_zero, List.getD_cons_succ, Int.toNat_natCast, ne_eq, qcK, hbF, bsetF, bclrF, w1]
        exact hi
  have d1 : ((m : Int) < 1) = False := eq_false (by omega)
  have d2 : (4 < (m : Int)) = False := eq_false (by omega)
  have hq := hloop m 0 F (9, 0) (by omega) ⟨hR.1, fun _ _ _ _ => rfl, fun _ _ => rfl, by rw [Nat.zero_mul]; exact hs⟩
  simp only [YK, c90, t90, tgK, lyK, rkK, wK, rfK, qRes_eq, qNon_eq, qup_ap, vup_ap, vcpy_ap, kc8_0, kc8_1, kc8_2, lc_lt, lc_gt, lc_eq, Option.toList_some, Option.toList_none, List.cons_append, List.nil_append, lay_len, lay_sz, Nat.reduceAdd, Nat.reduceSub, Nat.reduceMul, Int.reduceToNat, Int.reduceLE, Int.reduceLT, Int.reduceEq, Int.reduceAdd, Int.reduceSub, Int.reduceMul, Int.reduceNeg, Nat.reduceLeDiff, Nat.reduceLT, true_and, and_true, false_and, and_false, qcat_0, qcat_1, qcat_3, qcat_9, Nat.reduceEqDiff, if_true, if_false, ite_self, or_true, true_or, or_false, false_or, forall_const, not_true_eq_false, not_false_eq_true, false_implies, implies_true, qtK0, qtK1, qtK2, qtK3, qtK4, List.getD_cons_zero, List.getD_cons_succ, Int.toNat_natCast, ne_eq, qcK, hbF, bsetF, bclrF, d1, d2]
  exact hq
/-- the reference's memory while hours are drawn: the seed is sd -/
def SFr (F F1 G : XT) (na : Nat) (sd : Int) : Prop := Nrm (qup F 69 38 sd) G ∧ G 90 = F 90 ∧ G 118 = F 118 ∧ (∀ j : Nat, na ≤ j → G 96 j = F 96 j) ∧ ∀ c : Nat, c < 69 → G c = F1 c
theorem SFr_s {F F1 G : XT} {na : Nat} {sd : Int} (h : SFr F F1 G na sd) (v : Int) : SFr F F1 (qup G 69 38 v) na v := by
  obtain ⟨⟨n0, n1, n2, n3, n4, n5⟩, h2, h3, h4, h5⟩ := h
  refine ⟨⟨n0.up (by decide), fun c a1 a2 a3 a4 a5 => ?_, fun j a1 a2 => ?_, fun j a => ?_, fun c j a1 a2 a3 => ?_, fun c j a1 a2 a3 => ?_⟩, by rw [qup_c (by decide)]; exact h2, by rw [qup_c (by decide)]; exact h3, fun j hj => by rw [qup_c (by decide)]; exact h4 j hj, fun c hc => by rw [qup_c (by omega)]; exact h5 c hc⟩
  · rw [qup_c (by omega), n1 c a1 a2 a3 a4 a5, qup_c (by omega), qup_c (by omega)]
  · rw [qup_ap, qup_ap, if_pos rfl, if_pos rfl]
    by_cases c : j = 38
    · rw [if_pos c, if_pos c]
    · rw [if_neg c, if_neg c, n2 j a1 a2, qup_ap, if_pos rfl, if_neg c]
  · rw [qup_c (by decide), n3 j a, qup_c (by decide), qup_c (by decide)]
  · rw [qup_c (by omega), n4 c j a1 a2 a3, qup_c (by omega), qup_c (by omega)]
  · rw [qup_c (by omega), n5 c j a1 a2 a3, qup_c (by omega), qup_c (by omega)]
theorem SFr_h {F F1 G : XT} {na : Nat} {sd : Int} (h : SFr F F1 G na sd) {a : Nat} (ha : a < na) (v : Int) : SFr F F1 (qup G 96 a v) na sd := by
  obtain ⟨n, h2, h3, h4, h5⟩ := h
  exact ⟨Nrm_up n v (by decide), by rw [qup_c (by decide)]; exact h2, by rw [qup_c (by decide)]; exact h3, fun j hj => by rw [qup_ap, if_pos rfl, if_neg (by omega)]; exact h4 j hj, fun c hc => by rw [qup_c (by omega)]; exact h5 c hc⟩
theorem SFr_N {F F1 G : XT} {na i : Nat} {s : Int} (h : SFr F F1 G na (sdN s ((i + 1) * na))) : Nrm (drF F na s i) G := by
  obtain ⟨⟨n0, n1, n2, n3, n4, n5⟩, -⟩ := h
  refine ⟨n0, fun c a1 a2 a3 a4 a5 => ?_, fun j a1 a2 => ?_, fun j a => ?_, fun c j a1 a2 a3 => ?_, fun c j a1 a2 a3 => ?_⟩
  · rw [n1 c a1 a2 a3 a4 a5, qup_c (by omega), drF_c a4 (by omega)]
  · rw [n2 j a1 a2, qup_ap, if_pos rfl, drF_69]
  · rw [n3 j a, qup_c (by decide), drF_c (by decide) (by decide)]
  · rw [n4 c j a1 a2 a3, qup_c (by omega), drF_c (by omega) (by omega)]
  · rw [n5 c j a1 a2 a3, qup_c (by omega), drF_c (by omega) (by omega)]
theorem N_SFr {F G : XT} {na i : Nat} {s : Int} (h : Nrm (drF F na s i) G) : Nrm (qup F 69 38 (sdN s ((i + 1) * na))) G := by
  obtain ⟨n0, n1, n2, n3, n4, n5⟩ := h
  refine ⟨n0, fun c a1 a2 a3 a4 a5 => ?_, fun j a1 a2 => ?_, fun j a => ?_, fun c j a1 a2 a3 => ?_, fun c j a1 a2 a3 => ?_⟩
  · rw [n1 c a1 a2 a3 a4 a5, qup_c (by omega), drF_c a4 (by omega)]
  · rw [n2 j a1 a2, qup_ap, if_pos rfl, drF_69]
  · rw [n3 j a, qup_c (by decide), drF_c (by decide) (by decide)]
  · rw [n4 c j a1 a2 a3, qup_c (by omega), drF_c (by omega) (by omega)]
  · rw [n5 c j a1 a2 a3, qup_c (by omega), drF_c (by omega) (by omega)]
theorem r176 {tb : qTb} {F F1 : XT} {n ns na m : Nat} {R : Option qV → qM → Prop} (hA : FA) (hR : Rel F) (hd : DN F n ns na) (hm : 1 ≤ m ∧ m ≤ 4) (hf1 : Rf F1) (h9 : ∀ c : Nat, 69 ≤ c → F1 c = F c) (hk : ∀ G, SFr F F1 G na (sdN (F 0 13) (m * na)) → R (some (0, drT F n ns na (F 0 13) m)) (LAY, G)) : qW tb 176 (119, 1262) 0 [(3, 69), (0, (m : Int)), (9, 0), (9, 0), (9, 0)] [] (LAY, F1) R := by
  have hD := hR.2.2.1
  have hG38 := hR.2.2.2.2.2.2.2.1
  have g3 : F 69 3 = (na : Int) := by rw [hD.2.1.1]; exact hd.2.2
  have hna : na ≤ 12 := by have := hD.2.1; have := hd.2.2; omega
  generalize hs : F 0 13 = s at hk hG38
  have hfacts : ∀ G sd, SFr F F1 G na sd → G 69 3 = (na : Int) ∧ G 69 38 = sd := by
    intro G sd hG
    have q := hG.1
    refine ⟨?_, ?_⟩
    · rw [q.2.2.1 3 (by decide) (by decide), qup_ap, if_pos rfl, if_neg (by decide), g3]
    · rw [q.2.2.1 38 (by decide) (by decide), qup_ap, if_pos rfl, if_pos rfl]
  have hin : ∀ (i : Nat), (∀ G v, SFr F F1 G na (sdN s ((i + 1) * na)) → (∀ a : Nat, a < na → G 96 a = sdH (sdN s (i * na + a + 1))) → qW tb 176 (119, 1262) 77 [(3, 69), (0, (m : Int)), (0, drT F n ns na s i), (0, (i : Int)), v] [] (LAY, G) R) → ∀ (q a : Nat) (G : XT), a + q = na → SFr F F1 G na (sdN s (i * na + a)) → (∀ j : Nat, j < a → G 96 j = sdH (sdN s (i * na + j + 1))) → qW tb 176 (119, 1262) 27 [(3, 69), (0, (m : Int)), (0, drT F n ns na s i), (0, (i : Int)), (0, (a : Int))] [] (LAY, G) R := by
    intro i hgo q
    induction q with
    | zero =>
      intro a G hq hG h64
      have hr := Rf_k hG.1.1
      obtain ⟨f1, f2⟩ := hfacts G _ hG
      have ea : a = na := by omega
      have b1 : ((a : Int) < (na : Int)) = False := eq_false (by omega)
      have hq2 := hgo G (0, (a : Int)) (by rw [Nat.add_mul, Nat.one_mul]; rw [ea] at hG; exact hG) (fun j hj => h64 j (by omega))
      rw [h176_27]
      simp only [YK, d176a, t176, tgK, lyK, rkK, wK, rfK, hr, qRes_eq, qNon_eq, qup_ap, vup_ap, vcpy_ap, kc8_0, kc8_1, kc8_2, lc_lt, lc_gt, lc_eq, Option.toList_some, Option.toList_none, List.cons_append, List.nil_append, lay_len, lay_sz, Nat.reduceAdd, Nat.reduceSub, Nat.reduceMul, Int.reduceToNat, Int.reduceLE, Int.reduceLT, Int.reduceEq, Int.reduceAdd, Int.reduceSub, Int.reduceMul, Int.reduceNeg, Nat.reduceLeDiff, Nat.reduceLT, true_and, and_true, false_and, and_false, qcat_0, qcat_1, qcat_3, qcat_9, Nat.reduceEqDiff, if_true, if_false, ite_self, or_true, true_or, or_false, false_or, forall_const, not_true_eq_false, not_false_eq_true, false_implies, implies_true, qtK0, qtK1, qtK2, qtK3, qtK4, List.getD_cons_zero, List.getD_cons_succ, Int.toNat_natCast, ne_eq, qcK, hbF, bsetF, bclrF, f1, b1]
      exact hq2
    | succ q ih =>
      intro a G hq hG h64
      have hr := Rf_k hG.1.1
      obtain ⟨f1, f2⟩ := hfacts G _ hG
      have b1 : ((a : Int) < (na : Int)) = True := eq_true (by omega)
      have b2 : (0 ≤ (a : Int) ∧ (a : Int) < 12) = True := eq_true (by omega)
      have w1 : w32 ((a : Int) + 1) = ((a + 1 : Nat) : Int) := by rw [w32_id ⟨by omega, by omega⟩]; omega
      have hG2 := SFr_h (SFr_s hG (sdN s (i * na + a + 1))) (a := a) (by omega) (sdH (sdN s (i * na + a + 1)))
      have hi := ih (a + 1) _ (by omega) hG2 (fun j hj => by
        rw [qup_ap, if_pos rfl]
        by_cases hja : j = a
        · rw [if_pos hja, hja]
        · rw [if_neg hja, qup_c (by decide)]; exact h64 j (by omega))
      have es : sdN s (i * na + a + 1) = w64 (w64 (sdN s (i * na + a) * 6364136223846793005) + 1442695040888963407) := rfl
      unfold sdH at hi
      rw [es] at hi
      rw [h176_27]
      simp only [YK, c176, t176, tgK, lyK, rkK, wK, rfK, hr, qRes_eq, qNon_eq, qup_ap, vup_ap, vcpy_ap, kc8_0, kc8_1, kc8_2, lc_lt, lc_gt, lc_eq, Option.toList_some, Option.toList_none, List.cons_append, List.nil_append, lay_len, lay_sz, Nat.reduceAdd, Nat.reduceSub, Nat.reduceMul, Int.reduceToNat, Int.reduceLE, Int.reduceLT, Int.reduceEq, Int.reduceAdd, Int.reduceSub, Int.reduceMul, Int.reduceNeg, Nat.reduceLeDiff, Nat.reduceLT, true_and, and_true, false_and, and_false, qcat_0, qcat_1, qcat_3, qcat_9, Nat.reduceEqDiff, if_true, if_false, ite_self, or_true, true_or, or_false, false_or, forall_const, not_true_eq_false, not_false_eq_true, false_implies, implies_true, qtK0, qtK1, qtK2, qtK3, qtK4, List.getD_cons_zero, List.getD_cons_succ, Int.toNat_natCast, ne_eq, qcK, hbF, bsetF, bclrF, f1, f2, b1, b2, w1]
      exact hi
  have hloop : ∀ (q i : Nat) (G : XT) (v : qV), i + q = m → SFr F F1 G na (sdN s (i * na)) → qW tb 176 (119, 1262) 19 [(3, 69), (0, (m : Int)), (0, drT F n ns na s i), (0, (i : Int)), v] [] (LAY, G) R := by
    intro q
    induction q with
    | zero =>
      intro i G v hq hG
      have ei : i = m := by omega
      subst ei
      have b1 : ((i : Int) < (i : Int)) = False := eq_false (by omega)
      have hq2 := hk G hG
      rw [h176_19]
      simp only [YK, c176, t176, tgK, lyK, rkK, wK, rfK, qRes_eq, qNon_eq, qup_ap, vup_ap, vcpy_ap, kc8_0, kc8_1, kc8_2, lc_lt, lc_gt, lc_eq, Option.toList_some, Option.toList_none, List.cons_append, List.nil_append, lay_len, lay_sz, Nat.reduceAdd, Nat.reduceSub, Nat.reduceMul, Int.reduceToNat, Int.reduceLE, Int.reduceLT, Int.reduceEq, Int.reduceAdd, Int.reduceSub, Int.reduceMul, Int.reduceNeg, Nat.reduceLeDiff, Nat.reduceLT, true_and, and_true, false_and, and_false, qcat_0, qcat_1, qcat_3, qcat_9, Nat.reduceEqDiff, if_true, if_false, ite_self, or_true, true_or, or_false, false_or, forall_const, not_true_eq_false, not_false_eq_true, false_implies, implies_true, qtK0, qtK1, qtK2, qtK3, qtK4, List.getD_cons_zero, List.getD_cons_succ, Int.toNat_natCast, ne_eq, qcK, hbF, bsetF, bclrF, b1]
      exact hq2
    | succ q ih =>
      intro i G v hq hG
      have b1 : ((i : Int) < (m : Int)) = True := eq_true (by omega)
      have w1 : w32 ((i : Int) + 1) = ((i + 1 : Nat) : Int) := by rw [w32_id ⟨by omega, by omega⟩]; omega
      have hq2 := hin i ?_ na 0 G (by omega) hG (fun j hj => absurd hj (by omega))
      · rw [h176_19]
        simp only [YK, c176, t176, tgK, lyK, rkK, wK, rfK, qRes_eq, qNon_eq, qup_ap, vup_ap, vcpy_ap, kc8_0, kc8_1, kc8_2, lc_lt, lc_gt, lc_eq, Option.toList_some, Option.toList_none, List.cons_append, List.nil_append, lay_len, lay_sz, Nat.reduceAdd, Nat.reduceSub, Nat.reduceMul, Int.reduceToNat, Int.reduceLE, Int.reduceLT, Int.reduceEq, Int.reduceAdd, Int.reduceSub, Int.reduceMul, Int.reduceNeg, Nat.reduceLeDiff, Nat.reduceLT, true_and, and_true, false_and, and_false, qcat_0, qcat_1, qcat_3, qcat_9, Nat.reduceEqDiff, if_true, if_false, ite_self, or_true, true_or, or_false, false_or, forall_const, not_true_eq_false, not_false_eq_true, false_implies, implies_true, qtK0, qtK1, qtK2, qtK3, qtK4, List.getD_cons_zero, List.getD_cons_succ, Int.toNat_natCast, ne_eq, qcK, hbF, bsetF, bclrF, b1]
        exact hq2
      · intro G2 v2 hG2 h96
        have hr := Rf_k hG2.1.1
        have hN := SFr_N hG2
        obtain ⟨-, s2, s3, s4, s5⟩ := hG2
        have hX : ∀ c : Nat, nl c → drX F na s i c = pIni 89 (-9) G2 c := fun c hc => (pIni_Nrm (v := -9) hN (by rw [s2, drF_c (by decide) (by decide)]) (by
          funext j
          rw [drF_96]
          by_cases hj : j < na
          · rw [if_pos hj]; exact h96 j hj
          · rw [if_neg hj]; exact s4 j (by omega)) (by rw [s3, drF_c (by decide) (by decide)]) (fun j _ => by rw [hN.2.1 89 (by decide) (by decide) (by decide) (by decide) (by decide)]) c hc).symm
        have hI : Inv n ns na 0 0 (drX F na s i, L0) := (DFr_ok (G := va_up (qup F 0 13 s) 64 (fun a => sdH (sdN s (i * na + a + 1)))) (sd := s) (s := s) (i := i) hR hd ⟨Rf_vup (hR.1.up (by decide)) _ (by decide), fun c hc c1 c2 => by
            funext j
            rw [vup_ap, if_neg c2, qup_c c1], fun j hj => by rw [vup_ap, if_neg (by decide), qup_ap, if_pos rfl, if_neg hj], by rw [vup_ap, if_neg (by decide), qup_ap, if_pos rfl, if_pos rfl]⟩ (fun a ha => by rw [vup_ap, if_pos rfl])).1
        simp only [YK, c176, t176, cl148, tgK, lyK, rkK, wK, rfK, hr, qRes_eq, qNon_eq, qup_ap, vup_ap, vcpy_ap, kc8_0, kc8_1, kc8_2, lc_lt, lc_gt, lc_eq, Option.toList_some, Option.toList_none, List.cons_append, List.nil_append, lay_len, lay_sz, Nat.reduceAdd, Nat.reduceSub, Nat.reduceMul, Int.reduceToNat, Int.reduceLE, Int.reduceLT, Int.reduceEq, Int.reduceAdd, Int.reduceSub, Int.reduceMul, Int.reduceNeg, Nat.reduceLeDiff, Nat.reduceLT, true_and, and_true, false_and, and_false, qcat_0, qcat_1, qcat_3, qcat_9, Nat.reduceEqDiff, if_true, if_false, ite_self, or_true, true_or, or_false, false_or, forall_const, not_true_eq_false, not_false_eq_true, false_implies, implies_true, qtK0, qtK1, qtK2, qtK3, qtK4, List.getD_cons_zero, List.getD_cons_succ, Int.toNat_natCast, ne_eq, qcK, hbF, bsetF, bclrF]
        refine r148 (y := 89) hA.1 hA.2.2.1 hN.1 (Or.inl rfl) (-9) hX hI 79 (by decide) ?_
        intro G3 hRR
        obtain ⟨m1, m2, m3, m4⟩ := Nrm_RR hA.1 hN hX hI (by decide) hRR
        have hG3 : SFr F F1 G3 na (sdN s ((i + 1) * na)) := ⟨N_SFr m1, m2.trans s2, m4.trans s3, fun j hj => by rw [m3]; exact s4 j hj, fun c hc => (hRR.2.1 c hc).trans (s5 c hc)⟩
        clear hr
        have hr := Rf_k hG3.1.1
        have hi := ih (i + 1) G3 v2 (by omega) hG3
        unfold drT at hi
        have hKP := KP_run (n := n) (ns := ns) (na := na) (S := (drX F na s i, L0)) 80
        simp only [YK, c176, t176, cl151, tgK, lyK, rkK, wK, rfK, hr, qRes_eq, qNon_eq, qup_ap, vup_ap, vcpy_ap, kc8_0, kc8_1, kc8_2, lc_lt, lc_gt, lc_eq, Option.toList_some, Option.toList_none, List.cons_append, List.nil_append, lay_len, lay_sz, Nat.reduceAdd, Nat.reduceSub, Nat.reduceMul, Int.reduceToNat, Int.reduceLE, Int.reduceLT, Int.reduceEq, Int.reduceAdd, Int.reduceSub, Int.reduceMul, Int.reduceNeg, Nat.reduceLeDiff, Nat.reduceLT, true_and, and_true, false_and, and_false, qcat_0, qcat_1, qcat_3, qcat_9, Nat.reduceEqDiff, if_true, if_false, ite_self, or_true, true_or, or_false, false_or, forall_const, not_true_eq_false, not_false_eq_true, false_implies, implies_true, qtK0, qtK1, qtK2, qtK3, qtK4, List.getD_cons_zero, List.getD_cons_succ, Int.toNat_natCast, ne_eq, qcK, hbF, bsetF, bclrF]
        refine r151 hRR 2 na (by rw [hKP.2 3 (by decide)]; exact hI.1.2.2.1.1) hna ?_
        simp only [YK, c176, t176, tgK, lyK, rkK, wK, rfK, qRes_eq, qNon_eq, qup_ap, vup_ap, vcpy_ap, kc8_0, kc8_1, kc8_2, lc_lt, lc_gt, lc_eq, Option.toList_some, Option.toList_none, List.cons_append, List.nil_append, lay_len, lay_sz, Nat.reduceAdd, Nat.reduceSub, Nat.reduceMul, Int.reduceToNat, Int.reduceLE, Int.reduceLT, Int.reduceEq, Int.reduceAdd, Int.reduceSub, Int.reduceMul, Int.reduceNeg, Nat.reduceLeDiff, Nat.reduceLT, true_and, and_true, false_and, and_false, qcat_0, qcat_1, qcat_3, qcat_9, Nat.reduceEqDiff, if_true, if_false, ite_self, or_true, true_or, or_false, false_or, forall_const, not_true_eq_false, not_false_eq_true, false_implies, implies_true, qtK0, qtK1, qtK2, qtK3, qtK4, List.getD_cons_zero, List.getD_cons_succ, Int.toNat_natCast, ne_eq, qcK, hbF, bsetF, bclrF, w1]
        exact hi
  have hr := Rf_k hf1
  have e1 : ((1 : Nat) : Int) = 1 := rfl
  simp only [YK, c176, t176, cl104, tgK, lyK, rkK, wK, rfK, qRes_eq, qNon_eq, qup_ap, vup_ap, vcpy_ap, kc8_0, kc8_1, kc8_2, lc_lt, lc_gt, lc_eq, Option.toList_some, Option.toList_none, List.cons_append, List.nil_append, lay_len, lay_sz, Nat.reduceAdd, Nat.reduceSub, Nat.reduceMul, Int.reduceToNat, Int.reduceLE, Int.reduceLT, Int.reduceEq, Int.reduceAdd, Int.reduceSub, Int.reduceMul, Int.reduceNeg, Nat.reduceLeDiff, Nat.reduceLT, true_and, and_true, false_and, and_false, qcat_0, qcat_1, qcat_3, qcat_9, Nat.reduceEqDiff, if_true, if_false, ite_self, or_true, true_or, or_false, false_or, forall_const, not_true_eq_false, not_false_eq_true, false_implies, implies_true, qtK0, qtK1, qtK2, qtK3, qtK4, List.getD_cons_zero, List.getD_cons_succ, Int.toNat_natCast, ne_eq, qcK, hbF, bsetF, bclrF, e1]
  refine r104 (m : Int) 1 4 ?_
  rw [b01_t (by omega)]
  have hq := hloop m 0 F1 (9, 0) (by omega) ⟨⟨hf1, fun c a1 _ _ _ _ => by rw [h9 c (by omega), qup_c (by omega)], fun j _ _ => by
    rw [h9 69 (by decide), qup_ap, if_pos rfl, Nat.zero_mul]
    by_cases c : j = 38
    · rw [if_pos c, c, hG38]; rfl
    · rw [if_neg c], fun j _ => by rw [h9 97 (by decide), qup_c (by decide)], fun c j a1 _ _ => by rw [h9 c (by omega), qup_c (by omega)], fun c j a1 _ _ => by rw [h9 c (by omega), qup_c (by omega)]⟩, h9 90 (by decide), h9 118 (by decide), fun j _ => by rw [h9 96 (by decide)], fun _ _ => rfl⟩
  simp only [YK, c176, t176, tgK, lyK, rkK, wK, rfK, qRes_eq, qNon_eq, qup_ap, vup_ap, vcpy_ap, kc8_0, kc8_1, kc8_2, lc_lt, lc_gt, lc_eq, Option.toList_some, Option.toList_none, List.cons_append, List.nil_append, lay_len, lay_sz, Nat.reduceAdd, Nat.reduceSub, Nat.reduceMul, Int.reduceToNat, Int.reduceLE, Int.reduceLT, Int.reduceEq, Int.reduceAdd, Int.reduceSub, Int.reduceMul, Int.reduceNeg, Nat.reduceLeDiff, Nat.reduceLT, true_and, and_true, false_and, and_false, qcat_0, qcat_1, qcat_3, qcat_9, Nat.reduceEqDiff, if_true, if_false, ite_self, or_true, true_or, or_false, false_or, forall_const, not_true_eq_false, not_false_eq_true, false_implies, implies_true, qtK0, qtK1, qtK2, qtK3, qtK4, List.getD_cons_zero, List.getD_cons_succ, Int.toNat_natCast, ne_eq, qcK, hbF, bsetF, bclrF]
  exact hq
theorem H_drawn {L : Nat} {xs : Nat → Int} (hA : FA) (F : Nat → Nat → Int) (m : Int) (hR : Rel F) : qPair (qtab L xs) Rel 0 90 176 [(3, 0), (0, m), (9, 0), (9, 0), (9, 0)] [(3, 69), (0, m), (9, 0), (9, 0), (9, 0)] F := by
  apply qPair_of
  obtain ⟨n, ns, na, hd⟩ := DN_of hR
  have hna : na ≤ 12 := by have := hR.2.2.1.2.1; have := hd.2.2; omega
  by_cases c : 1 ≤ m ∧ m ≤ 4
  · obtain ⟨m, rfl⟩ : ∃ k : Nat, m = (k : Int) := ⟨m.toNat, by omega⟩
    refine k90 hA hR hd hna (by omega) ?_
    intro G hG
    rw [qRes_eq]
    refine r176 hA hR hd (by omega) hG.1 (fun c hc => hG.2.1 c (by unfold fx; omega) (by omega) (by omega)) ?_
    intro G2 hG2
    rw [qRes_eq]
    refine ⟨rfl, ?_⟩
    obtain ⟨q1, q2, q3, q4⟩ := hG
    obtain ⟨s1, s2, s3, s4, s5⟩ := hG2
    generalize hse : sdN (F 0 13) (m * na) = se at *
    have hI64 : I64 se := by rw [← hse]; exact sdN_r hR.2.2.2.2.2.2.2.2 _
    have hRel : Rel (qup (qup F 0 13 se) 69 38 se) := by
      obtain ⟨hf, hT, hD, hP, hO, hK, hS, hG⟩ := hR
      refine ⟨(hf.up (by decide)).up (by decide), ?_, ?_, ?_, ?_, ?_, ?_, ?_⟩
      · simpa only [RT, qup_ap, Nat.reduceEqDiff, if_true, if_false] using hT
      · simpa only [RD, qup_ap, Nat.reduceEqDiff, if_true, if_false] using hD
      · simpa only [RP, PB, qup_ap, Nat.reduceEqDiff, if_true, if_false] using hP
      · simpa only [RO, drow, PB, qup_ap, Nat.reduceEqDiff, if_true, if_false] using hO
      · simpa only [RK, PB, qup_ap, Nat.reduceEqDiff, if_true, if_false] using hK
      · simpa only [RS, qup_ap, Nat.reduceEqDiff, if_true, if_false] using hS
      · simp only [RG, qup_ap, Nat.reduceEqDiff, if_true, if_false]
        exact ⟨trivial, hI64⟩
    refine Rel_eq hRel s1.1 (fun c hc => ?_) (fun j hj => ?_)
    · unfold rlc at hc
      by_cases c0 : c = 0
      · subst c0
        funext j
        rw [s5 0 (by decide), qup_c (by decide), qup_ap, if_pos rfl]
        by_cases cj : j = 13
        · rw [if_pos cj, cj]; exact q4
        · rw [if_neg cj]; exact q3 j cj
      · by_cases c69 : c < 69
        · rw [s5 c c69, qup_c (by omega), qup_c c0]
          exact q2 c (by unfold fx; omega) c0 (by omega)
        · rw [s1.2.1 c (by omega) (by omega) (by omega) (by omega) (by omega), qup_c (by omega), qup_c (by omega), qup_c (by omega)]
    · rw [s1.2.2.1 j (by omega) (by omega), qup_ap, if_pos rfl, qup_ap, if_pos rfl, qup_c (by decide)]
  · have hr := Rf_k hR.1
    have e1 : ((1 : Nat) : Int) = 1 := rfl
    by_cases c2 : m < 1
    · have d1 : (m < 1) = True := eq_true c2
      simp only [YK, c90, t90, c176, t176, cl104, tgK, lyK, rkK, wK, rfK, hr, qRes_eq, qNon_eq, qup_ap, vup_ap, vcpy_ap, kc8_0, kc8_1, kc8_2, lc_lt, lc_gt, lc_eq, Option.toList_some, Option.toList_none, List.cons_append, List.nil_append, lay_len, lay_sz, Nat.reduceAdd, Nat.reduceSub, Nat.reduceMul, Int.reduceToNat, Int.reduceLE, Int.reduceLT, Int.reduceEq, Int.reduceAdd, Int.reduceSub, Int.reduceMul, Int.reduceNeg, Nat.reduceLeDiff, Nat.reduceLT, true_and, and_true, false_and, and_false, qcat_0, qcat_1, qcat_3, qcat_9, Nat.reduceEqDiff, if_true, if_false, ite_self, or_true, true_or, or_false, false_or, forall_const, not_true_eq_false, not_false_eq_true, false_implies, implies_true, qtK0, qtK1, qtK2, qtK3, qtK4, List.getD_cons_zero, List.getD_cons_succ, Int.toNat_natCast, ne_eq, qcK, hbF, bsetF, bclrF, d1, e1]
      refine r104 m 1 4 ?_
      rw [b01_f c]
      simp only [YK, c176, t176, tgK, lyK, rkK, wK, rfK, qRes_eq, qNon_eq, qup_ap, vup_ap, vcpy_ap, kc8_0, kc8_1, kc8_2, lc_lt, lc_gt, lc_eq, Option.toList_some, Option.toList_none, List.cons_append, List.nil_append, lay_len, lay_sz, Nat.reduceAdd, Nat.reduceSub, Nat.reduceMul, Int.reduceToNat, Int.reduceLE, Int.reduceLT, Int.reduceEq, Int.reduceAdd, Int.reduceSub, Int.reduceMul, Int.reduceNeg, Nat.reduceLeDiff, Nat.reduceLT, true_and, and_true, false_and, and_false, qcat_0, qcat_1, qcat_3, qcat_9, Nat.reduceEqDiff, if_true, if_false, ite_self, or_true, true_or, or_false, false_or, forall_const, not_true_eq_false, not_false_eq_true, false_implies, implies_true, qtK0, qtK1, qtK2, qtK3, qtK4, List.getD_cons_zero, List.getD_cons_succ, Int.toNat_natCast, ne_eq, qcK, hbF, bsetF, bclrF]
      exact hR
    · have d1 : (m < 1) = False := eq_false c2
      have d2 : (4 < m) = True := eq_true (by omega)
      simp only [YK, c90, t90, c176, t176, cl104, tgK, lyK, rkK, wK, rfK, hr, qRes_eq, qNon_eq, qup_ap, vup_ap, vcpy_ap, kc8_0, kc8_1, kc8_2, lc_lt, lc_gt, lc_eq, Option.toList_some, Option.toList_none, List.cons_append, List.nil_append, lay_len, lay_sz, Nat.reduceAdd, Nat.reduceSub, Nat.reduceMul, Int.reduceToNat, Int.reduceLE, Int.reduceLT, Int.reduceEq, Int.reduceAdd, Int.reduceSub, Int.reduceMul, Int.reduceNeg, Nat.reduceLeDiff, Nat.reduceLT, true_and, and_true, false_and, and_false, qcat_0, qcat_1, qcat_3, qcat_9, Nat.reduceEqDiff, if_true, if_false, ite_self, or_true, true_or, or_false, false_or, forall_const, not_true_eq_false, not_false_eq_true, false_implies, implies_true, qtK0, qtK1, qtK2, qtK3, qtK4, List.getD_cons_zero, List.getD_cons_succ, Int.toNat_natCast, ne_eq, qcK, hbF, bsetF, bclrF, d1, d2, e1]
      refine r104 m 1 4 ?_
      rw [b01_f c]
      simp only [YK, c176, t176, tgK, lyK, rkK, wK, rfK, qRes_eq, qNon_eq, qup_ap, vup_ap, vcpy_ap, kc8_0, kc8_1, kc8_2, lc_lt, lc_gt, lc_eq, Option.toList_some, Option.toList_none, List.cons_append, List.nil_append, lay_len, lay_sz, Nat.reduceAdd, Nat.reduceSub, Nat.reduceMul, Int.reduceToNat, Int.reduceLE, Int.reduceLT, Int.reduceEq, Int.reduceAdd, Int.reduceSub, Int.reduceMul, Int.reduceNeg, Nat.reduceLeDiff, Nat.reduceLT, true_and, and_true, false_and, and_false, qcat_0, qcat_1, qcat_3, qcat_9, Nat.reduceEqDiff, if_true, if_false, ite_self, or_true, true_or, or_false, false_or, forall_const, not_true_eq_false, not_false_eq_true, false_implies, implies_true, qtK0, qtK1, qtK2, qtK3, qtK4, List.getD_cons_zero, List.getD_cons_succ, Int.toNat_natCast, ne_eq, qcK, hbF, bsetF, bclrF]
      exact hR
