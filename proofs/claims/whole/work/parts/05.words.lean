def qtb : List Cond := lw_tbl.filter goodWord
def qisN (w : Cond) : Bool := match w with
  | .fieldLinkNest .. => true
  | .methodLinkNest .. => true
  | _ => false
def qnst : List Cond := lw_tbl.filter qisN
theorem qtb_in {w : Cond} (h : w ∈ lw_tbl) (g : goodWord w = true) : w ∈ qtb := List.mem_filter.mpr ⟨h, g⟩
theorem qnst_in {w : Cond} (h : w ∈ lw_tbl) (g : qisN w = true) : w ∈ qnst := List.mem_filter.mpr ⟨h, g⟩
theorem qtb_good {big : List Cond} (hb : ∀ w ∈ qtb, w ∈ big) : GoodIn big qtb := fun w h => ⟨hb w h, good_of_word (List.mem_filter.mp h).2⟩
def qos (k : Nat) : String := ([RX0, RX1, RX2, RX3, RX4, RX5, RX6, RX7, RX8, RX9, RJ6, RJ9, RJ7, RL] : List String).getD k ""
def qFT (c j : Nat) : String × String × String × Bool := ((vwCl.getD c ("", fun _ => ("", "", "", false), 0)).2.1) j
theorem qplaces {ws : List Cond} (ps : List Nat) (h : ws = ps.filterMap (fun i => lw_tbl[i]?)) : ∀ w ∈ ws, w ∈ lw_tbl := fun w hw => by
  rw [h] at hw
  obtain ⟨i, -, hi⟩ := List.mem_filterMap.mp hw
  exact List.mem_of_getElem? hi
theorem kin0 : ∀ w ∈ k2_sels lw_privs, w ∈ lw_tbl := fun w h => List.mem_append_left _ h
theorem kin1 : ∀ w ∈ tables_1_1, w ∈ lw_tbl := fun w h => List.mem_append_right _ (List.mem_append_left _ h)
theorem kin2 : ∀ w ∈ tables_1_2, w ∈ lw_tbl := fun w h => List.mem_append_right _ (List.mem_append_right _ (List.mem_append_left _ h))
theorem kin3 : ∀ w ∈ tables_1_3, w ∈ lw_tbl := fun w h => List.mem_append_right _ (List.mem_append_right _ (List.mem_append_right _ (List.mem_append_left _ h)))
theorem kin4 : ∀ w ∈ tables_1_4, w ∈ lw_tbl := fun w h => List.mem_append_right _ (List.mem_append_right _ (List.mem_append_right _ (List.mem_append_right _ (List.mem_append_left _ h))))
theorem kin5 : ∀ w ∈ tables_1_5, w ∈ lw_tbl := fun w h => List.mem_append_right _ (List.mem_append_right _ (List.mem_append_right _ (List.mem_append_right _ (List.mem_append_right _ (List.mem_append_left _ h)))))
theorem kin6 : ∀ w ∈ tables_1_6, w ∈ lw_tbl := fun w h => List.mem_append_right _ (List.mem_append_right _ (List.mem_append_right _ (List.mem_append_right _ (List.mem_append_right _ (List.mem_append_right _ (h))))))
def qfl_0 : List (Nat × Nat × Nat × Nat) := [(0, 9, 0, 0), (0, 15, 0, 2), (0, 21, 0, 1), (0, 25, 0, 3), (0, 28, 0, 4), (0, 31, 0, 5), (1, 11, 1, 0), (1, 17, 1, 1), (1, 21, 1, 3), (1, 24, 1, 4), (1, 27, 1, 5), (1, 30, 1, 6), (1, 33, 1, 2), (1, 40, 1, 7), (1, 44, 7, 9), (1, 49, 1, 8), (1, 53, 1, 9), (1, 90, 1, 10), (1, 94, 1, 11), (1, 98, 1, 12), (1, 101, 1, 13), (1, 104, 1, 14), (1, 107, 1, 15), (1, 110, 1, 16), (1, 113, 1, 17), (1, 116, 7, 2), (1, 119, 7, 0), (1, 137, 3, 7), (1, 140, 3, 8), (1, 143, 3, 9)]
def qfl_1 : List (Nat × Nat × Nat × Nat) := [(1, 151, 3, 0), (1, 155, 5, 0), (1, 174, 7, 11), (1, 193, 3, 5), (1, 196, 7, 3), (1, 199, 3, 4), (1, 202, 7, 4), (1, 217, 7, 5), (1, 224, 3, 10), (1, 235, 3, 1), (1, 241, 7, 10), (2, 9, 2, 0), (2, 15, 2, 1), (2, 19, 2, 2), (2, 28, 5, 1), (2, 33, 5, 0), (3, 12, 3, 0), (3, 18, 3, 1), (3, 22, 3, 2), (3, 25, 3, 3), (3, 31, 3, 4), (3, 35, 3, 5), (3, 38, 3, 6), (3, 41, 3, 7), (3, 44, 3, 8), (3, 47, 3, 9), (3, 50, 3, 10), (3, 57, 0, 0), (3, 64, 0, 1), (4, 9, 4, 0)]
def qfl_2 : List (Nat × Nat × Nat × Nat) := [(4, 21, 4, 1), (4, 25, 4, 2), (4, 28, 4, 3), (4, 40, 7, 0), (4, 46, 7, 1), (4, 52, 7, 2), (4, 58, 7, 3), (4, 64, 7, 4), (4, 67, 7, 5), (4, 70, 7, 6), (4, 76, 7, 7), (4, 79, 7, 8), (4, 82, 7, 9), (4, 85, 7, 10), (4, 88, 7, 11), (5, 9, 5, 0), (5, 27, 5, 1), (6, 9, 6, 0), (6, 15, 6, 1), (6, 19, 6, 2), (6, 22, 1, 1), (7, 9, 7, 0), (7, 15, 7, 1), (7, 18, 7, 2), (7, 21, 7, 3), (7, 25, 7, 4), (7, 28, 7, 5), (7, 31, 7, 6), (7, 34, 7, 7), (7, 37, 7, 8)]
def qfl_3 : List (Nat × Nat × Nat × Nat) := [(7, 40, 7, 9), (7, 43, 7, 10), (7, 46, 7, 11), (8, 9, 8, 0), (8, 13, 8, 1), (8, 22, 8, 2), (8, 29, 8, 3), (8, 33, 8, 4), (8, 39, 8, 5), (8, 43, 8, 6), (8, 49, 8, 7), (8, 56, 8, 8), (8, 60, 8, 9), (8, 64, 8, 10), (8, 73, 8, 11), (8, 77, 8, 12), (8, 80, 8, 13), (8, 91, 2, 0), (8, 94, 7, 2), (8, 97, 7, 0), (8, 100, 7, 1), (8, 103, 5, 0), (8, 106, 5, 1), (8, 109, 6, 0), (8, 133, 7, 9), (8, 144, 1, 0), (8, 224, 1, 1), (9, 7, 9, 0), (9, 13, 9, 5), (9, 16, 9, 6)]
def qfl_4 : List (Nat × Nat × Nat × Nat) := [(9, 19, 9, 7), (9, 22, 9, 8), (9, 25, 9, 9), (9, 28, 9, 10), (9, 31, 9, 11), (9, 34, 9, 12), (9, 37, 9, 13), (9, 40, 9, 17), (9, 43, 9, 18), (9, 46, 9, 19), (9, 49, 9, 20), (9, 52, 9, 21), (9, 55, 9, 22), (9, 58, 9, 23), (9, 61, 9, 24), (9, 64, 9, 25), (9, 67, 9, 28), (9, 70, 9, 29), (9, 73, 9, 30), (9, 76, 9, 33), (9, 79, 9, 34), (9, 83, 9, 35), (9, 86, 9, 36), (9, 89, 9, 39), (9, 92, 9, 40), (9, 95, 9, 42), (9, 98, 9, 43), (9, 101, 9, 44), (9, 104, 9, 45), (9, 107, 9, 46)]
def qfl_5 : List (Nat × Nat × Nat × Nat) := [(9, 110, 9, 47), (9, 113, 9, 48), (9, 116, 9, 49), (9, 119, 9, 50), (9, 122, 9, 51), (9, 125, 9, 52), (9, 128, 9, 53), (9, 131, 9, 54), (9, 134, 9, 55), (9, 137, 9, 56), (9, 140, 9, 57), (9, 143, 9, 58), (9, 146, 9, 59), (9, 149, 9, 60), (9, 152, 9, 61), (9, 155, 9, 68), (9, 197, 9, 1), (9, 201, 9, 14), (9, 204, 9, 16), (9, 207, 9, 15), (9, 210, 9, 26), (9, 213, 9, 27), (9, 249, 9, 2), (9, 252, 9, 3), (9, 255, 9, 4), (9, 258, 9, 31), (9, 284, 9, 64), (9, 291, 9, 67), (9, 298, 9, 41), (9, 320, 9, 63)]
def qfl_6 : List (Nat × Nat × Nat × Nat) := [(9, 331, 9, 62), (9, 340, 9, 65), (9, 346, 9, 66), (9, 374, 9, 37), (9, 379, 9, 32), (9, 429, 9, 38)]
def qfl : List (Nat × Nat × Nat × Nat) := qfl_0 ++ (qfl_1 ++ (qfl_2 ++ (qfl_3 ++ (qfl_4 ++ (qfl_5 ++ (qfl_6))))))
def qfl_w (r : Nat × Nat × Nat × Nat) : List Cond := [.fieldLink (qos r.1) r.2.1 (qFT r.2.2.1 r.2.2.2).1 (qFT r.2.2.1 r.2.2.2).2.1 (qFT r.2.2.1 r.2.2.2).2.2.1]
theorem kw0 : Cond.fieldLink RX0 9 "SoftAsks$Breaker" "openings" "I" ∈ lw_tbl := kin1 _ (List.mem_of_getElem? (i := 193) (by decide +kernel))
theorem qfl_r0 : ∀ w ∈ qfl_w (0, 9, 0, 0), w ∈ lw_tbl := List.forall_mem_cons.mpr ⟨kw0, fun _ h => absurd h List.not_mem_nil⟩
theorem kw1 : Cond.fieldLink RX0 15 "SoftAsks$Breaker" "openedAt" "I" ∈ lw_tbl := kin1 _ (List.mem_of_getElem? (i := 197) (by decide +kernel))
theorem qfl_r1 : ∀ w ∈ qfl_w (0, 15, 0, 2), w ∈ lw_tbl := List.forall_mem_cons.mpr ⟨kw1, fun _ h => absurd h List.not_mem_nil⟩
theorem kw2 : Cond.fieldLink RX0 21 "SoftAsks$Breaker" "rate" "F" ∈ lw_tbl := kin1 _ (List.mem_of_getElem? (i := 195) (by decide +kernel))
theorem qfl_r2 : ∀ w ∈ qfl_w (0, 21, 0, 1), w ∈ lw_tbl := List.forall_mem_cons.mpr ⟨kw2, fun _ h => absurd h List.not_mem_nil⟩
theorem kw3 : Cond.fieldLink RX0 25 "SoftAsks$Breaker" "badInRow" "I" ∈ lw_tbl := kin1 _ (List.mem_of_getElem? (i := 198) (by decide +kernel))
theorem qfl_r3 : ∀ w ∈ qfl_w (0, 25, 0, 3), w ∈ lw_tbl := List.forall_mem_cons.mpr ⟨kw3, fun _ h => absurd h List.not_mem_nil⟩
theorem kw4 : Cond.fieldLink RX0 28 "SoftAsks$Breaker" "lastEight" "I" ∈ lw_tbl := kin1 _ (List.mem_of_getElem? (i := 199) (by decide +kernel))
theorem qfl_r4 : ∀ w ∈ qfl_w (0, 28, 0, 4), w ∈ lw_tbl := List.forall_mem_cons.mpr ⟨kw4, fun _ h => absurd h List.not_mem_nil⟩
theorem kw5 : Cond.fieldLink RX0 31 "SoftAsks$Breaker" "noted" "I" ∈ lw_tbl := kin1 _ (List.mem_of_getElem? (i := 200) (by decide +kernel))
theorem qfl_r5 : ∀ w ∈ qfl_w (0, 31, 0, 5), w ∈ lw_tbl := List.forall_mem_cons.mpr ⟨kw5, fun _ h => absurd h List.not_mem_nil⟩
theorem kw6 : Cond.fieldLink RX1 11 "SoftAsks$DayRun" "hosts" "[LSoftAsks$HostRun;" ∈ lw_tbl := kin2 _ (List.mem_of_getElem? (i := 17) (by decide +kernel))
theorem qfl_r6 : ∀ w ∈ qfl_w (1, 11, 1, 0), w ∈ lw_tbl := List.forall_mem_cons.mpr ⟨kw6, fun _ h => absurd h List.not_mem_nil⟩
theorem kw7 : Cond.fieldLink RX1 17 "SoftAsks$DayRun" "state" "[I" ∈ lw_tbl := kin2 _ (List.mem_of_getElem? (i := 19) (by decide +kernel))
theorem qfl_r7 : ∀ w ∈ qfl_w (1, 17, 1, 1), w ∈ lw_tbl := List.forall_mem_cons.mpr ⟨kw7, fun _ h => absurd h List.not_mem_nil⟩
theorem kw8 : Cond.fieldLink RX1 21 "SoftAsks$DayRun" "endTick" "[I" ∈ lw_tbl := kin2 _ (List.mem_of_getElem? (i := 23) (by decide +kernel))
theorem qfl_r8 : ∀ w ∈ qfl_w (1, 21, 1, 3), w ∈ lw_tbl := List.forall_mem_cons.mpr ⟨kw8, fun _ h => absurd h List.not_mem_nil⟩
theorem kw9 : Cond.fieldLink RX1 24 "SoftAsks$DayRun" "endHost" "[I" ∈ lw_tbl := kin2 _ (List.mem_of_getElem? (i := 24) (by decide +kernel))
theorem qfl_r9 : ∀ w ∈ qfl_w (1, 24, 1, 4), w ∈ lw_tbl := List.forall_mem_cons.mpr ⟨kw9, fun _ h => absurd h List.not_mem_nil⟩
theorem kw10 : Cond.fieldLink RX1 27 "SoftAsks$DayRun" "tries" "[I" ∈ lw_tbl := kin2 _ (List.mem_of_getElem? (i := 25) (by decide +kernel))
theorem qfl_r10 : ∀ w ∈ qfl_w (1, 27, 1, 5), w ∈ lw_tbl := List.forall_mem_cons.mpr ⟨kw10, fun _ h => absurd h List.not_mem_nil⟩
theorem kw11 : Cond.fieldLink RX1 30 "SoftAsks$DayRun" "hedged" "[I" ∈ lw_tbl := kin2 _ (List.mem_of_getElem? (i := 26) (by decide +kernel))
theorem qfl_r11 : ∀ w ∈ qfl_w (1, 30, 1, 6), w ∈ lw_tbl := List.forall_mem_cons.mpr ⟨kw11, fun _ h => absurd h List.not_mem_nil⟩
theorem kw12 : Cond.fieldLink RX1 33 "SoftAsks$DayRun" "told" "LSoftAsks$Told;" ∈ lw_tbl := kin2 _ (List.mem_of_getElem? (i := 22) (by decide +kernel))
theorem qfl_r12 : ∀ w ∈ qfl_w (1, 33, 1, 2), w ∈ lw_tbl := List.forall_mem_cons.mpr ⟨kw12, fun _ h => absurd h List.not_mem_nil⟩
theorem kw13 : Cond.fieldLink RX1 40 "SoftAsks$DayRun" "policy" "LSoftAsks$Policy;" ∈ lw_tbl := kin2 _ (List.mem_of_getElem? (i := 27) (by decide +kernel))
theorem qfl_r13 : ∀ w ∈ qfl_w (1, 40, 1, 7), w ∈ lw_tbl := List.forall_mem_cons.mpr ⟨kw13, fun _ h => absurd h List.not_mem_nil⟩
theorem kw14 : Cond.fieldLink RX1 44 "SoftAsks$Told" "hour" "[I" ∈ lw_tbl := kin1 _ (List.mem_of_getElem? (i := 76) (by decide +kernel))
theorem qfl_r14 : ∀ w ∈ qfl_w (1, 44, 7, 9), w ∈ lw_tbl := List.forall_mem_cons.mpr ⟨kw14, fun _ h => absurd h List.not_mem_nil⟩
theorem kw15 : Cond.fieldLink RX1 49 "SoftAsks$DayRun" "hours" "[I" ∈ lw_tbl := kin2 _ (List.mem_of_getElem? (i := 28) (by decide +kernel))
theorem qfl_r15 : ∀ w ∈ qfl_w (1, 49, 1, 8), w ∈ lw_tbl := List.forall_mem_cons.mpr ⟨kw15, fun _ h => absurd h List.not_mem_nil⟩
theorem kw16 : Cond.fieldLink RX1 53 "SoftAsks$DayRun" "spoilt" "I" ∈ lw_tbl := kin2 _ (List.mem_of_getElem? (i := 29) (by decide +kernel))
theorem qfl_r16 : ∀ w ∈ qfl_w (1, 53, 1, 9), w ∈ lw_tbl := List.forall_mem_cons.mpr ⟨kw16, fun _ h => absurd h List.not_mem_nil⟩
theorem kw17 : Cond.fieldLink RX1 90 "SoftAsks$DayRun" "budget" "I" ∈ lw_tbl := kin2 _ (List.mem_of_getElem? (i := 30) (by decide +kernel))
theorem qfl_r17 : ∀ w ∈ qfl_w (1, 90, 1, 10), w ∈ lw_tbl := List.forall_mem_cons.mpr ⟨kw17, fun _ h => absurd h List.not_mem_nil⟩
theorem kw18 : Cond.fieldLink RX1 94 "SoftAsks$DayRun" "learnt" "F" ∈ lw_tbl := kin2 _ (List.mem_of_getElem? (i := 31) (by decide +kernel))
theorem qfl_r18 : ∀ w ∈ qfl_w (1, 94, 1, 11), w ∈ lw_tbl := List.forall_mem_cons.mpr ⟨kw18, fun _ h => absurd h List.not_mem_nil⟩
theorem kw19 : Cond.fieldLink RX1 98 "SoftAsks$DayRun" "sent" "I" ∈ lw_tbl := kin2 _ (List.mem_of_getElem? (i := 32) (by decide +kernel))
theorem qfl_r19 : ∀ w ∈ qfl_w (1, 98, 1, 12), w ∈ lw_tbl := List.forall_mem_cons.mpr ⟨kw19, fun _ h => absurd h List.not_mem_nil⟩
theorem kw20 : Cond.fieldLink RX1 101 "SoftAsks$DayRun" "sentAgain" "I" ∈ lw_tbl := kin2 _ (List.mem_of_getElem? (i := 33) (by decide +kernel))
theorem qfl_r20 : ∀ w ∈ qfl_w (1, 101, 1, 13), w ∈ lw_tbl := List.forall_mem_cons.mpr ⟨kw20, fun _ h => absurd h List.not_mem_nil⟩
theorem kw21 : Cond.fieldLink RX1 104 "SoftAsks$DayRun" "sentHedges" "I" ∈ lw_tbl := kin2 _ (List.mem_of_getElem? (i := 34) (by decide +kernel))
theorem qfl_r21 : ∀ w ∈ qfl_w (1, 104, 1, 14), w ∈ lw_tbl := List.forall_mem_cons.mpr ⟨kw21, fun _ h => absurd h List.not_mem_nil⟩
theorem kw22 : Cond.fieldLink RX1 107 "SoftAsks$DayRun" "lost" "I" ∈ lw_tbl := kin2 _ (List.mem_of_getElem? (i := 35) (by decide +kernel))
theorem qfl_r22 : ∀ w ∈ qfl_w (1, 107, 1, 15), w ∈ lw_tbl := List.forall_mem_cons.mpr ⟨kw22, fun _ h => absurd h List.not_mem_nil⟩
theorem kw23 : Cond.fieldLink RX1 110 "SoftAsks$DayRun" "askEnds" "I" ∈ lw_tbl := kin2 _ (List.mem_of_getElem? (i := 36) (by decide +kernel))
theorem qfl_r23 : ∀ w ∈ qfl_w (1, 110, 1, 16), w ∈ lw_tbl := List.forall_mem_cons.mpr ⟨kw23, fun _ h => absurd h List.not_mem_nil⟩
theorem kw24 : Cond.fieldLink RX1 113 "SoftAsks$DayRun" "busy" "I" ∈ lw_tbl := kin2 _ (List.mem_of_getElem? (i := 37) (by decide +kernel))
theorem qfl_r24 : ∀ w ∈ qfl_w (1, 113, 1, 17), w ∈ lw_tbl := List.forall_mem_cons.mpr ⟨kw24, fun _ h => absurd h List.not_mem_nil⟩
theorem kw25 : Cond.fieldLink RX1 116 "SoftAsks$Told" "asks" "I" ∈ lw_tbl := kin1 _ (List.mem_of_getElem? (i := 58) (by decide +kernel))
theorem qfl_r25 : ∀ w ∈ qfl_w (1, 116, 7, 2), w ∈ lw_tbl := List.forall_mem_cons.mpr ⟨kw25, fun _ h => absurd h List.not_mem_nil⟩
theorem kw26 : Cond.fieldLink RX1 119 "SoftAsks$Told" "hosts" "I" ∈ lw_tbl := kin1 _ (List.mem_of_getElem? (i := 51) (by decide +kernel))
theorem qfl_r26 : ∀ w ∈ qfl_w (1, 119, 7, 0), w ∈ lw_tbl := List.forall_mem_cons.mpr ⟨kw26, fun _ h => absurd h List.not_mem_nil⟩
theorem kw27 : Cond.fieldLink RX1 137 "SoftAsks$HostRun" "ended" "I" ∈ lw_tbl := kin1 _ (List.mem_of_getElem? (i := 227) (by decide +kernel))
theorem qfl_r27 : ∀ w ∈ qfl_w (1, 137, 3, 7), w ∈ lw_tbl := List.forall_mem_cons.mpr ⟨kw27, fun _ h => absurd h List.not_mem_nil⟩
theorem kw28 : Cond.fieldLink RX1 140 "SoftAsks$HostRun" "bad" "I" ∈ lw_tbl := kin1 _ (List.mem_of_getElem? (i := 229) (by decide +kernel))
theorem qfl_r28 : ∀ w ∈ qfl_w (1, 140, 3, 8), w ∈ lw_tbl := List.forall_mem_cons.mpr ⟨kw28, fun _ h => absurd h List.not_mem_nil⟩
theorem kw29 : Cond.fieldLink RX1 143 "SoftAsks$HostRun" "wasted" "I" ∈ lw_tbl := kin1 _ (List.mem_of_getElem? (i := 231) (by decide +kernel))
theorem qfl_r29 : ∀ w ∈ qfl_w (1, 143, 3, 9), w ∈ lw_tbl := List.forall_mem_cons.mpr ⟨kw29, fun _ h => absurd h List.not_mem_nil⟩
theorem qfl_ok0 : ∀ r ∈ qfl_0, ∀ w ∈ qfl_w r, w ∈ lw_tbl := List.forall_mem_cons.mpr ⟨qfl_r0, List.forall_mem_cons.mpr ⟨qfl_r1, List.forall_mem_cons.mpr ⟨qfl_r2, List.forall_mem_cons.mpr ⟨qfl_r3, List.forall_mem_cons.mpr ⟨qfl_r4, List.forall_mem_cons.mpr ⟨qfl_r5, List.forall_mem_cons.mpr ⟨qfl_r6, List.forall_mem_cons.mpr ⟨qfl_r7, List.forall_mem_cons.mpr ⟨qfl_r8, List.forall_mem_cons.mpr ⟨qfl_r9, List.forall_mem_cons.mpr ⟨qfl_r10, List.forall_mem_cons.mpr ⟨qfl_r11, List.forall_mem_cons.mpr ⟨qfl_r12, List.forall_mem_cons.mpr ⟨qfl_r13, List.forall_mem_cons.mpr ⟨qfl_r14, List.forall_mem_cons.mpr ⟨qfl_r15, List.forall_mem_cons.mpr ⟨qfl_r16, List.forall_mem_cons.mpr ⟨qfl_r17, List.forall_mem_cons.mpr ⟨qfl_r18, List.forall_mem_cons.mpr ⟨qfl_r19, List.forall_mem_cons.mpr ⟨qfl_r20, List.forall_mem_cons.mpr ⟨qfl_r21, List.forall_mem_cons.mpr ⟨qfl_r22, List.forall_mem_cons.mpr ⟨qfl_r23, List.forall_mem_cons.mpr ⟨qfl_r24, List.forall_mem_cons.mpr ⟨qfl_r25, List.forall_mem_cons.mpr ⟨qfl_r26, List.forall_mem_cons.mpr ⟨qfl_r27, List.forall_mem_cons.mpr ⟨qfl_r28, List.forall_mem_cons.mpr ⟨qfl_r29, fun _ h => absurd h List.not_mem_nil⟩⟩⟩⟩⟩⟩⟩⟩⟩⟩⟩⟩⟩⟩⟩⟩⟩⟩⟩⟩⟩⟩⟩⟩⟩⟩⟩⟩⟩⟩
theorem kw30 : Cond.fieldLink RX1 151 "SoftAsks$HostRun" "breaker" "LSoftAsks$Breaker;" ∈ lw_tbl := kin1 _ (List.mem_of_getElem? (i := 216) (by decide +kernel))
theorem qfl_r30 : ∀ w ∈ qfl_w (1, 151, 3, 0), w ∈ lw_tbl := List.forall_mem_cons.mpr ⟨kw30, fun _ h => absurd h List.not_mem_nil⟩
theorem kw31 : Cond.fieldLink RX1 155 "SoftAsks$Policy" "settings" "[I" ∈ lw_tbl := kin1 _ (List.mem_of_getElem? (i := 128) (by decide +kernel))
theorem qfl_r31 : ∀ w ∈ qfl_w (1, 155, 5, 0), w ∈ lw_tbl := List.forall_mem_cons.mpr ⟨kw31, fun _ h => absurd h List.not_mem_nil⟩
theorem kw32 : Cond.fieldLink RX1 174 "SoftAsks$Told" "limit" "[I" ∈ lw_tbl := kin1 _ (List.mem_of_getElem? (i := 84) (by decide +kernel))
theorem qfl_r32 : ∀ w ∈ qfl_w (1, 174, 7, 11), w ∈ lw_tbl := List.forall_mem_cons.mpr ⟨kw32, fun _ h => absurd h List.not_mem_nil⟩
theorem kw33 : Cond.fieldLink RX1 193 "SoftAsks$HostRun" "works" "I" ∈ lw_tbl := kin1 _ (List.mem_of_getElem? (i := 224) (by decide +kernel))
theorem qfl_r33 : ∀ w ∈ qfl_w (1, 193, 3, 5), w ∈ lw_tbl := List.forall_mem_cons.mpr ⟨kw33, fun _ h => absurd h List.not_mem_nil⟩
theorem kw34 : Cond.fieldLink RX1 196 "SoftAsks$Told" "workers" "[I" ∈ lw_tbl := kin1 _ (List.mem_of_getElem? (i := 62) (by decide +kernel))
theorem qfl_r34 : ∀ w ∈ qfl_w (1, 196, 7, 3), w ∈ lw_tbl := List.forall_mem_cons.mpr ⟨kw34, fun _ h => absurd h List.not_mem_nil⟩
theorem kw35 : Cond.fieldLink RX1 199 "SoftAsks$HostRun" "waiting" "I" ∈ lw_tbl := kin1 _ (List.mem_of_getElem? (i := 222) (by decide +kernel))
theorem qfl_r35 : ∀ w ∈ qfl_w (1, 199, 3, 4), w ∈ lw_tbl := List.forall_mem_cons.mpr ⟨kw35, fun _ h => absurd h List.not_mem_nil⟩
theorem kw36 : Cond.fieldLink RX1 202 "SoftAsks$Told" "ticks" "[I" ∈ lw_tbl := kin1 _ (List.mem_of_getElem? (i := 65) (by decide +kernel))
theorem qfl_r36 : ∀ w ∈ qfl_w (1, 202, 7, 4), w ∈ lw_tbl := List.forall_mem_cons.mpr ⟨kw36, fun _ h => absurd h List.not_mem_nil⟩
theorem kw37 : Cond.fieldLink RX1 217 "SoftAsks$Told" "room" "[I" ∈ lw_tbl := kin1 _ (List.mem_of_getElem? (i := 68) (by decide +kernel))
theorem qfl_r37 : ∀ w ∈ qfl_w (1, 217, 7, 5), w ∈ lw_tbl := List.forall_mem_cons.mpr ⟨kw37, fun _ h => absurd h List.not_mem_nil⟩
theorem kw38 : Cond.fieldLink RX1 224 "SoftAsks$HostRun" "shed" "I" ∈ lw_tbl := kin1 _ (List.mem_of_getElem? (i := 233) (by decide +kernel))
theorem qfl_r38 : ∀ w ∈ qfl_w (1, 224, 3, 10), w ∈ lw_tbl := List.forall_mem_cons.mpr ⟨kw38, fun _ h => absurd h List.not_mem_nil⟩
theorem kw39 : Cond.fieldLink RX1 235 "SoftAsks$HostRun" "row" "[I" ∈ lw_tbl := kin1 _ (List.mem_of_getElem? (i := 218) (by decide +kernel))
theorem qfl_r39 : ∀ w ∈ qfl_w (1, 235, 3, 1), w ∈ lw_tbl := List.forall_mem_cons.mpr ⟨kw39, fun _ h => absurd h List.not_mem_nil⟩
theorem kw40 : Cond.fieldLink RX1 241 "SoftAsks$Told" "rank" "[I" ∈ lw_tbl := kin1 _ (List.mem_of_getElem? (i := 81) (by decide +kernel))
theorem qfl_r40 : ∀ w ∈ qfl_w (1, 241, 7, 10), w ∈ lw_tbl := List.forall_mem_cons.mpr ⟨kw40, fun _ h => absurd h List.not_mem_nil⟩
theorem kw41 : Cond.fieldLink RX2 9 "SoftAsks$Doings" "count" "I" ∈ lw_tbl := kin1 _ (List.mem_of_getElem? (i := 143) (by decide +kernel))
theorem qfl_r41 : ∀ w ∈ qfl_w (2, 9, 2, 0), w ∈ lw_tbl := List.forall_mem_cons.mpr ⟨kw41, fun _ h => absurd h List.not_mem_nil⟩
theorem kw42 : Cond.fieldLink RX2 15 "SoftAsks$Doings" "what" "[I" ∈ lw_tbl := kin1 _ (List.mem_of_getElem? (i := 145) (by decide +kernel))
theorem qfl_r42 : ∀ w ∈ qfl_w (2, 15, 2, 1), w ∈ lw_tbl := List.forall_mem_cons.mpr ⟨kw42, fun _ h => absurd h List.not_mem_nil⟩
theorem kw43 : Cond.fieldLink RX2 19 "SoftAsks$Doings" "was" "[I" ∈ lw_tbl := kin1 _ (List.mem_of_getElem? (i := 146) (by decide +kernel))
theorem qfl_r43 : ∀ w ∈ qfl_w (2, 19, 2, 2), w ∈ lw_tbl := List.forall_mem_cons.mpr ⟨kw43, fun _ h => absurd h List.not_mem_nil⟩
theorem kw44 : Cond.fieldLink RX2 28 "SoftAsks$Policy" "out" "I" ∈ lw_tbl := kin1 _ (List.mem_of_getElem? (i := 130) (by decide +kernel))
theorem qfl_r44 : ∀ w ∈ qfl_w (2, 28, 5, 1), w ∈ lw_tbl := List.forall_mem_cons.mpr ⟨kw44, fun _ h => absurd h List.not_mem_nil⟩
theorem kw45 : Cond.fieldLink RX2 33 "SoftAsks$Policy" "settings" "[I" ∈ lw_tbl := kin1 _ (List.mem_of_getElem? (i := 126) (by decide +kernel))
theorem qfl_r45 : ∀ w ∈ qfl_w (2, 33, 5, 0), w ∈ lw_tbl := List.forall_mem_cons.mpr ⟨kw45, fun _ h => absurd h List.not_mem_nil⟩
theorem kw46 : Cond.fieldLink RX3 12 "SoftAsks$HostRun" "breaker" "LSoftAsks$Breaker;" ∈ lw_tbl := kin1 _ (List.mem_of_getElem? (i := 215) (by decide +kernel))
theorem qfl_r46 : ∀ w ∈ qfl_w (3, 12, 3, 0), w ∈ lw_tbl := List.forall_mem_cons.mpr ⟨kw46, fun _ h => absurd h List.not_mem_nil⟩
theorem kw47 : Cond.fieldLink RX3 18 "SoftAsks$HostRun" "row" "[I" ∈ lw_tbl := kin1 _ (List.mem_of_getElem? (i := 217) (by decide +kernel))
theorem qfl_r47 : ∀ w ∈ qfl_w (3, 18, 3, 1), w ∈ lw_tbl := List.forall_mem_cons.mpr ⟨kw47, fun _ h => absurd h List.not_mem_nil⟩
theorem kw48 : Cond.fieldLink RX3 22 "SoftAsks$HostRun" "workAsk" "[I" ∈ lw_tbl := kin1 _ (List.mem_of_getElem? (i := 219) (by decide +kernel))
theorem qfl_r48 : ∀ w ∈ qfl_w (3, 22, 3, 2), w ∈ lw_tbl := List.forall_mem_cons.mpr ⟨kw48, fun _ h => absurd h List.not_mem_nil⟩
theorem kw49 : Cond.fieldLink RX3 25 "SoftAsks$HostRun" "workEnd" "[I" ∈ lw_tbl := kin1 _ (List.mem_of_getElem? (i := 220) (by decide +kernel))
theorem qfl_r49 : ∀ w ∈ qfl_w (3, 25, 3, 3), w ∈ lw_tbl := List.forall_mem_cons.mpr ⟨kw49, fun _ h => absurd h List.not_mem_nil⟩
theorem kw50 : Cond.fieldLink RX3 31 "SoftAsks$HostRun" "waiting" "I" ∈ lw_tbl := kin1 _ (List.mem_of_getElem? (i := 221) (by decide +kernel))
theorem qfl_r50 : ∀ w ∈ qfl_w (3, 31, 3, 4), w ∈ lw_tbl := List.forall_mem_cons.mpr ⟨kw50, fun _ h => absurd h List.not_mem_nil⟩
theorem kw51 : Cond.fieldLink RX3 35 "SoftAsks$HostRun" "works" "I" ∈ lw_tbl := kin1 _ (List.mem_of_getElem? (i := 223) (by decide +kernel))
theorem qfl_r51 : ∀ w ∈ qfl_w (3, 35, 3, 5), w ∈ lw_tbl := List.forall_mem_cons.mpr ⟨kw51, fun _ h => absurd h List.not_mem_nil⟩
theorem kw52 : Cond.fieldLink RX3 38 "SoftAsks$HostRun" "held" "I" ∈ lw_tbl := kin1 _ (List.mem_of_getElem? (i := 225) (by decide +kernel))
theorem qfl_r52 : ∀ w ∈ qfl_w (3, 38, 3, 6), w ∈ lw_tbl := List.forall_mem_cons.mpr ⟨kw52, fun _ h => absurd h List.not_mem_nil⟩
theorem kw53 : Cond.fieldLink RX3 41 "SoftAsks$HostRun" "ended" "I" ∈ lw_tbl := kin1 _ (List.mem_of_getElem? (i := 226) (by decide +kernel))
theorem qfl_r53 : ∀ w ∈ qfl_w (3, 41, 3, 7), w ∈ lw_tbl := List.forall_mem_cons.mpr ⟨kw53, fun _ h => absurd h List.not_mem_nil⟩
theorem kw54 : Cond.fieldLink RX3 44 "SoftAsks$HostRun" "bad" "I" ∈ lw_tbl := kin1 _ (List.mem_of_getElem? (i := 228) (by decide +kernel))
theorem qfl_r54 : ∀ w ∈ qfl_w (3, 44, 3, 8), w ∈ lw_tbl := List.forall_mem_cons.mpr ⟨kw54, fun _ h => absurd h List.not_mem_nil⟩
theorem kw55 : Cond.fieldLink RX3 47 "SoftAsks$HostRun" "wasted" "I" ∈ lw_tbl := kin1 _ (List.mem_of_getElem? (i := 230) (by decide +kernel))
theorem qfl_r55 : ∀ w ∈ qfl_w (3, 47, 3, 9), w ∈ lw_tbl := List.forall_mem_cons.mpr ⟨kw55, fun _ h => absurd h List.not_mem_nil⟩
theorem kw56 : Cond.fieldLink RX3 50 "SoftAsks$HostRun" "shed" "I" ∈ lw_tbl := kin1 _ (List.mem_of_getElem? (i := 232) (by decide +kernel))
theorem qfl_r56 : ∀ w ∈ qfl_w (3, 50, 3, 10), w ∈ lw_tbl := List.forall_mem_cons.mpr ⟨kw56, fun _ h => absurd h List.not_mem_nil⟩
theorem kw57 : Cond.fieldLink RX3 57 "SoftAsks$Breaker" "openings" "I" ∈ lw_tbl := kin1 _ (List.mem_of_getElem? (i := 194) (by decide +kernel))
theorem qfl_r57 : ∀ w ∈ qfl_w (3, 57, 0, 0), w ∈ lw_tbl := List.forall_mem_cons.mpr ⟨kw57, fun _ h => absurd h List.not_mem_nil⟩
theorem kw58 : Cond.fieldLink RX3 64 "SoftAsks$Breaker" "rate" "F" ∈ lw_tbl := kin1 _ (List.mem_of_getElem? (i := 196) (by decide +kernel))
theorem qfl_r58 : ∀ w ∈ qfl_w (3, 64, 0, 1), w ∈ lw_tbl := List.forall_mem_cons.mpr ⟨kw58, fun _ h => absurd h List.not_mem_nil⟩
theorem kw59 : Cond.fieldLink RX4 9 "SoftAsks$Parser" "letters" "[I" ∈ lw_tbl := kin1 _ (List.mem_of_getElem? (i := 29) (by decide +kernel))
theorem qfl_r59 : ∀ w ∈ qfl_w (4, 9, 4, 0), w ∈ lw_tbl := List.forall_mem_cons.mpr ⟨kw59, fun _ h => absurd h List.not_mem_nil⟩
theorem qfl_ok1 : ∀ r ∈ qfl_1, ∀ w ∈ qfl_w r, w ∈ lw_tbl := List.forall_mem_cons.mpr ⟨qfl_r30, List.forall_mem_cons.mpr ⟨qfl_r31, List.forall_mem_cons.mpr ⟨qfl_r32, List.forall_mem_cons.mpr ⟨qfl_r33, List.forall_mem_cons.mpr ⟨qfl_r34, List.forall_mem_cons.mpr ⟨qfl_r35, List.forall_mem_cons.mpr ⟨qfl_r36, List.forall_mem_cons.mpr ⟨qfl_r37, List.forall_mem_cons.mpr ⟨qfl_r38, List.forall_mem_cons.mpr ⟨qfl_r39, List.forall_mem_cons.mpr ⟨qfl_r40, List.forall_mem_cons.mpr ⟨qfl_r41, List.forall_mem_cons.mpr ⟨qfl_r42, List.forall_mem_cons.mpr ⟨qfl_r43, List.forall_mem_cons.mpr ⟨qfl_r44, List.forall_mem_cons.mpr ⟨qfl_r45, List.forall_mem_cons.mpr ⟨qfl_r46, List.forall_mem_cons.mpr ⟨qfl_r47, List.forall_mem_cons.mpr ⟨qfl_r48, List.forall_mem_cons.mpr ⟨qfl_r49, List.forall_mem_cons.mpr ⟨qfl_r50, List.forall_mem_cons.mpr ⟨qfl_r51, List.forall_mem_cons.mpr ⟨qfl_r52, List.forall_mem_cons.mpr ⟨qfl_r53, List.forall_mem_cons.mpr ⟨qfl_r54, List.forall_mem_cons.mpr ⟨qfl_r55, List.forall_mem_cons.mpr ⟨qfl_r56, List.forall_mem_cons.mpr ⟨qfl_r57, List.forall_mem_cons.mpr ⟨qfl_r58, List.forall_mem_cons.mpr ⟨qfl_r59, fun _ h => absurd h List.not_mem_nil⟩⟩⟩⟩⟩⟩⟩⟩⟩⟩⟩⟩⟩⟩⟩⟩⟩⟩⟩⟩⟩⟩⟩⟩⟩⟩⟩⟩⟩⟩
theorem kw60 : Cond.fieldLink RX4 21 "SoftAsks$Parser" "length" "I" ∈ lw_tbl := kin1 _ (List.mem_of_getElem? (i := 30) (by decide +kernel))
theorem qfl_r60 : ∀ w ∈ qfl_w (4, 21, 4, 1), w ∈ lw_tbl := List.forall_mem_cons.mpr ⟨kw60, fun _ h => absurd h List.not_mem_nil⟩
theorem kw61 : Cond.fieldLink RX4 25 "SoftAsks$Parser" "place" "I" ∈ lw_tbl := kin1 _ (List.mem_of_getElem? (i := 31) (by decide +kernel))
theorem qfl_r61 : ∀ w ∈ qfl_w (4, 25, 4, 2), w ∈ lw_tbl := List.forall_mem_cons.mpr ⟨kw61, fun _ h => absurd h List.not_mem_nil⟩
theorem kw62 : Cond.fieldLink RX4 28 "SoftAsks$Parser" "fault" "I" ∈ lw_tbl := kin1 _ (List.mem_of_getElem? (i := 32) (by decide +kernel))
theorem qfl_r62 : ∀ w ∈ qfl_w (4, 28, 4, 3), w ∈ lw_tbl := List.forall_mem_cons.mpr ⟨kw62, fun _ h => absurd h List.not_mem_nil⟩
theorem kw63 : Cond.fieldLink RX4 40 "SoftAsks$Told" "hosts" "I" ∈ lw_tbl := kin1 _ (List.mem_of_getElem? (i := 50) (by decide +kernel))
theorem qfl_r63 : ∀ w ∈ qfl_w (4, 40, 7, 0), w ∈ lw_tbl := List.forall_mem_cons.mpr ⟨kw63, fun _ h => absurd h List.not_mem_nil⟩
theorem kw64 : Cond.fieldLink RX4 46 "SoftAsks$Told" "spans" "I" ∈ lw_tbl := kin1 _ (List.mem_of_getElem? (i := 54) (by decide +kernel))
theorem qfl_r64 : ∀ w ∈ qfl_w (4, 46, 7, 1), w ∈ lw_tbl := List.forall_mem_cons.mpr ⟨kw64, fun _ h => absurd h List.not_mem_nil⟩
theorem kw65 : Cond.fieldLink RX4 52 "SoftAsks$Told" "asks" "I" ∈ lw_tbl := kin1 _ (List.mem_of_getElem? (i := 57) (by decide +kernel))
theorem qfl_r65 : ∀ w ∈ qfl_w (4, 52, 7, 2), w ∈ lw_tbl := List.forall_mem_cons.mpr ⟨kw65, fun _ h => absurd h List.not_mem_nil⟩
theorem kw66 : Cond.fieldLink RX4 58 "SoftAsks$Told" "workers" "[I" ∈ lw_tbl := kin1 _ (List.mem_of_getElem? (i := 61) (by decide +kernel))
theorem qfl_r66 : ∀ w ∈ qfl_w (4, 58, 7, 3), w ∈ lw_tbl := List.forall_mem_cons.mpr ⟨kw66, fun _ h => absurd h List.not_mem_nil⟩
theorem kw67 : Cond.fieldLink RX4 64 "SoftAsks$Told" "ticks" "[I" ∈ lw_tbl := kin1 _ (List.mem_of_getElem? (i := 64) (by decide +kernel))
theorem qfl_r67 : ∀ w ∈ qfl_w (4, 64, 7, 4), w ∈ lw_tbl := List.forall_mem_cons.mpr ⟨kw67, fun _ h => absurd h List.not_mem_nil⟩
theorem kw68 : Cond.fieldLink RX4 67 "SoftAsks$Told" "room" "[I" ∈ lw_tbl := kin1 _ (List.mem_of_getElem? (i := 67) (by decide +kernel))
theorem qfl_r68 : ∀ w ∈ qfl_w (4, 67, 7, 5), w ∈ lw_tbl := List.forall_mem_cons.mpr ⟨kw68, fun _ h => absurd h List.not_mem_nil⟩
theorem kw69 : Cond.fieldLink RX4 70 "SoftAsks$Told" "spanHost" "[I" ∈ lw_tbl := kin1 _ (List.mem_of_getElem? (i := 70) (by decide +kernel))
theorem qfl_r69 : ∀ w ∈ qfl_w (4, 70, 7, 6), w ∈ lw_tbl := List.forall_mem_cons.mpr ⟨kw69, fun _ h => absurd h List.not_mem_nil⟩
theorem kw70 : Cond.fieldLink RX4 76 "SoftAsks$Told" "spanFrom" "[I" ∈ lw_tbl := kin1 _ (List.mem_of_getElem? (i := 72) (by decide +kernel))
theorem qfl_r70 : ∀ w ∈ qfl_w (4, 76, 7, 7), w ∈ lw_tbl := List.forall_mem_cons.mpr ⟨kw70, fun _ h => absurd h List.not_mem_nil⟩
theorem kw71 : Cond.fieldLink RX4 79 "SoftAsks$Told" "spanTo" "[I" ∈ lw_tbl := kin1 _ (List.mem_of_getElem? (i := 74) (by decide +kernel))
theorem qfl_r71 : ∀ w ∈ qfl_w (4, 79, 7, 8), w ∈ lw_tbl := List.forall_mem_cons.mpr ⟨kw71, fun _ h => absurd h List.not_mem_nil⟩
theorem kw72 : Cond.fieldLink RX4 82 "SoftAsks$Told" "hour" "[I" ∈ lw_tbl := kin1 _ (List.mem_of_getElem? (i := 77) (by decide +kernel))
theorem qfl_r72 : ∀ w ∈ qfl_w (4, 82, 7, 9), w ∈ lw_tbl := List.forall_mem_cons.mpr ⟨kw72, fun _ h => absurd h List.not_mem_nil⟩
theorem kw73 : Cond.fieldLink RX4 85 "SoftAsks$Told" "rank" "[I" ∈ lw_tbl := kin1 _ (List.mem_of_getElem? (i := 80) (by decide +kernel))
theorem qfl_r73 : ∀ w ∈ qfl_w (4, 85, 7, 10), w ∈ lw_tbl := List.forall_mem_cons.mpr ⟨kw73, fun _ h => absurd h List.not_mem_nil⟩
theorem kw74 : Cond.fieldLink RX4 88 "SoftAsks$Told" "limit" "[I" ∈ lw_tbl := kin1 _ (List.mem_of_getElem? (i := 83) (by decide +kernel))
theorem qfl_r74 : ∀ w ∈ qfl_w (4, 88, 7, 11), w ∈ lw_tbl := List.forall_mem_cons.mpr ⟨kw74, fun _ h => absurd h List.not_mem_nil⟩
theorem kw75 : Cond.fieldLink RX5 9 "SoftAsks$Policy" "settings" "[I" ∈ lw_tbl := kin1 _ (List.mem_of_getElem? (i := 125) (by decide +kernel))
theorem qfl_r75 : ∀ w ∈ qfl_w (5, 9, 5, 0), w ∈ lw_tbl := List.forall_mem_cons.mpr ⟨kw75, fun _ h => absurd h List.not_mem_nil⟩
theorem kw76 : Cond.fieldLink RX5 27 "SoftAsks$Policy" "out" "I" ∈ lw_tbl := kin1 _ (List.mem_of_getElem? (i := 129) (by decide +kernel))
theorem qfl_r76 : ∀ w ∈ qfl_w (5, 27, 5, 1), w ∈ lw_tbl := List.forall_mem_cons.mpr ⟨kw76, fun _ h => absurd h List.not_mem_nil⟩
theorem kw77 : Cond.fieldLink RX6 9 "SoftAsks$Seen" "count" "I" ∈ lw_tbl := kin1 _ (List.mem_of_getElem? (i := 160) (by decide +kernel))
theorem qfl_r77 : ∀ w ∈ qfl_w (6, 9, 6, 0), w ∈ lw_tbl := List.forall_mem_cons.mpr ⟨kw77, fun _ h => absurd h List.not_mem_nil⟩
theorem kw78 : Cond.fieldLink RX6 15 "SoftAsks$Seen" "asks" "[I" ∈ lw_tbl := kin1 _ (List.mem_of_getElem? (i := 162) (by decide +kernel))
theorem qfl_r78 : ∀ w ∈ qfl_w (6, 15, 6, 1), w ∈ lw_tbl := List.forall_mem_cons.mpr ⟨kw78, fun _ h => absurd h List.not_mem_nil⟩
theorem kw79 : Cond.fieldLink RX6 19 "SoftAsks$Seen" "was" "[I" ∈ lw_tbl := kin1 _ (List.mem_of_getElem? (i := 163) (by decide +kernel))
theorem qfl_r79 : ∀ w ∈ qfl_w (6, 19, 6, 2), w ∈ lw_tbl := List.forall_mem_cons.mpr ⟨kw79, fun _ h => absurd h List.not_mem_nil⟩
theorem kw80 : Cond.fieldLink RX6 22 "SoftAsks$DayRun" "state" "[I" ∈ lw_tbl := kin2 _ (List.mem_of_getElem? (i := 20) (by decide +kernel))
theorem qfl_r80 : ∀ w ∈ qfl_w (6, 22, 1, 1), w ∈ lw_tbl := List.forall_mem_cons.mpr ⟨kw80, fun _ h => absurd h List.not_mem_nil⟩
theorem kw81 : Cond.fieldLink RX7 9 "SoftAsks$Told" "hosts" "I" ∈ lw_tbl := kin1 _ (List.mem_of_getElem? (i := 49) (by decide +kernel))
theorem qfl_r81 : ∀ w ∈ qfl_w (7, 9, 7, 0), w ∈ lw_tbl := List.forall_mem_cons.mpr ⟨kw81, fun _ h => absurd h List.not_mem_nil⟩
theorem kw82 : Cond.fieldLink RX7 15 "SoftAsks$Told" "spans" "I" ∈ lw_tbl := kin1 _ (List.mem_of_getElem? (i := 53) (by decide +kernel))
theorem qfl_r82 : ∀ w ∈ qfl_w (7, 15, 7, 1), w ∈ lw_tbl := List.forall_mem_cons.mpr ⟨kw82, fun _ h => absurd h List.not_mem_nil⟩
theorem kw83 : Cond.fieldLink RX7 18 "SoftAsks$Told" "asks" "I" ∈ lw_tbl := kin1 _ (List.mem_of_getElem? (i := 56) (by decide +kernel))
theorem qfl_r83 : ∀ w ∈ qfl_w (7, 18, 7, 2), w ∈ lw_tbl := List.forall_mem_cons.mpr ⟨kw83, fun _ h => absurd h List.not_mem_nil⟩
theorem kw84 : Cond.fieldLink RX7 21 "SoftAsks$Told" "workers" "[I" ∈ lw_tbl := kin1 _ (List.mem_of_getElem? (i := 60) (by decide +kernel))
theorem qfl_r84 : ∀ w ∈ qfl_w (7, 21, 7, 3), w ∈ lw_tbl := List.forall_mem_cons.mpr ⟨kw84, fun _ h => absurd h List.not_mem_nil⟩
theorem kw85 : Cond.fieldLink RX7 25 "SoftAsks$Told" "ticks" "[I" ∈ lw_tbl := kin1 _ (List.mem_of_getElem? (i := 63) (by decide +kernel))
theorem qfl_r85 : ∀ w ∈ qfl_w (7, 25, 7, 4), w ∈ lw_tbl := List.forall_mem_cons.mpr ⟨kw85, fun _ h => absurd h List.not_mem_nil⟩
theorem kw86 : Cond.fieldLink RX7 28 "SoftAsks$Told" "room" "[I" ∈ lw_tbl := kin1 _ (List.mem_of_getElem? (i := 66) (by decide +kernel))
theorem qfl_r86 : ∀ w ∈ qfl_w (7, 28, 7, 5), w ∈ lw_tbl := List.forall_mem_cons.mpr ⟨kw86, fun _ h => absurd h List.not_mem_nil⟩
theorem kw87 : Cond.fieldLink RX7 31 "SoftAsks$Told" "spanHost" "[I" ∈ lw_tbl := kin1 _ (List.mem_of_getElem? (i := 69) (by decide +kernel))
theorem qfl_r87 : ∀ w ∈ qfl_w (7, 31, 7, 6), w ∈ lw_tbl := List.forall_mem_cons.mpr ⟨kw87, fun _ h => absurd h List.not_mem_nil⟩
theorem kw88 : Cond.fieldLink RX7 34 "SoftAsks$Told" "spanFrom" "[I" ∈ lw_tbl := kin1 _ (List.mem_of_getElem? (i := 71) (by decide +kernel))
theorem qfl_r88 : ∀ w ∈ qfl_w (7, 34, 7, 7), w ∈ lw_tbl := List.forall_mem_cons.mpr ⟨kw88, fun _ h => absurd h List.not_mem_nil⟩
theorem kw89 : Cond.fieldLink RX7 37 "SoftAsks$Told" "spanTo" "[I" ∈ lw_tbl := kin1 _ (List.mem_of_getElem? (i := 73) (by decide +kernel))
theorem qfl_r89 : ∀ w ∈ qfl_w (7, 37, 7, 8), w ∈ lw_tbl := List.forall_mem_cons.mpr ⟨kw89, fun _ h => absurd h List.not_mem_nil⟩
theorem qfl_ok2 : ∀ r ∈ qfl_2, ∀ w ∈ qfl_w r, w ∈ lw_tbl := List.forall_mem_cons.mpr ⟨qfl_r60, List.forall_mem_cons.mpr ⟨qfl_r61, List.forall_mem_cons.mpr ⟨qfl_r62, List.forall_mem_cons.mpr ⟨qfl_r63, List.forall_mem_cons.mpr ⟨qfl_r64, List.forall_mem_cons.mpr ⟨qfl_r65, List.forall_mem_cons.mpr ⟨qfl_r66, List.forall_mem_cons.mpr ⟨qfl_r67, List.forall_mem_cons.mpr ⟨qfl_r68, List.forall_mem_cons.mpr ⟨qfl_r69, List.forall_mem_cons.mpr ⟨qfl_r70, List.forall_mem_cons.mpr ⟨qfl_r71, List.forall_mem_cons.mpr ⟨qfl_r72, List.forall_mem_cons.mpr ⟨qfl_r73, List.forall_mem_cons.mpr ⟨qfl_r74, List.forall_mem_cons.mpr ⟨qfl_r75, List.forall_mem_cons.mpr ⟨qfl_r76, List.forall_mem_cons.mpr ⟨qfl_r77, List.forall_mem_cons.mpr ⟨qfl_r78, List.forall_mem_cons.mpr ⟨qfl_r79, List.forall_mem_cons.mpr ⟨qfl_r80, List.forall_mem_cons.mpr ⟨qfl_r81, List.forall_mem_cons.mpr ⟨qfl_r82, List.forall_mem_cons.mpr ⟨qfl_r83, List.forall_mem_cons.mpr ⟨qfl_r84, List.forall_mem_cons.mpr ⟨qfl_r85, List.forall_mem_cons.mpr ⟨qfl_r86, List.forall_mem_cons.mpr ⟨qfl_r87, List.forall_mem_cons.mpr ⟨qfl_r88, List.forall_mem_cons.mpr ⟨qfl_r89, fun _ h => absurd h List.not_mem_nil⟩⟩⟩⟩⟩⟩⟩⟩⟩⟩⟩⟩⟩⟩⟩⟩⟩⟩⟩⟩⟩⟩⟩⟩⟩⟩⟩⟩⟩⟩
theorem kw90 : Cond.fieldLink RX7 40 "SoftAsks$Told" "hour" "[I" ∈ lw_tbl := kin1 _ (List.mem_of_getElem? (i := 75) (by decide +kernel))
theorem qfl_r90 : ∀ w ∈ qfl_w (7, 40, 7, 9), w ∈ lw_tbl := List.forall_mem_cons.mpr ⟨kw90, fun _ h => absurd h List.not_mem_nil⟩
theorem kw91 : Cond.fieldLink RX7 43 "SoftAsks$Told" "rank" "[I" ∈ lw_tbl := kin1 _ (List.mem_of_getElem? (i := 79) (by decide +kernel))
theorem qfl_r91 : ∀ w ∈ qfl_w (7, 43, 7, 10), w ∈ lw_tbl := List.forall_mem_cons.mpr ⟨kw91, fun _ h => absurd h List.not_mem_nil⟩
theorem kw92 : Cond.fieldLink RX7 46 "SoftAsks$Told" "limit" "[I" ∈ lw_tbl := kin1 _ (List.mem_of_getElem? (i := 82) (by decide +kernel))
theorem qfl_r92 : ∀ w ∈ qfl_w (7, 46, 7, 11), w ∈ lw_tbl := List.forall_mem_cons.mpr ⟨kw92, fun _ h => absurd h List.not_mem_nil⟩
theorem kw93 : Cond.fieldLink RX8 9 "SoftAsks" "letters" "[I" ∈ lw_tbl := kin2 _ (List.mem_of_getElem? (i := 75) (by decide +kernel))
theorem qfl_r93 : ∀ w ∈ qfl_w (8, 9, 8, 0), w ∈ lw_tbl := List.forall_mem_cons.mpr ⟨kw93, fun _ h => absurd h List.not_mem_nil⟩
theorem kw94 : Cond.fieldLink RX8 13 "SoftAsks" "length" "I" ∈ lw_tbl := kin2 _ (List.mem_of_getElem? (i := 76) (by decide +kernel))
theorem qfl_r94 : ∀ w ∈ qfl_w (8, 13, 8, 1), w ∈ lw_tbl := List.forall_mem_cons.mpr ⟨kw94, fun _ h => absurd h List.not_mem_nil⟩
theorem kw95 : Cond.fieldLink RX8 22 "SoftAsks" "parser" "LSoftAsks$Parser;" ∈ lw_tbl := kin2 _ (List.mem_of_getElem? (i := 77) (by decide +kernel))
theorem qfl_r95 : ∀ w ∈ qfl_w (8, 22, 8, 2), w ∈ lw_tbl := List.forall_mem_cons.mpr ⟨kw95, fun _ h => absurd h List.not_mem_nil⟩
theorem kw96 : Cond.fieldLink RX8 29 "SoftAsks" "told" "LSoftAsks$Told;" ∈ lw_tbl := kin2 _ (List.mem_of_getElem? (i := 78) (by decide +kernel))
theorem qfl_r96 : ∀ w ∈ qfl_w (8, 29, 8, 3), w ∈ lw_tbl := List.forall_mem_cons.mpr ⟨kw96, fun _ h => absurd h List.not_mem_nil⟩
theorem kw97 : Cond.fieldLink RX8 33 "SoftAsks" "looked" "LSoftAsks$Told;" ∈ lw_tbl := kin2 _ (List.mem_of_getElem? (i := 79) (by decide +kernel))
theorem qfl_r97 : ∀ w ∈ qfl_w (8, 33, 8, 4), w ∈ lw_tbl := List.forall_mem_cons.mpr ⟨kw97, fun _ h => absurd h List.not_mem_nil⟩
theorem kw98 : Cond.fieldLink RX8 39 "SoftAsks" "policy" "LSoftAsks$Policy;" ∈ lw_tbl := kin2 _ (List.mem_of_getElem? (i := 80) (by decide +kernel))
theorem qfl_r98 : ∀ w ∈ qfl_w (8, 39, 8, 5), w ∈ lw_tbl := List.forall_mem_cons.mpr ⟨kw98, fun _ h => absurd h List.not_mem_nil⟩
theorem kw99 : Cond.fieldLink RX8 43 "SoftAsks" "trial" "LSoftAsks$Policy;" ∈ lw_tbl := kin2 _ (List.mem_of_getElem? (i := 81) (by decide +kernel))
theorem qfl_r99 : ∀ w ∈ qfl_w (8, 43, 8, 6), w ∈ lw_tbl := List.forall_mem_cons.mpr ⟨kw99, fun _ h => absurd h List.not_mem_nil⟩
theorem kw100 : Cond.fieldLink RX8 49 "SoftAsks" "doings" "LSoftAsks$Doings;" ∈ lw_tbl := kin2 _ (List.mem_of_getElem? (i := 82) (by decide +kernel))
theorem qfl_r100 : ∀ w ∈ qfl_w (8, 49, 8, 7), w ∈ lw_tbl := List.forall_mem_cons.mpr ⟨kw100, fun _ h => absurd h List.not_mem_nil⟩
theorem kw101 : Cond.fieldLink RX8 56 "SoftAsks" "seen" "LSoftAsks$Seen;" ∈ lw_tbl := kin2 _ (List.mem_of_getElem? (i := 83) (by decide +kernel))
theorem qfl_r101 : ∀ w ∈ qfl_w (8, 56, 8, 8), w ∈ lw_tbl := List.forall_mem_cons.mpr ⟨kw101, fun _ h => absurd h List.not_mem_nil⟩
theorem kw102 : Cond.fieldLink RX8 60 "SoftAsks" "slots" "[LSoftAsks$Policy;" ∈ lw_tbl := kin2 _ (List.mem_of_getElem? (i := 84) (by decide +kernel))
theorem qfl_r102 : ∀ w ∈ qfl_w (8, 60, 8, 9), w ∈ lw_tbl := List.forall_mem_cons.mpr ⟨kw102, fun _ h => absurd h List.not_mem_nil⟩
theorem kw103 : Cond.fieldLink RX8 64 "SoftAsks" "kept" "[Z" ∈ lw_tbl := kin2 _ (List.mem_of_getElem? (i := 85) (by decide +kernel))
theorem qfl_r103 : ∀ w ∈ qfl_w (8, 64, 8, 10), w ∈ lw_tbl := List.forall_mem_cons.mpr ⟨kw103, fun _ h => absurd h List.not_mem_nil⟩
theorem kw104 : Cond.fieldLink RX8 73 "SoftAsks" "run" "LSoftAsks$DayRun;" ∈ lw_tbl := kin2 _ (List.mem_of_getElem? (i := 86) (by decide +kernel))
theorem qfl_r104 : ∀ w ∈ qfl_w (8, 73, 8, 11), w ∈ lw_tbl := List.forall_mem_cons.mpr ⟨kw104, fun _ h => absurd h List.not_mem_nil⟩
theorem kw105 : Cond.fieldLink RX8 77 "SoftAsks" "drawnHours" "[I" ∈ lw_tbl := kin2 _ (List.mem_of_getElem? (i := 87) (by decide +kernel))
theorem qfl_r105 : ∀ w ∈ qfl_w (8, 77, 8, 12), w ∈ lw_tbl := List.forall_mem_cons.mpr ⟨kw105, fun _ h => absurd h List.not_mem_nil⟩
theorem kw106 : Cond.fieldLink RX8 80 "SoftAsks" "seedNow" "J" ∈ lw_tbl := kin2 _ (List.mem_of_getElem? (i := 88) (by decide +kernel))
theorem qfl_r106 : ∀ w ∈ qfl_w (8, 80, 8, 13), w ∈ lw_tbl := List.forall_mem_cons.mpr ⟨kw106, fun _ h => absurd h List.not_mem_nil⟩
theorem kw107 : Cond.fieldLink RX8 91 "SoftAsks$Doings" "count" "I" ∈ lw_tbl := kin1 _ (List.mem_of_getElem? (i := 144) (by decide +kernel))
theorem qfl_r107 : ∀ w ∈ qfl_w (8, 91, 2, 0), w ∈ lw_tbl := List.forall_mem_cons.mpr ⟨kw107, fun _ h => absurd h List.not_mem_nil⟩
theorem kw108 : Cond.fieldLink RX8 94 "SoftAsks$Told" "asks" "I" ∈ lw_tbl := kin1 _ (List.mem_of_getElem? (i := 59) (by decide +kernel))
theorem qfl_r108 : ∀ w ∈ qfl_w (8, 94, 7, 2), w ∈ lw_tbl := List.forall_mem_cons.mpr ⟨kw108, fun _ h => absurd h List.not_mem_nil⟩
theorem kw109 : Cond.fieldLink RX8 97 "SoftAsks$Told" "hosts" "I" ∈ lw_tbl := kin1 _ (List.mem_of_getElem? (i := 52) (by decide +kernel))
theorem qfl_r109 : ∀ w ∈ qfl_w (8, 97, 7, 0), w ∈ lw_tbl := List.forall_mem_cons.mpr ⟨kw109, fun _ h => absurd h List.not_mem_nil⟩
theorem kw110 : Cond.fieldLink RX8 100 "SoftAsks$Told" "spans" "I" ∈ lw_tbl := kin1 _ (List.mem_of_getElem? (i := 55) (by decide +kernel))
theorem qfl_r110 : ∀ w ∈ qfl_w (8, 100, 7, 1), w ∈ lw_tbl := List.forall_mem_cons.mpr ⟨kw110, fun _ h => absurd h List.not_mem_nil⟩
theorem kw111 : Cond.fieldLink RX8 103 "SoftAsks$Policy" "settings" "[I" ∈ lw_tbl := kin1 _ (List.mem_of_getElem? (i := 127) (by decide +kernel))
theorem qfl_r111 : ∀ w ∈ qfl_w (8, 103, 5, 0), w ∈ lw_tbl := List.forall_mem_cons.mpr ⟨kw111, fun _ h => absurd h List.not_mem_nil⟩
theorem kw112 : Cond.fieldLink RX8 106 "SoftAsks$Policy" "out" "I" ∈ lw_tbl := kin1 _ (List.mem_of_getElem? (i := 131) (by decide +kernel))
theorem qfl_r112 : ∀ w ∈ qfl_w (8, 106, 5, 1), w ∈ lw_tbl := List.forall_mem_cons.mpr ⟨kw112, fun _ h => absurd h List.not_mem_nil⟩
theorem kw113 : Cond.fieldLink RX8 109 "SoftAsks$Seen" "count" "I" ∈ lw_tbl := kin1 _ (List.mem_of_getElem? (i := 161) (by decide +kernel))
theorem qfl_r113 : ∀ w ∈ qfl_w (8, 109, 6, 0), w ∈ lw_tbl := List.forall_mem_cons.mpr ⟨kw113, fun _ h => absurd h List.not_mem_nil⟩
theorem kw114 : Cond.fieldLink RX8 133 "SoftAsks$Told" "hour" "[I" ∈ lw_tbl := kin1 _ (List.mem_of_getElem? (i := 78) (by decide +kernel))
theorem qfl_r114 : ∀ w ∈ qfl_w (8, 133, 7, 9), w ∈ lw_tbl := List.forall_mem_cons.mpr ⟨kw114, fun _ h => absurd h List.not_mem_nil⟩
theorem kw115 : Cond.fieldLink RX8 144 "SoftAsks$DayRun" "hosts" "[LSoftAsks$HostRun;" ∈ lw_tbl := kin2 _ (List.mem_of_getElem? (i := 18) (by decide +kernel))
theorem qfl_r115 : ∀ w ∈ qfl_w (8, 144, 1, 0), w ∈ lw_tbl := List.forall_mem_cons.mpr ⟨kw115, fun _ h => absurd h List.not_mem_nil⟩
theorem kw116 : Cond.fieldLink RX8 224 "SoftAsks$DayRun" "state" "[I" ∈ lw_tbl := kin2 _ (List.mem_of_getElem? (i := 21) (by decide +kernel))
theorem qfl_r116 : ∀ w ∈ qfl_w (8, 224, 1, 1), w ∈ lw_tbl := List.forall_mem_cons.mpr ⟨kw116, fun _ h => absurd h List.not_mem_nil⟩
theorem kw117 : Cond.fieldLink RX9 7 "SoftAsksModel" "text" "[I" ∈ lw_tbl := kin4 _ (List.mem_of_getElem? (i := 58) (by decide +kernel))
theorem qfl_r117 : ∀ w ∈ qfl_w (9, 7, 9, 0), w ∈ lw_tbl := List.forall_mem_cons.mpr ⟨kw117, fun _ h => absurd h List.not_mem_nil⟩
theorem kw118 : Cond.fieldLink RX9 13 "SoftAsksModel" "workers" "[I" ∈ lw_tbl := kin4 _ (List.mem_of_getElem? (i := 63) (by decide +kernel))
theorem qfl_r118 : ∀ w ∈ qfl_w (9, 13, 9, 5), w ∈ lw_tbl := List.forall_mem_cons.mpr ⟨kw118, fun _ h => absurd h List.not_mem_nil⟩
theorem kw119 : Cond.fieldLink RX9 16 "SoftAsksModel" "ticks" "[I" ∈ lw_tbl := kin4 _ (List.mem_of_getElem? (i := 64) (by decide +kernel))
theorem qfl_r119 : ∀ w ∈ qfl_w (9, 16, 9, 6), w ∈ lw_tbl := List.forall_mem_cons.mpr ⟨kw119, fun _ h => absurd h List.not_mem_nil⟩
theorem qfl_ok3 : ∀ r ∈ qfl_3, ∀ w ∈ qfl_w r, w ∈ lw_tbl := List.forall_mem_cons.mpr ⟨qfl_r90, List.forall_mem_cons.mpr ⟨qfl_r91, List.forall_mem_cons.mpr ⟨qfl_r92, List.forall_mem_cons.mpr ⟨qfl_r93, List.forall_mem_cons.mpr ⟨qfl_r94, List.forall_mem_cons.mpr ⟨qfl_r95, List.forall_mem_cons.mpr ⟨qfl_r96, List.forall_mem_cons.mpr ⟨qfl_r97, List.forall_mem_cons.mpr ⟨qfl_r98, List.forall_mem_cons.mpr ⟨qfl_r99, List.forall_mem_cons.mpr ⟨qfl_r100, List.forall_mem_cons.mpr ⟨qfl_r101, List.forall_mem_cons.mpr ⟨qfl_r102, List.forall_mem_cons.mpr ⟨qfl_r103, List.forall_mem_cons.mpr ⟨qfl_r104, List.forall_mem_cons.mpr ⟨qfl_r105, List.forall_mem_cons.mpr ⟨qfl_r106, List.forall_mem_cons.mpr ⟨qfl_r107, List.forall_mem_cons.mpr ⟨qfl_r108, List.forall_mem_cons.mpr ⟨qfl_r109, List.forall_mem_cons.mpr ⟨qfl_r110, List.forall_mem_cons.mpr ⟨qfl_r111, List.forall_mem_cons.mpr ⟨qfl_r112, List.forall_mem_cons.mpr ⟨qfl_r113, List.forall_mem_cons.mpr ⟨qfl_r114, List.forall_mem_cons.mpr ⟨qfl_r115, List.forall_mem_cons.mpr ⟨qfl_r116, List.forall_mem_cons.mpr ⟨qfl_r117, List.forall_mem_cons.mpr ⟨qfl_r118, List.forall_mem_cons.mpr ⟨qfl_r119, fun _ h => absurd h List.not_mem_nil⟩⟩⟩⟩⟩⟩⟩⟩⟩⟩⟩⟩⟩⟩⟩⟩⟩⟩⟩⟩⟩⟩⟩⟩⟩⟩⟩⟩⟩⟩
theorem kw120 : Cond.fieldLink RX9 19 "SoftAsksModel" "room" "[I" ∈ lw_tbl := kin4 _ (List.mem_of_getElem? (i := 65) (by decide +kernel))
theorem qfl_r120 : ∀ w ∈ qfl_w (9, 19, 9, 7), w ∈ lw_tbl := List.forall_mem_cons.mpr ⟨kw120, fun _ h => absurd h List.not_mem_nil⟩
theorem kw121 : Cond.fieldLink RX9 22 "SoftAsksModel" "spanHost" "[I" ∈ lw_tbl := kin4 _ (List.mem_of_getElem? (i := 66) (by decide +kernel))
theorem qfl_r121 : ∀ w ∈ qfl_w (9, 22, 9, 8), w ∈ lw_tbl := List.forall_mem_cons.mpr ⟨kw121, fun _ h => absurd h List.not_mem_nil⟩
theorem kw122 : Cond.fieldLink RX9 25 "SoftAsksModel" "spanFrom" "[I" ∈ lw_tbl := kin4 _ (List.mem_of_getElem? (i := 67) (by decide +kernel))
theorem qfl_r122 : ∀ w ∈ qfl_w (9, 25, 9, 9), w ∈ lw_tbl := List.forall_mem_cons.mpr ⟨kw122, fun _ h => absurd h List.not_mem_nil⟩
theorem kw123 : Cond.fieldLink RX9 28 "SoftAsksModel" "spanTo" "[I" ∈ lw_tbl := kin4 _ (List.mem_of_getElem? (i := 68) (by decide +kernel))
theorem qfl_r123 : ∀ w ∈ qfl_w (9, 28, 9, 10), w ∈ lw_tbl := List.forall_mem_cons.mpr ⟨kw123, fun _ h => absurd h List.not_mem_nil⟩
theorem kw124 : Cond.fieldLink RX9 31 "SoftAsksModel" "told" "[I" ∈ lw_tbl := kin4 _ (List.mem_of_getElem? (i := 69) (by decide +kernel))
theorem qfl_r124 : ∀ w ∈ qfl_w (9, 31, 9, 11), w ∈ lw_tbl := List.forall_mem_cons.mpr ⟨kw124, fun _ h => absurd h List.not_mem_nil⟩
theorem kw125 : Cond.fieldLink RX9 34 "SoftAsksModel" "rank" "[I" ∈ lw_tbl := kin4 _ (List.mem_of_getElem? (i := 70) (by decide +kernel))
theorem qfl_r125 : ∀ w ∈ qfl_w (9, 34, 9, 12), w ∈ lw_tbl := List.forall_mem_cons.mpr ⟨kw125, fun _ h => absurd h List.not_mem_nil⟩
theorem kw126 : Cond.fieldLink RX9 37 "SoftAsksModel" "limit" "[I" ∈ lw_tbl := kin4 _ (List.mem_of_getElem? (i := 71) (by decide +kernel))
theorem qfl_r126 : ∀ w ∈ qfl_w (9, 37, 9, 13), w ∈ lw_tbl := List.forall_mem_cons.mpr ⟨kw126, fun _ h => absurd h List.not_mem_nil⟩
theorem kw127 : Cond.fieldLink RX9 40 "SoftAsksModel" "readWorkers" "[I" ∈ lw_tbl := kin4 _ (List.mem_of_getElem? (i := 75) (by decide +kernel))
theorem qfl_r127 : ∀ w ∈ qfl_w (9, 40, 9, 17), w ∈ lw_tbl := List.forall_mem_cons.mpr ⟨kw127, fun _ h => absurd h List.not_mem_nil⟩
theorem kw128 : Cond.fieldLink RX9 43 "SoftAsksModel" "readTicks" "[I" ∈ lw_tbl := kin4 _ (List.mem_of_getElem? (i := 76) (by decide +kernel))
theorem qfl_r128 : ∀ w ∈ qfl_w (9, 43, 9, 18), w ∈ lw_tbl := List.forall_mem_cons.mpr ⟨kw128, fun _ h => absurd h List.not_mem_nil⟩
theorem kw129 : Cond.fieldLink RX9 46 "SoftAsksModel" "readRoom" "[I" ∈ lw_tbl := kin4 _ (List.mem_of_getElem? (i := 77) (by decide +kernel))
theorem qfl_r129 : ∀ w ∈ qfl_w (9, 46, 9, 19), w ∈ lw_tbl := List.forall_mem_cons.mpr ⟨kw129, fun _ h => absurd h List.not_mem_nil⟩
theorem kw130 : Cond.fieldLink RX9 49 "SoftAsksModel" "readSpanHost" "[I" ∈ lw_tbl := kin4 _ (List.mem_of_getElem? (i := 78) (by decide +kernel))
theorem qfl_r130 : ∀ w ∈ qfl_w (9, 49, 9, 20), w ∈ lw_tbl := List.forall_mem_cons.mpr ⟨kw130, fun _ h => absurd h List.not_mem_nil⟩
theorem kw131 : Cond.fieldLink RX9 52 "SoftAsksModel" "readSpanFrom" "[I" ∈ lw_tbl := kin4 _ (List.mem_of_getElem? (i := 79) (by decide +kernel))
theorem qfl_r131 : ∀ w ∈ qfl_w (9, 52, 9, 21), w ∈ lw_tbl := List.forall_mem_cons.mpr ⟨kw131, fun _ h => absurd h List.not_mem_nil⟩
theorem kw132 : Cond.fieldLink RX9 55 "SoftAsksModel" "readSpanTo" "[I" ∈ lw_tbl := kin4 _ (List.mem_of_getElem? (i := 80) (by decide +kernel))
theorem qfl_r132 : ∀ w ∈ qfl_w (9, 55, 9, 22), w ∈ lw_tbl := List.forall_mem_cons.mpr ⟨kw132, fun _ h => absurd h List.not_mem_nil⟩
theorem kw133 : Cond.fieldLink RX9 58 "SoftAsksModel" "readHour" "[I" ∈ lw_tbl := kin4 _ (List.mem_of_getElem? (i := 81) (by decide +kernel))
theorem qfl_r133 : ∀ w ∈ qfl_w (9, 58, 9, 23), w ∈ lw_tbl := List.forall_mem_cons.mpr ⟨kw133, fun _ h => absurd h List.not_mem_nil⟩
theorem kw134 : Cond.fieldLink RX9 61 "SoftAsksModel" "readRank" "[I" ∈ lw_tbl := kin4 _ (List.mem_of_getElem? (i := 82) (by decide +kernel))
theorem qfl_r134 : ∀ w ∈ qfl_w (9, 61, 9, 24), w ∈ lw_tbl := List.forall_mem_cons.mpr ⟨kw134, fun _ h => absurd h List.not_mem_nil⟩
theorem kw135 : Cond.fieldLink RX9 64 "SoftAsksModel" "readLimit" "[I" ∈ lw_tbl := kin4 _ (List.mem_of_getElem? (i := 83) (by decide +kernel))
theorem qfl_r135 : ∀ w ∈ qfl_w (9, 64, 9, 25), w ∈ lw_tbl := List.forall_mem_cons.mpr ⟨kw135, fun _ h => absurd h List.not_mem_nil⟩
theorem kw136 : Cond.fieldLink RX9 67 "SoftAsksModel" "now" "[I" ∈ lw_tbl := kin4 _ (List.mem_of_getElem? (i := 86) (by decide +kernel))
theorem qfl_r136 : ∀ w ∈ qfl_w (9, 67, 9, 28), w ∈ lw_tbl := List.forall_mem_cons.mpr ⟨kw136, fun _ h => absurd h List.not_mem_nil⟩
theorem kw137 : Cond.fieldLink RX9 70 "SoftAsksModel" "trial" "[I" ∈ lw_tbl := kin4 _ (List.mem_of_getElem? (i := 87) (by decide +kernel))
theorem qfl_r137 : ∀ w ∈ qfl_w (9, 70, 9, 29), w ∈ lw_tbl := List.forall_mem_cons.mpr ⟨kw137, fun _ h => absurd h List.not_mem_nil⟩
theorem kw138 : Cond.fieldLink RX9 73 "SoftAsksModel" "diary" "[I" ∈ lw_tbl := kin4 _ (List.mem_of_getElem? (i := 88) (by decide +kernel))
theorem qfl_r138 : ∀ w ∈ qfl_w (9, 73, 9, 30), w ∈ lw_tbl := List.forall_mem_cons.mpr ⟨kw138, fun _ h => absurd h List.not_mem_nil⟩
theorem kw139 : Cond.fieldLink RX9 76 "SoftAsksModel" "kept" "[I" ∈ lw_tbl := kin4 _ (List.mem_of_getElem? (i := 91) (by decide +kernel))
theorem qfl_r139 : ∀ w ∈ qfl_w (9, 76, 9, 33), w ∈ lw_tbl := List.forall_mem_cons.mpr ⟨kw139, fun _ h => absurd h List.not_mem_nil⟩
theorem kw140 : Cond.fieldLink RX9 79 "SoftAsksModel" "isKept" "[Z" ∈ lw_tbl := kin4 _ (List.mem_of_getElem? (i := 92) (by decide +kernel))
theorem qfl_r140 : ∀ w ∈ qfl_w (9, 79, 9, 34), w ∈ lw_tbl := List.forall_mem_cons.mpr ⟨kw140, fun _ h => absurd h List.not_mem_nil⟩
theorem kw141 : Cond.fieldLink RX9 83 "SoftAsksModel" "seenAsk" "[I" ∈ lw_tbl := kin4 _ (List.mem_of_getElem? (i := 93) (by decide +kernel))
theorem qfl_r141 : ∀ w ∈ qfl_w (9, 83, 9, 35), w ∈ lw_tbl := List.forall_mem_cons.mpr ⟨kw141, fun _ h => absurd h List.not_mem_nil⟩
theorem kw142 : Cond.fieldLink RX9 86 "SoftAsksModel" "seenWas" "[I" ∈ lw_tbl := kin4 _ (List.mem_of_getElem? (i := 94) (by decide +kernel))
theorem qfl_r142 : ∀ w ∈ qfl_w (9, 86, 9, 36), w ∈ lw_tbl := List.forall_mem_cons.mpr ⟨kw142, fun _ h => absurd h List.not_mem_nil⟩
theorem kw143 : Cond.fieldLink RX9 89 "SoftAsksModel" "hour" "[I" ∈ lw_tbl := kin4 _ (List.mem_of_getElem? (i := 97) (by decide +kernel))
theorem qfl_r143 : ∀ w ∈ qfl_w (9, 89, 9, 39), w ∈ lw_tbl := List.forall_mem_cons.mpr ⟨kw143, fun _ h => absurd h List.not_mem_nil⟩
theorem kw144 : Cond.fieldLink RX9 92 "SoftAsksModel" "policy" "[I" ∈ lw_tbl := kin4 _ (List.mem_of_getElem? (i := 98) (by decide +kernel))
theorem qfl_r144 : ∀ w ∈ qfl_w (9, 92, 9, 40), w ∈ lw_tbl := List.forall_mem_cons.mpr ⟨kw144, fun _ h => absurd h List.not_mem_nil⟩
theorem kw145 : Cond.fieldLink RX9 95 "SoftAsksModel" "state" "[I" ∈ lw_tbl := kin4 _ (List.mem_of_getElem? (i := 100) (by decide +kernel))
theorem qfl_r145 : ∀ w ∈ qfl_w (9, 95, 9, 42), w ∈ lw_tbl := List.forall_mem_cons.mpr ⟨kw145, fun _ h => absurd h List.not_mem_nil⟩
theorem kw146 : Cond.fieldLink RX9 98 "SoftAsksModel" "endedAt" "[I" ∈ lw_tbl := kin4 _ (List.mem_of_getElem? (i := 101) (by decide +kernel))
theorem qfl_r146 : ∀ w ∈ qfl_w (9, 98, 9, 43), w ∈ lw_tbl := List.forall_mem_cons.mpr ⟨kw146, fun _ h => absurd h List.not_mem_nil⟩
theorem kw147 : Cond.fieldLink RX9 101 "SoftAsksModel" "doneBy" "[I" ∈ lw_tbl := kin4 _ (List.mem_of_getElem? (i := 102) (by decide +kernel))
theorem qfl_r147 : ∀ w ∈ qfl_w (9, 101, 9, 44), w ∈ lw_tbl := List.forall_mem_cons.mpr ⟨kw147, fun _ h => absurd h List.not_mem_nil⟩
theorem kw148 : Cond.fieldLink RX9 104 "SoftAsksModel" "tries" "[I" ∈ lw_tbl := kin4 _ (List.mem_of_getElem? (i := 103) (by decide +kernel))
theorem qfl_r148 : ∀ w ∈ qfl_w (9, 104, 9, 45), w ∈ lw_tbl := List.forall_mem_cons.mpr ⟨kw148, fun _ h => absurd h List.not_mem_nil⟩
theorem kw149 : Cond.fieldLink RX9 107 "SoftAsksModel" "hedged" "[Z" ∈ lw_tbl := kin4 _ (List.mem_of_getElem? (i := 104) (by decide +kernel))
theorem qfl_r149 : ∀ w ∈ qfl_w (9, 107, 9, 46), w ∈ lw_tbl := List.forall_mem_cons.mpr ⟨kw149, fun _ h => absurd h List.not_mem_nil⟩
theorem qfl_ok4 : ∀ r ∈ qfl_4, ∀ w ∈ qfl_w r, w ∈ lw_tbl := List.forall_mem_cons.mpr ⟨qfl_r120, List.forall_mem_cons.mpr ⟨qfl_r121, List.forall_mem_cons.mpr ⟨qfl_r122, List.forall_mem_cons.mpr ⟨qfl_r123, List.forall_mem_cons.mpr ⟨qfl_r124, List.forall_mem_cons.mpr ⟨qfl_r125, List.forall_mem_cons.mpr ⟨qfl_r126, List.forall_mem_cons.mpr ⟨qfl_r127, List.forall_mem_cons.mpr ⟨qfl_r128, List.forall_mem_cons.mpr ⟨qfl_r129, List.forall_mem_cons.mpr ⟨qfl_r130, List.forall_mem_cons.mpr ⟨qfl_r131, List.forall_mem_cons.mpr ⟨qfl_r132, List.forall_mem_cons.mpr ⟨qfl_r133, List.forall_mem_cons.mpr ⟨qfl_r134, List.forall_mem_cons.mpr ⟨qfl_r135, List.forall_mem_cons.mpr ⟨qfl_r136, List.forall_mem_cons.mpr ⟨qfl_r137, List.forall_mem_cons.mpr ⟨qfl_r138, List.forall_mem_cons.mpr ⟨qfl_r139, List.forall_mem_cons.mpr ⟨qfl_r140, List.forall_mem_cons.mpr ⟨qfl_r141, List.forall_mem_cons.mpr ⟨qfl_r142, List.forall_mem_cons.mpr ⟨qfl_r143, List.forall_mem_cons.mpr ⟨qfl_r144, List.forall_mem_cons.mpr ⟨qfl_r145, List.forall_mem_cons.mpr ⟨qfl_r146, List.forall_mem_cons.mpr ⟨qfl_r147, List.forall_mem_cons.mpr ⟨qfl_r148, List.forall_mem_cons.mpr ⟨qfl_r149, fun _ h => absurd h List.not_mem_nil⟩⟩⟩⟩⟩⟩⟩⟩⟩⟩⟩⟩⟩⟩⟩⟩⟩⟩⟩⟩⟩⟩⟩⟩⟩⟩⟩⟩⟩⟩
theorem kw150 : Cond.fieldLink RX9 110 "SoftAsksModel" "rows" "[I" ∈ lw_tbl := kin4 _ (List.mem_of_getElem? (i := 105) (by decide +kernel))
theorem qfl_r150 : ∀ w ∈ qfl_w (9, 110, 9, 47), w ∈ lw_tbl := List.forall_mem_cons.mpr ⟨kw150, fun _ h => absurd h List.not_mem_nil⟩
theorem kw151 : Cond.fieldLink RX9 113 "SoftAsksModel" "waiting" "[I" ∈ lw_tbl := kin4 _ (List.mem_of_getElem? (i := 106) (by decide +kernel))
theorem qfl_r151 : ∀ w ∈ qfl_w (9, 113, 9, 48), w ∈ lw_tbl := List.forall_mem_cons.mpr ⟨kw151, fun _ h => absurd h List.not_mem_nil⟩
theorem kw152 : Cond.fieldLink RX9 116 "SoftAsksModel" "workAsk" "[I" ∈ lw_tbl := kin4 _ (List.mem_of_getElem? (i := 107) (by decide +kernel))
theorem qfl_r152 : ∀ w ∈ qfl_w (9, 116, 9, 49), w ∈ lw_tbl := List.forall_mem_cons.mpr ⟨kw152, fun _ h => absurd h List.not_mem_nil⟩
theorem kw153 : Cond.fieldLink RX9 119 "SoftAsksModel" "workEnd" "[I" ∈ lw_tbl := kin4 _ (List.mem_of_getElem? (i := 108) (by decide +kernel))
theorem qfl_r153 : ∀ w ∈ qfl_w (9, 119, 9, 50), w ∈ lw_tbl := List.forall_mem_cons.mpr ⟨kw153, fun _ h => absurd h List.not_mem_nil⟩
theorem kw154 : Cond.fieldLink RX9 122 "SoftAsksModel" "works" "[I" ∈ lw_tbl := kin4 _ (List.mem_of_getElem? (i := 109) (by decide +kernel))
theorem qfl_r154 : ∀ w ∈ qfl_w (9, 122, 9, 51), w ∈ lw_tbl := List.forall_mem_cons.mpr ⟨kw154, fun _ h => absurd h List.not_mem_nil⟩
theorem kw155 : Cond.fieldLink RX9 125 "SoftAsksModel" "openedAt" "[I" ∈ lw_tbl := kin4 _ (List.mem_of_getElem? (i := 110) (by decide +kernel))
theorem qfl_r155 : ∀ w ∈ qfl_w (9, 125, 9, 52), w ∈ lw_tbl := List.forall_mem_cons.mpr ⟨kw155, fun _ h => absurd h List.not_mem_nil⟩
theorem kw156 : Cond.fieldLink RX9 128 "SoftAsksModel" "isShut" "[Z" ∈ lw_tbl := kin4 _ (List.mem_of_getElem? (i := 111) (by decide +kernel))
theorem qfl_r156 : ∀ w ∈ qfl_w (9, 128, 9, 53), w ∈ lw_tbl := List.forall_mem_cons.mpr ⟨kw156, fun _ h => absurd h List.not_mem_nil⟩
theorem kw157 : Cond.fieldLink RX9 131 "SoftAsksModel" "noted" "[I" ∈ lw_tbl := kin4 _ (List.mem_of_getElem? (i := 112) (by decide +kernel))
theorem qfl_r157 : ∀ w ∈ qfl_w (9, 131, 9, 54), w ∈ lw_tbl := List.forall_mem_cons.mpr ⟨kw157, fun _ h => absurd h List.not_mem_nil⟩
theorem kw158 : Cond.fieldLink RX9 134 "SoftAsksModel" "notedMany" "[I" ∈ lw_tbl := kin4 _ (List.mem_of_getElem? (i := 113) (by decide +kernel))
theorem qfl_r158 : ∀ w ∈ qfl_w (9, 134, 9, 55), w ∈ lw_tbl := List.forall_mem_cons.mpr ⟨kw158, fun _ h => absurd h List.not_mem_nil⟩
theorem kw159 : Cond.fieldLink RX9 137 "SoftAsksModel" "rate" "[I" ∈ lw_tbl := kin4 _ (List.mem_of_getElem? (i := 114) (by decide +kernel))
theorem qfl_r159 : ∀ w ∈ qfl_w (9, 137, 9, 56), w ∈ lw_tbl := List.forall_mem_cons.mpr ⟨kw159, fun _ h => absurd h List.not_mem_nil⟩
theorem kw160 : Cond.fieldLink RX9 140 "SoftAsksModel" "ended" "[I" ∈ lw_tbl := kin4 _ (List.mem_of_getElem? (i := 115) (by decide +kernel))
theorem qfl_r160 : ∀ w ∈ qfl_w (9, 140, 9, 57), w ∈ lw_tbl := List.forall_mem_cons.mpr ⟨kw160, fun _ h => absurd h List.not_mem_nil⟩
theorem kw161 : Cond.fieldLink RX9 143 "SoftAsksModel" "bad" "[I" ∈ lw_tbl := kin4 _ (List.mem_of_getElem? (i := 116) (by decide +kernel))
theorem qfl_r161 : ∀ w ∈ qfl_w (9, 143, 9, 58), w ∈ lw_tbl := List.forall_mem_cons.mpr ⟨kw161, fun _ h => absurd h List.not_mem_nil⟩
theorem kw162 : Cond.fieldLink RX9 146 "SoftAsksModel" "wasted" "[I" ∈ lw_tbl := kin4 _ (List.mem_of_getElem? (i := 117) (by decide +kernel))
theorem qfl_r162 : ∀ w ∈ qfl_w (9, 146, 9, 59), w ∈ lw_tbl := List.forall_mem_cons.mpr ⟨kw162, fun _ h => absurd h List.not_mem_nil⟩
theorem kw163 : Cond.fieldLink RX9 149 "SoftAsksModel" "opened" "[I" ∈ lw_tbl := kin4 _ (List.mem_of_getElem? (i := 118) (by decide +kernel))
theorem qfl_r163 : ∀ w ∈ qfl_w (9, 149, 9, 60), w ∈ lw_tbl := List.forall_mem_cons.mpr ⟨kw163, fun _ h => absurd h List.not_mem_nil⟩
theorem kw164 : Cond.fieldLink RX9 152 "SoftAsksModel" "shed" "[I" ∈ lw_tbl := kin4 _ (List.mem_of_getElem? (i := 119) (by decide +kernel))
theorem qfl_r164 : ∀ w ∈ qfl_w (9, 152, 9, 61), w ∈ lw_tbl := List.forall_mem_cons.mpr ⟨kw164, fun _ h => absurd h List.not_mem_nil⟩
theorem kw165 : Cond.fieldLink RX9 155 "SoftAsksModel" "worth" "[I" ∈ lw_tbl := kin4 _ (List.mem_of_getElem? (i := 126) (by decide +kernel))
theorem qfl_r165 : ∀ w ∈ qfl_w (9, 155, 9, 68), w ∈ lw_tbl := List.forall_mem_cons.mpr ⟨kw165, fun _ h => absurd h List.not_mem_nil⟩
theorem kw166 : Cond.fieldLink RX9 197 "SoftAsksModel" "length" "I" ∈ lw_tbl := kin4 _ (List.mem_of_getElem? (i := 59) (by decide +kernel))
theorem qfl_r166 : ∀ w ∈ qfl_w (9, 197, 9, 1), w ∈ lw_tbl := List.forall_mem_cons.mpr ⟨kw166, fun _ h => absurd h List.not_mem_nil⟩
theorem kw167 : Cond.fieldLink RX9 201 "SoftAsksModel" "readHosts" "I" ∈ lw_tbl := kin4 _ (List.mem_of_getElem? (i := 72) (by decide +kernel))
theorem qfl_r167 : ∀ w ∈ qfl_w (9, 201, 9, 14), w ∈ lw_tbl := List.forall_mem_cons.mpr ⟨kw167, fun _ h => absurd h List.not_mem_nil⟩
theorem kw168 : Cond.fieldLink RX9 204 "SoftAsksModel" "readSpans" "I" ∈ lw_tbl := kin4 _ (List.mem_of_getElem? (i := 74) (by decide +kernel))
theorem qfl_r168 : ∀ w ∈ qfl_w (9, 204, 9, 16), w ∈ lw_tbl := List.forall_mem_cons.mpr ⟨kw168, fun _ h => absurd h List.not_mem_nil⟩
theorem kw169 : Cond.fieldLink RX9 207 "SoftAsksModel" "readAsks" "I" ∈ lw_tbl := kin4 _ (List.mem_of_getElem? (i := 73) (by decide +kernel))
theorem qfl_r169 : ∀ w ∈ qfl_w (9, 207, 9, 15), w ∈ lw_tbl := List.forall_mem_cons.mpr ⟨kw169, fun _ h => absurd h List.not_mem_nil⟩
theorem kw170 : Cond.fieldLink RX9 210 "SoftAsksModel" "part" "I" ∈ lw_tbl := kin4 _ (List.mem_of_getElem? (i := 84) (by decide +kernel))
theorem qfl_r170 : ∀ w ∈ qfl_w (9, 210, 9, 26), w ∈ lw_tbl := List.forall_mem_cons.mpr ⟨kw170, fun _ h => absurd h List.not_mem_nil⟩
theorem kw171 : Cond.fieldLink RX9 213 "SoftAsksModel" "place" "I" ∈ lw_tbl := kin4 _ (List.mem_of_getElem? (i := 85) (by decide +kernel))
theorem qfl_r171 : ∀ w ∈ qfl_w (9, 213, 9, 27), w ∈ lw_tbl := List.forall_mem_cons.mpr ⟨kw171, fun _ h => absurd h List.not_mem_nil⟩
theorem kw172 : Cond.fieldLink RX9 249 "SoftAsksModel" "hosts" "I" ∈ lw_tbl := kin4 _ (List.mem_of_getElem? (i := 60) (by decide +kernel))
theorem qfl_r172 : ∀ w ∈ qfl_w (9, 249, 9, 2), w ∈ lw_tbl := List.forall_mem_cons.mpr ⟨kw172, fun _ h => absurd h List.not_mem_nil⟩
theorem kw173 : Cond.fieldLink RX9 252 "SoftAsksModel" "asks" "I" ∈ lw_tbl := kin4 _ (List.mem_of_getElem? (i := 61) (by decide +kernel))
theorem qfl_r173 : ∀ w ∈ qfl_w (9, 252, 9, 3), w ∈ lw_tbl := List.forall_mem_cons.mpr ⟨kw173, fun _ h => absurd h List.not_mem_nil⟩
theorem kw174 : Cond.fieldLink RX9 255 "SoftAsksModel" "spans" "I" ∈ lw_tbl := kin4 _ (List.mem_of_getElem? (i := 62) (by decide +kernel))
theorem qfl_r174 : ∀ w ∈ qfl_w (9, 255, 9, 4), w ∈ lw_tbl := List.forall_mem_cons.mpr ⟨kw174, fun _ h => absurd h List.not_mem_nil⟩
theorem kw175 : Cond.fieldLink RX9 258 "SoftAsksModel" "doings" "I" ∈ lw_tbl := kin4 _ (List.mem_of_getElem? (i := 89) (by decide +kernel))
theorem qfl_r175 : ∀ w ∈ qfl_w (9, 258, 9, 31), w ∈ lw_tbl := List.forall_mem_cons.mpr ⟨kw175, fun _ h => absurd h List.not_mem_nil⟩
theorem kw176 : Cond.fieldLink RX9 284 "SoftAsksModel" "sent" "I" ∈ lw_tbl := kin4 _ (List.mem_of_getElem? (i := 122) (by decide +kernel))
theorem qfl_r176 : ∀ w ∈ qfl_w (9, 284, 9, 64), w ∈ lw_tbl := List.forall_mem_cons.mpr ⟨kw176, fun _ h => absurd h List.not_mem_nil⟩
theorem kw177 : Cond.fieldLink RX9 291 "SoftAsksModel" "lost" "I" ∈ lw_tbl := kin4 _ (List.mem_of_getElem? (i := 125) (by decide +kernel))
theorem qfl_r177 : ∀ w ∈ qfl_w (9, 291, 9, 67), w ∈ lw_tbl := List.forall_mem_cons.mpr ⟨kw177, fun _ h => absurd h List.not_mem_nil⟩
theorem kw178 : Cond.fieldLink RX9 298 "SoftAsksModel" "spoilt" "I" ∈ lw_tbl := kin4 _ (List.mem_of_getElem? (i := 99) (by decide +kernel))
theorem qfl_r178 : ∀ w ∈ qfl_w (9, 298, 9, 41), w ∈ lw_tbl := List.forall_mem_cons.mpr ⟨kw178, fun _ h => absurd h List.not_mem_nil⟩
theorem kw179 : Cond.fieldLink RX9 320 "SoftAsksModel" "learnt" "I" ∈ lw_tbl := kin4 _ (List.mem_of_getElem? (i := 121) (by decide +kernel))
theorem qfl_r179 : ∀ w ∈ qfl_w (9, 320, 9, 63), w ∈ lw_tbl := List.forall_mem_cons.mpr ⟨kw179, fun _ h => absurd h List.not_mem_nil⟩
theorem qfl_ok5 : ∀ r ∈ qfl_5, ∀ w ∈ qfl_w r, w ∈ lw_tbl := List.forall_mem_cons.mpr ⟨qfl_r150, List.forall_mem_cons.mpr ⟨qfl_r151, List.forall_mem_cons.mpr ⟨qfl_r152, List.forall_mem_cons.mpr ⟨qfl_r153, List.forall_mem_cons.mpr ⟨qfl_r154, List.forall_mem_cons.mpr ⟨qfl_r155, List.forall_mem_cons.mpr ⟨qfl_r156, List.forall_mem_cons.mpr ⟨qfl_r157, List.forall_mem_cons.mpr ⟨qfl_r158, List.forall_mem_cons.mpr ⟨qfl_r159, List.forall_mem_cons.mpr ⟨qfl_r160, List.forall_mem_cons.mpr ⟨qfl_r161, List.forall_mem_cons.mpr ⟨qfl_r162, List.forall_mem_cons.mpr ⟨qfl_r163, List.forall_mem_cons.mpr ⟨qfl_r164, List.forall_mem_cons.mpr ⟨qfl_r165, List.forall_mem_cons.mpr ⟨qfl_r166, List.forall_mem_cons.mpr ⟨qfl_r167, List.forall_mem_cons.mpr ⟨qfl_r168, List.forall_mem_cons.mpr ⟨qfl_r169, List.forall_mem_cons.mpr ⟨qfl_r170, List.forall_mem_cons.mpr ⟨qfl_r171, List.forall_mem_cons.mpr ⟨qfl_r172, List.forall_mem_cons.mpr ⟨qfl_r173, List.forall_mem_cons.mpr ⟨qfl_r174, List.forall_mem_cons.mpr ⟨qfl_r175, List.forall_mem_cons.mpr ⟨qfl_r176, List.forall_mem_cons.mpr ⟨qfl_r177, List.forall_mem_cons.mpr ⟨qfl_r178, List.forall_mem_cons.mpr ⟨qfl_r179, fun _ h => absurd h List.not_mem_nil⟩⟩⟩⟩⟩⟩⟩⟩⟩⟩⟩⟩⟩⟩⟩⟩⟩⟩⟩⟩⟩⟩⟩⟩⟩⟩⟩⟩⟩⟩
theorem kw180 : Cond.fieldLink RX9 331 "SoftAsksModel" "budget" "I" ∈ lw_tbl := kin4 _ (List.mem_of_getElem? (i := 120) (by decide +kernel))
theorem qfl_r180 : ∀ w ∈ qfl_w (9, 331, 9, 62), w ∈ lw_tbl := List.forall_mem_cons.mpr ⟨kw180, fun _ h => absurd h List.not_mem_nil⟩
theorem kw181 : Cond.fieldLink RX9 340 "SoftAsksModel" "sentAgain" "I" ∈ lw_tbl := kin4 _ (List.mem_of_getElem? (i := 123) (by decide +kernel))
theorem qfl_r181 : ∀ w ∈ qfl_w (9, 340, 9, 65), w ∈ lw_tbl := List.forall_mem_cons.mpr ⟨kw181, fun _ h => absurd h List.not_mem_nil⟩
theorem kw182 : Cond.fieldLink RX9 346 "SoftAsksModel" "sentHedges" "I" ∈ lw_tbl := kin4 _ (List.mem_of_getElem? (i := 124) (by decide +kernel))
theorem qfl_r182 : ∀ w ∈ qfl_w (9, 346, 9, 66), w ∈ lw_tbl := List.forall_mem_cons.mpr ⟨kw182, fun _ h => absurd h List.not_mem_nil⟩
theorem kw183 : Cond.fieldLink RX9 374 "SoftAsksModel" "seen" "I" ∈ lw_tbl := kin4 _ (List.mem_of_getElem? (i := 95) (by decide +kernel))
theorem qfl_r183 : ∀ w ∈ qfl_w (9, 374, 9, 37), w ∈ lw_tbl := List.forall_mem_cons.mpr ⟨kw183, fun _ h => absurd h List.not_mem_nil⟩
theorem kw184 : Cond.fieldLink RX9 379 "SoftAsksModel" "next" "I" ∈ lw_tbl := kin4 _ (List.mem_of_getElem? (i := 90) (by decide +kernel))
theorem qfl_r184 : ∀ w ∈ qfl_w (9, 379, 9, 32), w ∈ lw_tbl := List.forall_mem_cons.mpr ⟨kw184, fun _ h => absurd h List.not_mem_nil⟩
theorem kw185 : Cond.fieldLink RX9 429 "SoftAsksModel" "seed" "J" ∈ lw_tbl := kin4 _ (List.mem_of_getElem? (i := 96) (by decide +kernel))
theorem qfl_r185 : ∀ w ∈ qfl_w (9, 429, 9, 38), w ∈ lw_tbl := List.forall_mem_cons.mpr ⟨kw185, fun _ h => absurd h List.not_mem_nil⟩
theorem qfl_ok6 : ∀ r ∈ qfl_6, ∀ w ∈ qfl_w r, w ∈ lw_tbl := List.forall_mem_cons.mpr ⟨qfl_r180, List.forall_mem_cons.mpr ⟨qfl_r181, List.forall_mem_cons.mpr ⟨qfl_r182, List.forall_mem_cons.mpr ⟨qfl_r183, List.forall_mem_cons.mpr ⟨qfl_r184, List.forall_mem_cons.mpr ⟨qfl_r185, fun _ h => absurd h List.not_mem_nil⟩⟩⟩⟩⟩⟩
theorem qfl_ok : ∀ r ∈ qfl, ∀ w ∈ qfl_w r, w ∈ lw_tbl := List.forall_mem_append.mpr ⟨qfl_ok0, List.forall_mem_append.mpr ⟨qfl_ok1, List.forall_mem_append.mpr ⟨qfl_ok2, List.forall_mem_append.mpr ⟨qfl_ok3, List.forall_mem_append.mpr ⟨qfl_ok4, List.forall_mem_append.mpr ⟨qfl_ok5, qfl_ok6⟩⟩⟩⟩⟩⟩
def qsn (k : Nat) : String := (["AT_FIRST", "LEAST", "MOST", "FACTORIAL", "FOUR_FIGURES"] : List String).getD k ""
def qsd (k : Nat) : String := (["[I", "[I", "[I", "[I", "[J"] : List String).getD k ""
def qsl_0 : List (Nat × Nat × Nat × Int) := [(5, 18, 0, 1), (5, 31, 1, 1), (5, 34, 2, 1), (8, 159, 1, 0), (8, 162, 2, 0), (8, 176, 4, 0), (8, 205, 3, 0)]
def qsl : List (Nat × Nat × Nat × Int) := qsl_0
def qsl_w (r : Nat × Nat × Nat × Int) : List Cond := if r.2.2.2 = 0 then [.fieldLink (qos r.1) r.2.1 RX8 (qsn r.2.2.1) (qsd r.2.2.1)] else [.fieldLinkNest (qos r.1) r.2.1 RX8 (qsn r.2.2.1) (qsd r.2.2.1) RX8]
theorem kw186 : Cond.fieldLinkNest RX5 18 "SoftAsks" "AT_FIRST" "[I" "SoftAsks" ∈ lw_tbl := kin1 _ (List.mem_of_getElem? (i := 120) (by decide +kernel))
theorem qsl_r0 : ∀ w ∈ qsl_w (5, 18, 0, 1), w ∈ lw_tbl := List.forall_mem_cons.mpr ⟨kw186, fun _ h => absurd h List.not_mem_nil⟩
theorem kw187 : Cond.fieldLinkNest RX5 31 "SoftAsks" "LEAST" "[I" "SoftAsks" ∈ lw_tbl := kin2 _ (List.mem_of_getElem? (i := 181) (by decide +kernel))
theorem qsl_r1 : ∀ w ∈ qsl_w (5, 31, 1, 1), w ∈ lw_tbl := List.forall_mem_cons.mpr ⟨kw187, fun _ h => absurd h List.not_mem_nil⟩
theorem kw188 : Cond.fieldLinkNest RX5 34 "SoftAsks" "MOST" "[I" "SoftAsks" ∈ lw_tbl := kin2 _ (List.mem_of_getElem? (i := 183) (by decide +kernel))
theorem qsl_r2 : ∀ w ∈ qsl_w (5, 34, 2, 1), w ∈ lw_tbl := List.forall_mem_cons.mpr ⟨kw188, fun _ h => absurd h List.not_mem_nil⟩
theorem kw189 : Cond.fieldLink RX8 159 "SoftAsks" "LEAST" "[I" ∈ lw_tbl := kin3 _ (List.mem_of_getElem? (i := 190) (by decide +kernel))
theorem qsl_r3 : ∀ w ∈ qsl_w (8, 159, 1, 0), w ∈ lw_tbl := List.forall_mem_cons.mpr ⟨kw189, fun _ h => absurd h List.not_mem_nil⟩
theorem kw190 : Cond.fieldLink RX8 162 "SoftAsks" "MOST" "[I" ∈ lw_tbl := kin3 _ (List.mem_of_getElem? (i := 191) (by decide +kernel))
theorem qsl_r4 : ∀ w ∈ qsl_w (8, 162, 2, 0), w ∈ lw_tbl := List.forall_mem_cons.mpr ⟨kw190, fun _ h => absurd h List.not_mem_nil⟩
theorem kw191 : Cond.fieldLink RX8 176 "SoftAsks" "FOUR_FIGURES" "[J" ∈ lw_tbl := kin3 _ (List.mem_of_getElem? (i := 206) (by decide +kernel))
theorem qsl_r5 : ∀ w ∈ qsl_w (8, 176, 4, 0), w ∈ lw_tbl := List.forall_mem_cons.mpr ⟨kw191, fun _ h => absurd h List.not_mem_nil⟩
theorem kw192 : Cond.fieldLink RX8 205 "SoftAsks" "FACTORIAL" "[I" ∈ lw_tbl := kin4 _ (List.mem_of_getElem? (i := 10) (by decide +kernel))
theorem qsl_r6 : ∀ w ∈ qsl_w (8, 205, 3, 0), w ∈ lw_tbl := List.forall_mem_cons.mpr ⟨kw192, fun _ h => absurd h List.not_mem_nil⟩
theorem qsl_ok0 : ∀ r ∈ qsl_0, ∀ w ∈ qsl_w r, w ∈ lw_tbl := List.forall_mem_cons.mpr ⟨qsl_r0, List.forall_mem_cons.mpr ⟨qsl_r1, List.forall_mem_cons.mpr ⟨qsl_r2, List.forall_mem_cons.mpr ⟨qsl_r3, List.forall_mem_cons.mpr ⟨qsl_r4, List.forall_mem_cons.mpr ⟨qsl_r5, List.forall_mem_cons.mpr ⟨qsl_r6, fun _ h => absurd h List.not_mem_nil⟩⟩⟩⟩⟩⟩⟩
theorem qsl_ok : ∀ r ∈ qsl, ∀ w ∈ qsl_w r, w ∈ lw_tbl := qsl_ok0
def qkl_0 : List (Nat × Nat × Nat × Int) := [(0, 53, 1, 1048576000), (0, 54, 1, 1056964608), (1, 93, 1, 1082130432), (1, 150, 1, 1048576000), (8, 183, 2, 10000), (8, 227, 2, 6364136223846793005), (8, 229, 2, 1442695040888963407), (8, 236, 3, 4611686018427387904), (8, 238, 3, 4710765210229538816), (8, 240, 0, 8388608), (9, 165, 0, 8388607), (9, 166, 0, 8388608), (9, 167, 2, 2), (9, 169, 2, 16777216), (9, 171, 2, 8388608), (9, 173, 2, 2147483648), (9, 191, 2, 255), (9, 216, 2, 3), (9, 218, 2, 9), (9, 220, 2, 5), (9, 222, 2, 7), (9, 224, 2, 4), (9, 226, 2, 30), (9, 228, 2, 48), (9, 230, 2, 57), (9, 313, 0, 1056964608), (9, 377, 2, 8), (9, 404, 2, 79), (9, 409, 2, 10000), (9, 424, 2, 10)]
def qkl_1 : List (Nat × Nat × Nat × Int) := [(9, 433, 2, 6364136223846793005), (9, 435, 2, 1442695040888963407), (9, 437, 2, 41), (10, 265, 0, 1431655765), (10, 266, 0, 858993459), (10, 267, 0, 252645135), (13, 69, 2, 4294967295)]
def qkl : List (Nat × Nat × Nat × Int) := qkl_0 ++ (qkl_1)
def qkl_w (r : Nat × Nat × Nat × Int) : List Cond := match r.2.2.1 with
  | 0 => [.constant (qos r.1) r.2.1 (Int32.ofInt r.2.2.2)]
  | 1 => [.constantFloat (qos r.1) r.2.1 (UInt32.ofNat r.2.2.2.toNat)]
  | 2 => [.constantLong (qos r.1) r.2.1 (Int64.ofInt r.2.2.2)]
  | _ => [.constantDouble (qos r.1) r.2.1 (UInt64.ofNat r.2.2.2.toNat)]
theorem kw193 : Cond.constantFloat RX0 53 (1048576000) ∈ lw_tbl := kin3 _ (List.mem_of_getElem? (i := 62) (by decide +kernel))
theorem qkl_r0 : ∀ w ∈ qkl_w (0, 53, 1, 1048576000), w ∈ lw_tbl := List.forall_mem_cons.mpr ⟨kw193, fun _ h => absurd h List.not_mem_nil⟩
theorem kw194 : Cond.constantFloat RX0 54 (1056964608) ∈ lw_tbl := kin3 _ (List.mem_of_getElem? (i := 63) (by decide +kernel))
theorem qkl_r1 : ∀ w ∈ qkl_w (0, 54, 1, 1056964608), w ∈ lw_tbl := List.forall_mem_cons.mpr ⟨kw194, fun _ h => absurd h List.not_mem_nil⟩
theorem kw195 : Cond.constantFloat RX1 93 (1082130432) ∈ lw_tbl := kin3 _ (List.mem_of_getElem? (i := 1) (by decide +kernel))
theorem qkl_r2 : ∀ w ∈ qkl_w (1, 93, 1, 1082130432), w ∈ lw_tbl := List.forall_mem_cons.mpr ⟨kw195, fun _ h => absurd h List.not_mem_nil⟩
theorem kw196 : Cond.constantFloat RX1 150 (1048576000) ∈ lw_tbl := kin3 _ (List.mem_of_getElem? (i := 42) (by decide +kernel))
theorem qkl_r3 : ∀ w ∈ qkl_w (1, 150, 1, 1048576000), w ∈ lw_tbl := List.forall_mem_cons.mpr ⟨kw196, fun _ h => absurd h List.not_mem_nil⟩
theorem kw197 : Cond.constantLong RX8 183 (10000) ∈ lw_tbl := kin3 _ (List.mem_of_getElem? (i := 208) (by decide +kernel))
theorem qkl_r4 : ∀ w ∈ qkl_w (8, 183, 2, 10000), w ∈ lw_tbl := List.forall_mem_cons.mpr ⟨kw197, fun _ h => absurd h List.not_mem_nil⟩
theorem kw198 : Cond.constantLong RX8 227 (6364136223846793005) ∈ lw_tbl := kin4 _ (List.mem_of_getElem? (i := 38) (by decide +kernel))
theorem qkl_r5 : ∀ w ∈ qkl_w (8, 227, 2, 6364136223846793005), w ∈ lw_tbl := List.forall_mem_cons.mpr ⟨kw198, fun _ h => absurd h List.not_mem_nil⟩
theorem kw199 : Cond.constantLong RX8 229 (1442695040888963407) ∈ lw_tbl := kin4 _ (List.mem_of_getElem? (i := 39) (by decide +kernel))
theorem qkl_r6 : ∀ w ∈ qkl_w (8, 229, 2, 1442695040888963407), w ∈ lw_tbl := List.forall_mem_cons.mpr ⟨kw199, fun _ h => absurd h List.not_mem_nil⟩
theorem kw200 : Cond.constantDouble RX8 236 (4611686018427387904) ∈ lw_tbl := kin3 _ (List.mem_of_getElem? (i := 173) (by decide +kernel))
theorem qkl_r7 : ∀ w ∈ qkl_w (8, 236, 3, 4611686018427387904), w ∈ lw_tbl := List.forall_mem_cons.mpr ⟨kw200, fun _ h => absurd h List.not_mem_nil⟩
theorem kw201 : Cond.constantDouble RX8 238 (4710765210229538816) ∈ lw_tbl := kin3 _ (List.mem_of_getElem? (i := 174) (by decide +kernel))
theorem qkl_r8 : ∀ w ∈ qkl_w (8, 238, 3, 4710765210229538816), w ∈ lw_tbl := List.forall_mem_cons.mpr ⟨kw201, fun _ h => absurd h List.not_mem_nil⟩
theorem kw202 : Cond.constant RX8 240 (8388608) ∈ lw_tbl := kin3 _ (List.mem_of_getElem? (i := 175) (by decide +kernel))
theorem qkl_r9 : ∀ w ∈ qkl_w (8, 240, 0, 8388608), w ∈ lw_tbl := List.forall_mem_cons.mpr ⟨kw202, fun _ h => absurd h List.not_mem_nil⟩
theorem kw203 : Cond.constant RX9 165 (8388607) ∈ lw_tbl := kin5 _ (List.mem_of_getElem? (i := 165) (by decide +kernel))
theorem qkl_r10 : ∀ w ∈ qkl_w (9, 165, 0, 8388607), w ∈ lw_tbl := List.forall_mem_cons.mpr ⟨kw203, fun _ h => absurd h List.not_mem_nil⟩
theorem kw204 : Cond.constant RX9 166 (8388608) ∈ lw_tbl := kin5 _ (List.mem_of_getElem? (i := 166) (by decide +kernel))
theorem qkl_r11 : ∀ w ∈ qkl_w (9, 166, 0, 8388608), w ∈ lw_tbl := List.forall_mem_cons.mpr ⟨kw204, fun _ h => absurd h List.not_mem_nil⟩
theorem kw205 : Cond.constantLong RX9 167 (2) ∈ lw_tbl := kin5 _ (List.mem_of_getElem? (i := 86) (by decide +kernel))
theorem qkl_r12 : ∀ w ∈ qkl_w (9, 167, 2, 2), w ∈ lw_tbl := List.forall_mem_cons.mpr ⟨kw205, fun _ h => absurd h List.not_mem_nil⟩
theorem kw206 : Cond.constantLong RX9 169 (16777216) ∈ lw_tbl := kin5 _ (List.mem_of_getElem? (i := 130) (by decide +kernel))
theorem qkl_r13 : ∀ w ∈ qkl_w (9, 169, 2, 16777216), w ∈ lw_tbl := List.forall_mem_cons.mpr ⟨kw206, fun _ h => absurd h List.not_mem_nil⟩
theorem kw207 : Cond.constantLong RX9 171 (8388608) ∈ lw_tbl := kin5 _ (List.mem_of_getElem? (i := 131) (by decide +kernel))
theorem qkl_r14 : ∀ w ∈ qkl_w (9, 171, 2, 8388608), w ∈ lw_tbl := List.forall_mem_cons.mpr ⟨kw207, fun _ h => absurd h List.not_mem_nil⟩
theorem kw208 : Cond.constantLong RX9 173 (2147483648) ∈ lw_tbl := kin5 _ (List.mem_of_getElem? (i := 132) (by decide +kernel))
theorem qkl_r15 : ∀ w ∈ qkl_w (9, 173, 2, 2147483648), w ∈ lw_tbl := List.forall_mem_cons.mpr ⟨kw208, fun _ h => absurd h List.not_mem_nil⟩
theorem kw209 : Cond.constantLong RX9 191 (255) ∈ lw_tbl := kin5 _ (List.mem_of_getElem? (i := 30) (by decide +kernel))
theorem qkl_r16 : ∀ w ∈ qkl_w (9, 191, 2, 255), w ∈ lw_tbl := List.forall_mem_cons.mpr ⟨kw209, fun _ h => absurd h List.not_mem_nil⟩
theorem kw210 : Cond.constantLong RX9 216 (3) ∈ lw_tbl := kin5 _ (List.mem_of_getElem? (i := 56) (by decide +kernel))
theorem qkl_r17 : ∀ w ∈ qkl_w (9, 216, 2, 3), w ∈ lw_tbl := List.forall_mem_cons.mpr ⟨kw210, fun _ h => absurd h List.not_mem_nil⟩
theorem kw211 : Cond.constantLong RX9 218 (9) ∈ lw_tbl := kin5 _ (List.mem_of_getElem? (i := 57) (by decide +kernel))
theorem qkl_r18 : ∀ w ∈ qkl_w (9, 218, 2, 9), w ∈ lw_tbl := List.forall_mem_cons.mpr ⟨kw211, fun _ h => absurd h List.not_mem_nil⟩
theorem kw212 : Cond.constantLong RX9 220 (5) ∈ lw_tbl := kin5 _ (List.mem_of_getElem? (i := 58) (by decide +kernel))
theorem qkl_r19 : ∀ w ∈ qkl_w (9, 220, 2, 5), w ∈ lw_tbl := List.forall_mem_cons.mpr ⟨kw212, fun _ h => absurd h List.not_mem_nil⟩
theorem kw213 : Cond.constantLong RX9 222 (7) ∈ lw_tbl := kin5 _ (List.mem_of_getElem? (i := 63) (by decide +kernel))
theorem qkl_r20 : ∀ w ∈ qkl_w (9, 222, 2, 7), w ∈ lw_tbl := List.forall_mem_cons.mpr ⟨kw213, fun _ h => absurd h List.not_mem_nil⟩
theorem kw214 : Cond.constantLong RX9 224 (4) ∈ lw_tbl := kin5 _ (List.mem_of_getElem? (i := 68) (by decide +kernel))
theorem qkl_r21 : ∀ w ∈ qkl_w (9, 224, 2, 4), w ∈ lw_tbl := List.forall_mem_cons.mpr ⟨kw214, fun _ h => absurd h List.not_mem_nil⟩
theorem kw215 : Cond.constantLong RX9 226 (30) ∈ lw_tbl := kin5 _ (List.mem_of_getElem? (i := 69) (by decide +kernel))
theorem qkl_r22 : ∀ w ∈ qkl_w (9, 226, 2, 30), w ∈ lw_tbl := List.forall_mem_cons.mpr ⟨kw215, fun _ h => absurd h List.not_mem_nil⟩
theorem kw216 : Cond.constantLong RX9 228 (48) ∈ lw_tbl := kin5 _ (List.mem_of_getElem? (i := 46) (by decide +kernel))
theorem qkl_r23 : ∀ w ∈ qkl_w (9, 228, 2, 48), w ∈ lw_tbl := List.forall_mem_cons.mpr ⟨kw216, fun _ h => absurd h List.not_mem_nil⟩
theorem kw217 : Cond.constantLong RX9 230 (57) ∈ lw_tbl := kin5 _ (List.mem_of_getElem? (i := 47) (by decide +kernel))
theorem qkl_r24 : ∀ w ∈ qkl_w (9, 230, 2, 57), w ∈ lw_tbl := List.forall_mem_cons.mpr ⟨kw217, fun _ h => absurd h List.not_mem_nil⟩
theorem kw218 : Cond.constant RX9 313 (1056964608) ∈ lw_tbl := kin5 _ (List.mem_of_getElem? (i := 185) (by decide +kernel))
theorem qkl_r25 : ∀ w ∈ qkl_w (9, 313, 0, 1056964608), w ∈ lw_tbl := List.forall_mem_cons.mpr ⟨kw218, fun _ h => absurd h List.not_mem_nil⟩
theorem kw219 : Cond.constantLong RX9 377 (8) ∈ lw_tbl := kin5 _ (List.mem_of_getElem? (i := 85) (by decide +kernel))
theorem qkl_r26 : ∀ w ∈ qkl_w (9, 377, 2, 8), w ∈ lw_tbl := List.forall_mem_cons.mpr ⟨kw219, fun _ h => absurd h List.not_mem_nil⟩
theorem kw220 : Cond.constantLong RX9 404 (79) ∈ lw_tbl := kin6 _ (List.mem_of_getElem? (i := 21) (by decide +kernel))
theorem qkl_r27 : ∀ w ∈ qkl_w (9, 404, 2, 79), w ∈ lw_tbl := List.forall_mem_cons.mpr ⟨kw220, fun _ h => absurd h List.not_mem_nil⟩
theorem kw221 : Cond.constantLong RX9 409 (10000) ∈ lw_tbl := kin6 _ (List.mem_of_getElem? (i := 37) (by decide +kernel))
theorem qkl_r28 : ∀ w ∈ qkl_w (9, 409, 2, 10000), w ∈ lw_tbl := List.forall_mem_cons.mpr ⟨kw221, fun _ h => absurd h List.not_mem_nil⟩
theorem kw222 : Cond.constantLong RX9 424 (10) ∈ lw_tbl := kin6 _ (List.mem_of_getElem? (i := 71) (by decide +kernel))
theorem qkl_r29 : ∀ w ∈ qkl_w (9, 424, 2, 10), w ∈ lw_tbl := List.forall_mem_cons.mpr ⟨kw222, fun _ h => absurd h List.not_mem_nil⟩
theorem qkl_ok0 : ∀ r ∈ qkl_0, ∀ w ∈ qkl_w r, w ∈ lw_tbl := List.forall_mem_cons.mpr ⟨qkl_r0, List.forall_mem_cons.mpr ⟨qkl_r1, List.forall_mem_cons.mpr ⟨qkl_r2, List.forall_mem_cons.mpr ⟨qkl_r3, List.forall_mem_cons.mpr ⟨qkl_r4, List.forall_mem_cons.mpr ⟨qkl_r5, List.forall_mem_cons.mpr ⟨qkl_r6, List.forall_mem_cons.mpr ⟨qkl_r7, List.forall_mem_cons.mpr ⟨qkl_r8, List.forall_mem_cons.mpr ⟨qkl_r9, List.forall_mem_cons.mpr ⟨qkl_r10, List.forall_mem_cons.mpr ⟨qkl_r11, List.forall_mem_cons.mpr ⟨qkl_r12, List.forall_mem_cons.mpr ⟨qkl_r13, List.forall_mem_cons.mpr ⟨qkl_r14, List.forall_mem_cons.mpr ⟨qkl_r15, List.forall_mem_cons.mpr ⟨qkl_r16, List.forall_mem_cons.mpr ⟨qkl_r17, List.forall_mem_cons.mpr ⟨qkl_r18, List.forall_mem_cons.mpr ⟨qkl_r19, List.forall_mem_cons.mpr ⟨qkl_r20, List.forall_mem_cons.mpr ⟨qkl_r21, List.forall_mem_cons.mpr ⟨qkl_r22, List.forall_mem_cons.mpr ⟨qkl_r23, List.forall_mem_cons.mpr ⟨qkl_r24, List.forall_mem_cons.mpr ⟨qkl_r25, List.forall_mem_cons.mpr ⟨qkl_r26, List.forall_mem_cons.mpr ⟨qkl_r27, List.forall_mem_cons.mpr ⟨qkl_r28, List.forall_mem_cons.mpr ⟨qkl_r29, fun _ h => absurd h List.not_mem_nil⟩⟩⟩⟩⟩⟩⟩⟩⟩⟩⟩⟩⟩⟩⟩⟩⟩⟩⟩⟩⟩⟩⟩⟩⟩⟩⟩⟩⟩⟩
theorem kw223 : Cond.constantLong RX9 433 (6364136223846793005) ∈ lw_tbl := kin6 _ (List.mem_of_getElem? (i := 83) (by decide +kernel))
theorem qkl_r30 : ∀ w ∈ qkl_w (9, 433, 2, 6364136223846793005), w ∈ lw_tbl := List.forall_mem_cons.mpr ⟨kw223, fun _ h => absurd h List.not_mem_nil⟩
theorem kw224 : Cond.constantLong RX9 435 (1442695040888963407) ∈ lw_tbl := kin6 _ (List.mem_of_getElem? (i := 84) (by decide +kernel))
theorem qkl_r31 : ∀ w ∈ qkl_w (9, 435, 2, 1442695040888963407), w ∈ lw_tbl := List.forall_mem_cons.mpr ⟨kw224, fun _ h => absurd h List.not_mem_nil⟩
theorem kw225 : Cond.constantLong RX9 437 (41) ∈ lw_tbl := kin6 _ (List.mem_of_getElem? (i := 85) (by decide +kernel))
theorem qkl_r32 : ∀ w ∈ qkl_w (9, 437, 2, 41), w ∈ lw_tbl := List.forall_mem_cons.mpr ⟨kw225, fun _ h => absurd h List.not_mem_nil⟩
theorem kw226 : Cond.constant RJ6 265 (1431655765) ∈ lw_tbl := kin3 _ (List.mem_of_getElem? (i := 59) (by decide +kernel))
theorem qkl_r33 : ∀ w ∈ qkl_w (10, 265, 0, 1431655765), w ∈ lw_tbl := List.forall_mem_cons.mpr ⟨kw226, fun _ h => absurd h List.not_mem_nil⟩
theorem kw227 : Cond.constant RJ6 266 (858993459) ∈ lw_tbl := kin3 _ (List.mem_of_getElem? (i := 60) (by decide +kernel))
theorem qkl_r34 : ∀ w ∈ qkl_w (10, 266, 0, 858993459), w ∈ lw_tbl := List.forall_mem_cons.mpr ⟨kw227, fun _ h => absurd h List.not_mem_nil⟩
theorem kw228 : Cond.constant RJ6 267 (252645135) ∈ lw_tbl := kin3 _ (List.mem_of_getElem? (i := 61) (by decide +kernel))
theorem qkl_r35 : ∀ w ∈ qkl_w (10, 267, 0, 252645135), w ∈ lw_tbl := List.forall_mem_cons.mpr ⟨kw228, fun _ h => absurd h List.not_mem_nil⟩
theorem kw229 : Cond.constantLong RL 69 (4294967295) ∈ lw_tbl := kin6 _ (List.mem_of_getElem? (i := 94) (by decide +kernel))
theorem qkl_r36 : ∀ w ∈ qkl_w (13, 69, 2, 4294967295), w ∈ lw_tbl := List.forall_mem_cons.mpr ⟨kw229, fun _ h => absurd h List.not_mem_nil⟩
theorem qkl_ok1 : ∀ r ∈ qkl_1, ∀ w ∈ qkl_w r, w ∈ lw_tbl := List.forall_mem_cons.mpr ⟨qkl_r30, List.forall_mem_cons.mpr ⟨qkl_r31, List.forall_mem_cons.mpr ⟨qkl_r32, List.forall_mem_cons.mpr ⟨qkl_r33, List.forall_mem_cons.mpr ⟨qkl_r34, List.forall_mem_cons.mpr ⟨qkl_r35, List.forall_mem_cons.mpr ⟨qkl_r36, fun _ h => absurd h List.not_mem_nil⟩⟩⟩⟩⟩⟩⟩
theorem qkl_ok : ∀ r ∈ qkl, ∀ w ∈ qkl_w r, w ∈ lw_tbl := List.forall_mem_append.mpr ⟨qkl_ok0, qkl_ok1⟩
def qak (k : Nat) : String := if k = 3 then RX3 else RX5
def qcll_0 : List (Nat × Nat × Nat × Nat) := [(1, 9, 0, 3), (1, 9, 1, 3), (1, 37, 0, 5), (3, 9, 0, 0), (8, 17, 0, 4), (8, 26, 0, 7), (8, 36, 0, 5), (8, 36, 1, 4), (8, 46, 0, 2), (8, 53, 0, 6), (8, 68, 0, 1), (13, 7, 0, 8), (13, 10, 0, 9)]
def qcll : List (Nat × Nat × Nat × Nat) := qcll_0
def qcll_w (r : Nat × Nat × Nat × Nat) : List Cond := if r.2.2.1 = 0 then [.classLink (qos r.1) r.2.1 (qos r.2.2.2), .instantiable (qos r.2.2.2) (qnf r.2.2.2), .initialized (qos r.2.2.2)] else [.classLink (qos r.1) r.2.1 (qak r.2.2.2)]
theorem kw230 : Cond.classLink RX1 9 "SoftAsks$HostRun" ∈ lw_tbl := kin1 _ (List.mem_of_getElem? (i := 178) (by decide +kernel))
theorem kw231 : Cond.instantiable RX3 11 ∈ lw_tbl := kin1 _ (List.mem_of_getElem? (i := 182) (by decide +kernel))
theorem kw232 : Cond.initialized "SoftAsks$HostRun" ∈ lw_tbl := kin1 _ (List.mem_of_getElem? (i := 9) (by decide +kernel))
theorem qcll_r0 : ∀ w ∈ qcll_w (1, 9, 0, 3), w ∈ lw_tbl := List.forall_mem_cons.mpr ⟨kw230, List.forall_mem_cons.mpr ⟨kw231, List.forall_mem_cons.mpr ⟨kw232, fun _ h => absurd h List.not_mem_nil⟩⟩⟩
theorem qcll_r1 : ∀ w ∈ qcll_w (1, 9, 1, 3), w ∈ lw_tbl := List.forall_mem_cons.mpr ⟨kw230, fun _ h => absurd h List.not_mem_nil⟩
theorem kw233 : Cond.classLink RX1 37 "SoftAsks$Policy" ∈ lw_tbl := kin1 _ (List.mem_of_getElem? (i := 180) (by decide +kernel))
theorem kw234 : Cond.instantiable RX5 2 ∈ lw_tbl := kin1 _ (List.mem_of_getElem? (i := 111) (by decide +kernel))
theorem kw235 : Cond.initialized "SoftAsks$Policy" ∈ lw_tbl := kin1 _ (List.mem_of_getElem? (i := 4) (by decide +kernel))
theorem qcll_r2 : ∀ w ∈ qcll_w (1, 37, 0, 5), w ∈ lw_tbl := List.forall_mem_cons.mpr ⟨kw233, List.forall_mem_cons.mpr ⟨kw234, List.forall_mem_cons.mpr ⟨kw235, fun _ h => absurd h List.not_mem_nil⟩⟩⟩
theorem kw236 : Cond.classLink RX3 9 "SoftAsks$Breaker" ∈ lw_tbl := kin1 _ (List.mem_of_getElem? (i := 187) (by decide +kernel))
theorem kw237 : Cond.instantiable RX0 6 ∈ lw_tbl := kin1 _ (List.mem_of_getElem? (i := 188) (by decide +kernel))
theorem kw238 : Cond.initialized "SoftAsks$Breaker" ∈ lw_tbl := kin1 _ (List.mem_of_getElem? (i := 10) (by decide +kernel))
theorem qcll_r3 : ∀ w ∈ qcll_w (3, 9, 0, 0), w ∈ lw_tbl := List.forall_mem_cons.mpr ⟨kw236, List.forall_mem_cons.mpr ⟨kw237, List.forall_mem_cons.mpr ⟨kw238, fun _ h => absurd h List.not_mem_nil⟩⟩⟩
theorem kw239 : Cond.classLink RX8 17 "SoftAsks$Parser" ∈ lw_tbl := kin1 _ (List.mem_of_getElem? (i := 23) (by decide +kernel))
theorem kw240 : Cond.instantiable RX4 4 ∈ lw_tbl := kin1 _ (List.mem_of_getElem? (i := 24) (by decide +kernel))
theorem kw241 : Cond.initialized "SoftAsks$Parser" ∈ lw_tbl := kin1 _ (List.mem_of_getElem? (i := 2) (by decide +kernel))
theorem qcll_r4 : ∀ w ∈ qcll_w (8, 17, 0, 4), w ∈ lw_tbl := List.forall_mem_cons.mpr ⟨kw239, List.forall_mem_cons.mpr ⟨kw240, List.forall_mem_cons.mpr ⟨kw241, fun _ h => absurd h List.not_mem_nil⟩⟩⟩
theorem kw242 : Cond.classLink RX8 26 "SoftAsks$Told" ∈ lw_tbl := kin1 _ (List.mem_of_getElem? (i := 43) (by decide +kernel))
theorem kw243 : Cond.instantiable RX7 12 ∈ lw_tbl := kin1 _ (List.mem_of_getElem? (i := 44) (by decide +kernel))
theorem kw244 : Cond.initialized "SoftAsks$Told" ∈ lw_tbl := kin1 _ (List.mem_of_getElem? (i := 3) (by decide +kernel))
theorem qcll_r5 : ∀ w ∈ qcll_w (8, 26, 0, 7), w ∈ lw_tbl := List.forall_mem_cons.mpr ⟨kw242, List.forall_mem_cons.mpr ⟨kw243, List.forall_mem_cons.mpr ⟨kw244, fun _ h => absurd h List.not_mem_nil⟩⟩⟩
theorem kw245 : Cond.classLink RX8 36 "SoftAsks$Policy" ∈ lw_tbl := kin1 _ (List.mem_of_getElem? (i := 110) (by decide +kernel))
theorem qcll_r6 : ∀ w ∈ qcll_w (8, 36, 0, 5), w ∈ lw_tbl := List.forall_mem_cons.mpr ⟨kw245, List.forall_mem_cons.mpr ⟨kw234, List.forall_mem_cons.mpr ⟨kw235, fun _ h => absurd h List.not_mem_nil⟩⟩⟩
theorem qcll_r7 : ∀ w ∈ qcll_w (8, 36, 1, 4), w ∈ lw_tbl := List.forall_mem_cons.mpr ⟨kw245, fun _ h => absurd h List.not_mem_nil⟩
theorem kw246 : Cond.classLink RX8 46 "SoftAsks$Doings" ∈ lw_tbl := kin1 _ (List.mem_of_getElem? (i := 137) (by decide +kernel))
theorem kw247 : Cond.instantiable RX2 3 ∈ lw_tbl := kin1 _ (List.mem_of_getElem? (i := 138) (by decide +kernel))
theorem kw248 : Cond.initialized "SoftAsks$Doings" ∈ lw_tbl := kin1 _ (List.mem_of_getElem? (i := 6) (by decide +kernel))
theorem qcll_r8 : ∀ w ∈ qcll_w (8, 46, 0, 2), w ∈ lw_tbl := List.forall_mem_cons.mpr ⟨kw246, List.forall_mem_cons.mpr ⟨kw247, List.forall_mem_cons.mpr ⟨kw248, fun _ h => absurd h List.not_mem_nil⟩⟩⟩
theorem kw249 : Cond.classLink RX8 53 "SoftAsks$Seen" ∈ lw_tbl := kin1 _ (List.mem_of_getElem? (i := 154) (by decide +kernel))
theorem kw250 : Cond.instantiable RX6 3 ∈ lw_tbl := kin1 _ (List.mem_of_getElem? (i := 155) (by decide +kernel))
theorem kw251 : Cond.initialized "SoftAsks$Seen" ∈ lw_tbl := kin1 _ (List.mem_of_getElem? (i := 7) (by decide +kernel))
theorem qcll_r9 : ∀ w ∈ qcll_w (8, 53, 0, 6), w ∈ lw_tbl := List.forall_mem_cons.mpr ⟨kw249, List.forall_mem_cons.mpr ⟨kw250, List.forall_mem_cons.mpr ⟨kw251, fun _ h => absurd h List.not_mem_nil⟩⟩⟩
theorem kw252 : Cond.classLink RX8 68 "SoftAsks$DayRun" ∈ lw_tbl := kin1 _ (List.mem_of_getElem? (i := 172) (by decide +kernel))
theorem kw253 : Cond.instantiable RX1 18 ∈ lw_tbl := kin1 _ (List.mem_of_getElem? (i := 173) (by decide +kernel))
theorem kw254 : Cond.initialized "SoftAsks$DayRun" ∈ lw_tbl := kin1 _ (List.mem_of_getElem? (i := 8) (by decide +kernel))
theorem qcll_r10 : ∀ w ∈ qcll_w (8, 68, 0, 1), w ∈ lw_tbl := List.forall_mem_cons.mpr ⟨kw252, List.forall_mem_cons.mpr ⟨kw253, List.forall_mem_cons.mpr ⟨kw254, fun _ h => absurd h List.not_mem_nil⟩⟩⟩
theorem kw255 : Cond.classLink RL 7 "SoftAsks" ∈ lw_tbl := kin1 _ (List.mem_of_getElem? (i := 15) (by decide +kernel))
theorem kw256 : Cond.instantiable RX8 14 ∈ lw_tbl := kin1 _ (List.mem_of_getElem? (i := 16) (by decide +kernel))
theorem kw257 : Cond.initialized "SoftAsks" ∈ lw_tbl := kin1 _ (List.mem_of_getElem? (i := 1) (by decide +kernel))
theorem qcll_r11 : ∀ w ∈ qcll_w (13, 7, 0, 8), w ∈ lw_tbl := List.forall_mem_cons.mpr ⟨kw255, List.forall_mem_cons.mpr ⟨kw256, List.forall_mem_cons.mpr ⟨kw257, fun _ h => absurd h List.not_mem_nil⟩⟩⟩
theorem kw258 : Cond.classLink RL 10 "SoftAsksModel" ∈ lw_tbl := kin4 _ (List.mem_of_getElem? (i := 48) (by decide +kernel))
theorem kw259 : Cond.instantiable RX9 69 ∈ lw_tbl := kin4 _ (List.mem_of_getElem? (i := 49) (by decide +kernel))
theorem kw260 : Cond.initialized "SoftAsksModel" ∈ lw_tbl := kin1 _ (List.mem_of_getElem? (i := 11) (by decide +kernel))
theorem qcll_r12 : ∀ w ∈ qcll_w (13, 10, 0, 9), w ∈ lw_tbl := List.forall_mem_cons.mpr ⟨kw258, List.forall_mem_cons.mpr ⟨kw259, List.forall_mem_cons.mpr ⟨kw260, fun _ h => absurd h List.not_mem_nil⟩⟩⟩
theorem qcll_ok0 : ∀ r ∈ qcll_0, ∀ w ∈ qcll_w r, w ∈ lw_tbl := List.forall_mem_cons.mpr ⟨qcll_r0, List.forall_mem_cons.mpr ⟨qcll_r1, List.forall_mem_cons.mpr ⟨qcll_r2, List.forall_mem_cons.mpr ⟨qcll_r3, List.forall_mem_cons.mpr ⟨qcll_r4, List.forall_mem_cons.mpr ⟨qcll_r5, List.forall_mem_cons.mpr ⟨qcll_r6, List.forall_mem_cons.mpr ⟨qcll_r7, List.forall_mem_cons.mpr ⟨qcll_r8, List.forall_mem_cons.mpr ⟨qcll_r9, List.forall_mem_cons.mpr ⟨qcll_r10, List.forall_mem_cons.mpr ⟨qcll_r11, List.forall_mem_cons.mpr ⟨qcll_r12, fun _ h => absurd h List.not_mem_nil⟩⟩⟩⟩⟩⟩⟩⟩⟩⟩⟩⟩⟩
theorem qcll_ok : ∀ r ∈ qcll, ∀ w ∈ qcll_w r, w ∈ lw_tbl := qcll_ok0
def qml_0 : List (Nat × Nat × Nat × Nat × Int) := [(0, 3, 0, 0, 6), (0, 18, 2, 0, 0), (0, 34, 3, 1, 0), (0, 38, 6, 2, 0), (0, 42, 0, 2, 8), (0, 48, 179, 1, 1), (1, 3, 0, 0, 6), (1, 39, 54, 0, 2), (1, 52, 34, 0, 5), (1, 57, 9, 0, 0), (1, 60, 10, 0, 0), (1, 64, 11, 1, 0), (1, 68, 15, 1, 0), (1, 71, 16, 1, 0), (1, 74, 17, 1, 0), (1, 77, 18, 1, 0), (1, 80, 20, 1, 0), (1, 83, 35, 0, 0), (1, 84, 182, 2, 1), (1, 121, 42, 1, 0), (1, 125, 12, 2, 0), (1, 129, 43, 0, 0), (1, 133, 13, 2, 0), (1, 146, 14, 3, 0), (1, 158, 5, 3, 0), (1, 164, 68, 2, 0), (1, 167, 40, 1, 0), (1, 171, 39, 1, 0), (1, 177, 0, 2, 8), (1, 183, 22, 2, 0)]
def qml_1 : List (Nat × Nat × Nat × Nat × Int) := [(1, 186, 21, 1, 0), (1, 189, 19, 3, 0), (1, 205, 41, 1, 0), (1, 208, 36, 1, 0), (1, 211, 23, 2, 0), (1, 214, 38, 1, 0), (1, 220, 24, 1, 0), (1, 227, 37, 0, 0), (1, 229, 57, 1, 0), (1, 232, 4, 2, 0), (1, 238, 25, 1, 0), (1, 244, 26, 1, 0), (1, 247, 28, 0, 0), (1, 250, 27, 0, 0), (1, 252, 101, 1, 4), (2, 3, 0, 0, 6), (2, 22, 0, 5, 7), (3, 3, 0, 0, 6), (3, 11, 0, 0, 5), (3, 28, 1, 0, 0), (3, 53, 39, 1, 0), (3, 60, 3, 1, 0), (3, 68, 101, 1, 4), (4, 3, 0, 0, 6), (4, 15, 0, 2, 8), (4, 31, 63, 0, 0), (4, 36, 48, 1, 0), (4, 43, 49, 1, 0), (4, 49, 50, 1, 0), (4, 55, 51, 1, 0)]
def qml_2 : List (Nat × Nat × Nat × Nat × Int) := [(4, 61, 52, 2, 0), (4, 73, 53, 2, 0), (5, 3, 0, 0, 6), (5, 15, 55, 0, 0), (5, 21, 0, 5, 7), (6, 3, 0, 0, 6), (7, 3, 0, 0, 6), (8, 1, 0, 0, 6), (8, 19, 46, 1, 2), (8, 28, 62, 0, 5), (8, 38, 54, 0, 2), (8, 48, 31, 0, 5), (8, 55, 59, 0, 5), (8, 70, 7, 1, 2), (8, 84, 47, 2, 0), (8, 88, 55, 0, 0), (8, 110, 58, 2, 1), (8, 114, 32, 2, 0), (8, 118, 64, 1, 0), (8, 122, 33, 1, 0), (8, 126, 65, 1, 0), (8, 129, 67, 2, 0), (8, 136, 8, 4, 0), (8, 140, 29, 2, 0), (8, 141, 66, 2, 0), (8, 147, 44, 1, 0), (8, 153, 30, 1, 0), (8, 156, 45, 2, 0), (8, 165, 93, 3, 0), (8, 169, 26, 1, 0)]
def qml_3 : List (Nat × Nat × Nat × Nat × Int) := [(8, 172, 27, 0, 0), (8, 180, 56, 1, 0), (8, 185, 94, 1, 0), (8, 188, 60, 2, 0), (8, 189, 61, 1, 0), (8, 193, 57, 1, 0), (8, 196, 179, 1, 1), (8, 201, 97, 3, 1), (8, 208, 100, 3, 1), (8, 212, 98, 2, 0), (8, 215, 99, 1, 0), (8, 218, 95, 2, 0), (8, 221, 96, 2, 0), (8, 231, 0, 1, 9), (9, 1, 0, 0, 6), (9, 158, 103, 0, 0), (9, 161, 109, 2, 1), (9, 175, 111, 1, 1), (9, 179, 112, 1, 1), (9, 183, 113, 2, 1), (9, 187, 114, 3, 1), (9, 193, 104, 3, 1), (9, 232, 119, 1, 0), (9, 236, 120, 1, 0), (9, 239, 121, 1, 0), (9, 242, 122, 1, 0), (9, 245, 123, 0, 0), (9, 261, 127, 2, 0), (9, 265, 128, 2, 0), (9, 268, 130, 2, 0)]
def qml_4 : List (Nat × Nat × Nat × Nat × Int) := [(9, 272, 132, 2, 0), (9, 275, 126, 1, 0), (9, 278, 105, 2, 1), (9, 281, 134, 1, 0), (9, 287, 133, 3, 0), (9, 294, 135, 1, 0), (9, 301, 138, 1, 0), (9, 304, 139, 2, 0), (9, 307, 115, 2, 1), (9, 310, 106, 1, 1), (9, 314, 137, 2, 0), (9, 317, 131, 1, 0), (9, 323, 140, 3, 0), (9, 327, 141, 3, 0), (9, 334, 136, 2, 0), (9, 337, 129, 1, 0), (9, 343, 116, 3, 1), (9, 349, 142, 1, 0), (9, 352, 143, 1, 0), (9, 355, 144, 1, 0), (9, 358, 145, 1, 0), (9, 361, 146, 1, 0), (9, 364, 147, 1, 0), (9, 367, 150, 0, 0), (9, 370, 148, 3, 0), (9, 382, 154, 2, 1), (9, 385, 155, 0, 0), (9, 388, 157, 1, 0), (9, 391, 158, 1, 0), (9, 394, 149, 1, 0)]
def qml_5 : List (Nat × Nat × Nat × Nat × Int) := [(9, 397, 151, 1, 0), (9, 400, 152, 1, 0), (9, 406, 165, 0, 0), (9, 411, 168, 1, 1), (9, 414, 167, 4, 0), (9, 418, 108, 1, 1), (9, 421, 110, 3, 1), (9, 426, 107, 2, 1), (13, 9, 69, 0, 2), (13, 12, 102, 0, 2), (13, 13, 70, 1, 0), (13, 17, 117, 1, 0), (13, 18, 71, 0, 0), (13, 22, 118, 0, 0), (13, 23, 72, 0, 0), (13, 26, 124, 0, 0), (13, 27, 73, 0, 0), (13, 30, 125, 0, 0), (13, 31, 74, 1, 0), (13, 34, 153, 1, 0), (13, 35, 75, 2, 0), (13, 39, 156, 2, 0), (13, 40, 76, 1, 0), (13, 43, 159, 1, 0), (13, 44, 77, 0, 0), (13, 47, 160, 0, 0), (13, 48, 78, 2, 0), (13, 51, 161, 2, 0), (13, 52, 79, 2, 0), (13, 55, 162, 2, 0)]
def qml_6 : List (Nat × Nat × Nat × Nat × Int) := [(13, 56, 80, 1, 0), (13, 59, 163, 1, 0), (13, 60, 81, 3, 0), (13, 64, 164, 3, 0), (13, 65, 82, 1, 0), (13, 68, 166, 1, 0), (13, 71, 83, 2, 0), (13, 75, 169, 2, 0), (13, 76, 84, 2, 0), (13, 79, 170, 2, 0), (13, 80, 85, 0, 0), (13, 83, 171, 0, 0), (13, 84, 86, 0, 0), (13, 87, 172, 0, 0), (13, 88, 87, 2, 0), (13, 92, 173, 2, 0), (13, 93, 88, 2, 0), (13, 96, 174, 2, 0), (13, 97, 89, 1, 0), (13, 101, 175, 1, 0), (13, 102, 90, 1, 0), (13, 105, 176, 1, 0), (13, 106, 91, 1, 0), (13, 109, 177, 1, 0), (13, 110, 92, 1, 0), (13, 113, 178, 1, 0)]
def qml : List (Nat × Nat × Nat × Nat × Int) := qml_0 ++ (qml_1 ++ (qml_2 ++ (qml_3 ++ (qml_4 ++ (qml_5 ++ (qml_6))))))
def qml_w (r : Nat × Nat × Nat × Nat × Int) : List Cond := if r.2.2.2.2 = 6 then [.methodLink (qos r.1) r.2.1 objectInit, .instanceMethod objectInit, .code objectInit ⟨#[0xb1]⟩ 1 none]
  else if r.2.2.2.2 = 7 then [.methodLink (qos r.1) r.2.1 arraycopyName, .native arraycopyName, .static arraycopyName, .initialized "java/lang/System"]
  else if r.2.2.2.2 = 8 then [.methodLink (qos r.1) r.2.1 yJ9_min_7cf53, .static yJ9_min_7cf53, .initialized "java/lang/Math", .code yJ9_min_7cf53 cJ9_min_7cf53 2 (some .int)]
  else if r.2.2.2.2 = 9 then [.methodLink (qos r.1) r.2.1 yJ9_abs_0f7a4, .static yJ9_abs_0f7a4, .initialized "java/lang/Math", .code yJ9_abs_0f7a4 cJ9_abs_0f7a4 1 (some .int)]
  else (if r.2.2.2.2 < 3 then Cond.methodLink (qos r.1) r.2.1 (qnm r.2.2.1) else Cond.methodLinkNest (qos r.1) r.2.1 (qnm r.2.2.1) RX8) ::
    ((if r.2.2.2.2 = 0 ∨ r.2.2.2.2 = 3 then [.instanceMethod (qnm r.2.2.1), .selects (qnm r.2.2.1).cls (qnm r.2.2.1) (qnm r.2.2.1)] else if r.2.2.2.2 = 1 ∨ r.2.2.2.2 = 4 then [.static (qnm r.2.2.1)] else [.instanceMethod (qnm r.2.2.1)]) ++ [.initialized (qnm r.2.2.1).cls, .code (qnm r.2.2.1) (qby r.2.2.1) (qmx r.2.2.1) (qrt r.2.2.1)])
theorem kw261 : Cond.methodLink RX0 3 objectInit ∈ lw_tbl := kin1 _ (List.mem_of_getElem? (i := 192) (by decide +kernel))
theorem kw262 : Cond.instanceMethod objectInit ∈ lw_tbl := kin1 _ (List.mem_of_getElem? (i := 21) (by decide +kernel))
theorem kw263 : Cond.code objectInit ⟨#[0xb1]⟩ 1 none ∈ lw_tbl := kin1 _ (List.mem_of_getElem? (i := 22) rfl)
theorem qml_r0 : ∀ w ∈ qml_w (0, 3, 0, 0, 6), w ∈ lw_tbl := List.forall_mem_cons.mpr ⟨kw261, List.forall_mem_cons.mpr ⟨kw262, List.forall_mem_cons.mpr ⟨kw263, fun _ h => absurd h List.not_mem_nil⟩⟩⟩
theorem kw264 : Cond.methodLink RX0 18 yX0_forget ∈ lw_tbl := kin2 _ (List.mem_of_getElem? (i := 234) (by decide +kernel))
theorem kw265 : Cond.instanceMethod yX0_forget ∈ lw_tbl := kin2 _ (List.mem_of_getElem? (i := 236) (by decide +kernel))
theorem kw266 : Cond.selects RX0 yX0_forget yX0_forget ∈ lw_tbl := kin0 _ (List.mem_of_getElem? (i := 7) (by decide +kernel))
theorem kw267 : Cond.code yX0_forget cX0_forget 1 none ∈ lw_tbl := kin2 _ (List.mem_of_getElem? (i := 237) rfl)
theorem qml_r1 : ∀ w ∈ qml_w (0, 18, 2, 0, 0), w ∈ lw_tbl := List.forall_mem_cons.mpr ⟨kw264, List.forall_mem_cons.mpr ⟨kw265, List.forall_mem_cons.mpr ⟨kw266, List.forall_mem_cons.mpr ⟨kw238, List.forall_mem_cons.mpr ⟨kw267, fun _ h => absurd h List.not_mem_nil⟩⟩⟩⟩⟩
theorem kw268 : Cond.methodLink RX0 34 yX0_stateAt ∈ lw_tbl := kin3 _ (List.mem_of_getElem? (i := 47) (by decide +kernel))
theorem kw269 : Cond.instanceMethod yX0_stateAt ∈ lw_tbl := kin3 _ (List.mem_of_getElem? (i := 48) (by decide +kernel))
theorem kw270 : Cond.selects RX0 yX0_stateAt yX0_stateAt ∈ lw_tbl := kin3 _ (List.mem_of_getElem? (i := 49) (by decide +kernel))
theorem kw271 : Cond.code yX0_stateAt cX0_stateAt 2 (some .int) ∈ lw_tbl := kin3 _ (List.mem_of_getElem? (i := 50) rfl)
theorem qml_r2 : ∀ w ∈ qml_w (0, 34, 3, 1, 0), w ∈ lw_tbl := List.forall_mem_cons.mpr ⟨kw268, List.forall_mem_cons.mpr ⟨kw269, List.forall_mem_cons.mpr ⟨kw270, List.forall_mem_cons.mpr ⟨kw238, List.forall_mem_cons.mpr ⟨kw271, fun _ h => absurd h List.not_mem_nil⟩⟩⟩⟩⟩
theorem kw272 : Cond.methodLink RX0 38 yX0_isTooBad ∈ lw_tbl := kin3 _ (List.mem_of_getElem? (i := 51) (by decide +kernel))
theorem kw273 : Cond.instanceMethod yX0_isTooBad ∈ lw_tbl := kin3 _ (List.mem_of_getElem? (i := 53) (by decide +kernel))
theorem kw274 : Cond.selects RX0 yX0_isTooBad yX0_isTooBad ∈ lw_tbl := kin0 _ (List.mem_of_getElem? (i := 13) (by decide +kernel))
theorem kw275 : Cond.code yX0_isTooBad cX0_isTooBad 3 (some .boolean) ∈ lw_tbl := kin3 _ (List.mem_of_getElem? (i := 54) rfl)
theorem qml_r3 : ∀ w ∈ qml_w (0, 38, 6, 2, 0), w ∈ lw_tbl := List.forall_mem_cons.mpr ⟨kw272, List.forall_mem_cons.mpr ⟨kw273, List.forall_mem_cons.mpr ⟨kw274, List.forall_mem_cons.mpr ⟨kw238, List.forall_mem_cons.mpr ⟨kw275, fun _ h => absurd h List.not_mem_nil⟩⟩⟩⟩⟩
theorem kw276 : Cond.methodLink RX0 42 yJ9_min_7cf53 ∈ lw_tbl := kin3 _ (List.mem_of_getElem? (i := 55) (by decide +kernel))
theorem kw277 : Cond.static yJ9_min_7cf53 ∈ lw_tbl := kin2 _ (List.mem_of_getElem? (i := 135) (by decide +kernel))
theorem kw278 : Cond.initialized "java/lang/Math" ∈ lw_tbl := kin1 _ (List.mem_of_getElem? (i := 12) (by decide +kernel))
theorem kw279 : Cond.code yJ9_min_7cf53 cJ9_min_7cf53 2 (some .int) ∈ lw_tbl := kin2 _ (List.mem_of_getElem? (i := 136) rfl)
theorem qml_r4 : ∀ w ∈ qml_w (0, 42, 0, 2, 8), w ∈ lw_tbl := List.forall_mem_cons.mpr ⟨kw276, List.forall_mem_cons.mpr ⟨kw277, List.forall_mem_cons.mpr ⟨kw278, List.forall_mem_cons.mpr ⟨kw279, fun _ h => absurd h List.not_mem_nil⟩⟩⟩⟩
theorem kw280 : Cond.methodLink RX0 48 yJ6_bitCount_0f7a4 ∈ lw_tbl := kin3 _ (List.mem_of_getElem? (i := 56) (by decide +kernel))
theorem kw281 : Cond.static yJ6_bitCount_0f7a4 ∈ lw_tbl := kin3 _ (List.mem_of_getElem? (i := 57) (by decide +kernel))
theorem kw282 : Cond.initialized "java/lang/Integer" ∈ lw_tbl := kin1 _ (List.mem_of_getElem? (i := 14) (by decide +kernel))
theorem kw283 : Cond.code yJ6_bitCount_0f7a4 cJ6_bitCount_0f7a4 1 (some .int) ∈ lw_tbl := kin3 _ (List.mem_of_getElem? (i := 58) rfl)
theorem qml_r5 : ∀ w ∈ qml_w (0, 48, 179, 1, 1), w ∈ lw_tbl := List.forall_mem_cons.mpr ⟨kw280, List.forall_mem_cons.mpr ⟨kw281, List.forall_mem_cons.mpr ⟨kw282, List.forall_mem_cons.mpr ⟨kw283, fun _ h => absurd h List.not_mem_nil⟩⟩⟩⟩
theorem kw284 : Cond.methodLink RX1 3 objectInit ∈ lw_tbl := kin1 _ (List.mem_of_getElem? (i := 177) (by decide +kernel))
theorem qml_r6 : ∀ w ∈ qml_w (1, 3, 0, 0, 6), w ∈ lw_tbl := List.forall_mem_cons.mpr ⟨kw284, List.forall_mem_cons.mpr ⟨kw262, List.forall_mem_cons.mpr ⟨kw263, fun _ h => absurd h List.not_mem_nil⟩⟩⟩
theorem kw285 : Cond.methodLink RX1 39 yX5_init ∈ lw_tbl := kin1 _ (List.mem_of_getElem? (i := 181) (by decide +kernel))
theorem kw286 : Cond.instanceMethod yX5_init ∈ lw_tbl := kin1 _ (List.mem_of_getElem? (i := 113) (by decide +kernel))
theorem kw287 : Cond.code yX5_init cX5_init 1 none ∈ lw_tbl := kin1 _ (List.mem_of_getElem? (i := 114) rfl)
theorem qml_r7 : ∀ w ∈ qml_w (1, 39, 54, 0, 2), w ∈ lw_tbl := List.forall_mem_cons.mpr ⟨kw285, List.forall_mem_cons.mpr ⟨kw286, List.forall_mem_cons.mpr ⟨kw235, List.forall_mem_cons.mpr ⟨kw287, fun _ h => absurd h List.not_mem_nil⟩⟩⟩⟩
theorem kw288 : Cond.methodLinkNest RX1 52 yX3_init "SoftAsks" ∈ lw_tbl := kin1 _ (List.mem_of_getElem? (i := 183) (by decide +kernel))
theorem kw289 : Cond.instanceMethod yX3_init ∈ lw_tbl := kin1 _ (List.mem_of_getElem? (i := 184) (by decide +kernel))
theorem kw290 : Cond.code yX3_init cX3_init 1 none ∈ lw_tbl := kin1 _ (List.mem_of_getElem? (i := 185) rfl)
theorem qml_r8 : ∀ w ∈ qml_w (1, 52, 34, 0, 5), w ∈ lw_tbl := List.forall_mem_cons.mpr ⟨kw288, List.forall_mem_cons.mpr ⟨kw289, List.forall_mem_cons.mpr ⟨kw232, List.forall_mem_cons.mpr ⟨kw290, fun _ h => absurd h List.not_mem_nil⟩⟩⟩⟩
theorem kw291 : Cond.methodLink RX1 57 yX1_start ∈ lw_tbl := kin2 _ (List.mem_of_getElem? (i := 222) (by decide +kernel))
theorem kw292 : Cond.instanceMethod yX1_start ∈ lw_tbl := kin2 _ (List.mem_of_getElem? (i := 224) (by decide +kernel))
theorem kw293 : Cond.selects RX1 yX1_start yX1_start ∈ lw_tbl := kin0 _ (List.mem_of_getElem? (i := 6) (by decide +kernel))
theorem kw294 : Cond.code yX1_start cX1_start 2 none ∈ lw_tbl := kin2 _ (List.mem_of_getElem? (i := 225) rfl)
theorem qml_r9 : ∀ w ∈ qml_w (1, 57, 9, 0, 0), w ∈ lw_tbl := List.forall_mem_cons.mpr ⟨kw291, List.forall_mem_cons.mpr ⟨kw292, List.forall_mem_cons.mpr ⟨kw293, List.forall_mem_cons.mpr ⟨kw254, List.forall_mem_cons.mpr ⟨kw294, fun _ h => absurd h List.not_mem_nil⟩⟩⟩⟩⟩
theorem kw295 : Cond.methodLink RX1 60 yX1_isOver ∈ lw_tbl := kin3 _ (List.mem_of_getElem? (i := 2) (by decide +kernel))
theorem kw296 : Cond.instanceMethod yX1_isOver ∈ lw_tbl := kin3 _ (List.mem_of_getElem? (i := 4) (by decide +kernel))
theorem kw297 : Cond.selects RX1 yX1_isOver yX1_isOver ∈ lw_tbl := kin0 _ (List.mem_of_getElem? (i := 8) (by decide +kernel))
theorem kw298 : Cond.code yX1_isOver cX1_isOver 1 (some .boolean) ∈ lw_tbl := kin3 _ (List.mem_of_getElem? (i := 5) rfl)
theorem qml_r10 : ∀ w ∈ qml_w (1, 60, 10, 0, 0), w ∈ lw_tbl := List.forall_mem_cons.mpr ⟨kw295, List.forall_mem_cons.mpr ⟨kw296, List.forall_mem_cons.mpr ⟨kw297, List.forall_mem_cons.mpr ⟨kw254, List.forall_mem_cons.mpr ⟨kw298, fun _ h => absurd h List.not_mem_nil⟩⟩⟩⟩⟩
theorem kw299 : Cond.methodLink RX1 64 yX1_endWorks ∈ lw_tbl := kin3 _ (List.mem_of_getElem? (i := 6) (by decide +kernel))
theorem kw300 : Cond.instanceMethod yX1_endWorks ∈ lw_tbl := kin3 _ (List.mem_of_getElem? (i := 8) (by decide +kernel))
theorem kw301 : Cond.selects RX1 yX1_endWorks yX1_endWorks ∈ lw_tbl := kin0 _ (List.mem_of_getElem? (i := 9) (by decide +kernel))
theorem kw302 : Cond.code yX1_endWorks cX1_endWorks 4 none ∈ lw_tbl := kin3 _ (List.mem_of_getElem? (i := 9) rfl)
theorem qml_r11 : ∀ w ∈ qml_w (1, 64, 11, 1, 0), w ∈ lw_tbl := List.forall_mem_cons.mpr ⟨kw299, List.forall_mem_cons.mpr ⟨kw300, List.forall_mem_cons.mpr ⟨kw301, List.forall_mem_cons.mpr ⟨kw254, List.forall_mem_cons.mpr ⟨kw302, fun _ h => absurd h List.not_mem_nil⟩⟩⟩⟩⟩
theorem kw303 : Cond.methodLink RX1 68 yX1_endLate ∈ lw_tbl := kin3 _ (List.mem_of_getElem? (i := 64) (by decide +kernel))
theorem kw304 : Cond.instanceMethod yX1_endLate ∈ lw_tbl := kin3 _ (List.mem_of_getElem? (i := 66) (by decide +kernel))
theorem kw305 : Cond.selects RX1 yX1_endLate yX1_endLate ∈ lw_tbl := kin0 _ (List.mem_of_getElem? (i := 14) (by decide +kernel))
theorem kw306 : Cond.code yX1_endLate cX1_endLate 3 none ∈ lw_tbl := kin3 _ (List.mem_of_getElem? (i := 67) rfl)
theorem qml_r12 : ∀ w ∈ qml_w (1, 68, 15, 1, 0), w ∈ lw_tbl := List.forall_mem_cons.mpr ⟨kw303, List.forall_mem_cons.mpr ⟨kw304, List.forall_mem_cons.mpr ⟨kw305, List.forall_mem_cons.mpr ⟨kw254, List.forall_mem_cons.mpr ⟨kw306, fun _ h => absurd h List.not_mem_nil⟩⟩⟩⟩⟩
theorem kw307 : Cond.methodLink RX1 71 yX1_letCome ∈ lw_tbl := kin3 _ (List.mem_of_getElem? (i := 68) (by decide +kernel))
theorem kw308 : Cond.instanceMethod yX1_letCome ∈ lw_tbl := kin3 _ (List.mem_of_getElem? (i := 70) (by decide +kernel))
theorem kw309 : Cond.selects RX1 yX1_letCome yX1_letCome ∈ lw_tbl := kin0 _ (List.mem_of_getElem? (i := 15) (by decide +kernel))
theorem kw310 : Cond.code yX1_letCome cX1_letCome 3 none ∈ lw_tbl := kin3 _ (List.mem_of_getElem? (i := 71) rfl)
theorem qml_r13 : ∀ w ∈ qml_w (1, 71, 16, 1, 0), w ∈ lw_tbl := List.forall_mem_cons.mpr ⟨kw307, List.forall_mem_cons.mpr ⟨kw308, List.forall_mem_cons.mpr ⟨kw309, List.forall_mem_cons.mpr ⟨kw254, List.forall_mem_cons.mpr ⟨kw310, fun _ h => absurd h List.not_mem_nil⟩⟩⟩⟩⟩
theorem kw311 : Cond.methodLink RX1 74 yX1_sendAgain ∈ lw_tbl := kin3 _ (List.mem_of_getElem? (i := 109) (by decide +kernel))
theorem kw312 : Cond.instanceMethod yX1_sendAgain ∈ lw_tbl := kin3 _ (List.mem_of_getElem? (i := 111) (by decide +kernel))
theorem kw313 : Cond.selects RX1 yX1_sendAgain yX1_sendAgain ∈ lw_tbl := kin0 _ (List.mem_of_getElem? (i := 20) (by decide +kernel))
theorem kw314 : Cond.code yX1_sendAgain cX1_sendAgain 3 none ∈ lw_tbl := kin3 _ (List.mem_of_getElem? (i := 112) rfl)
theorem qml_r14 : ∀ w ∈ qml_w (1, 74, 17, 1, 0), w ∈ lw_tbl := List.forall_mem_cons.mpr ⟨kw311, List.forall_mem_cons.mpr ⟨kw312, List.forall_mem_cons.mpr ⟨kw313, List.forall_mem_cons.mpr ⟨kw254, List.forall_mem_cons.mpr ⟨kw314, fun _ h => absurd h List.not_mem_nil⟩⟩⟩⟩⟩
theorem kw315 : Cond.methodLink RX1 77 yX1_sendHedges ∈ lw_tbl := kin3 _ (List.mem_of_getElem? (i := 117) (by decide +kernel))
theorem kw316 : Cond.instanceMethod yX1_sendHedges ∈ lw_tbl := kin3 _ (List.mem_of_getElem? (i := 119) (by decide +kernel))
theorem kw317 : Cond.selects RX1 yX1_sendHedges yX1_sendHedges ∈ lw_tbl := kin0 _ (List.mem_of_getElem? (i := 22) (by decide +kernel))
theorem kw318 : Cond.code yX1_sendHedges cX1_sendHedges 4 none ∈ lw_tbl := kin3 _ (List.mem_of_getElem? (i := 120) rfl)
theorem qml_r15 : ∀ w ∈ qml_w (1, 77, 18, 1, 0), w ∈ lw_tbl := List.forall_mem_cons.mpr ⟨kw315, List.forall_mem_cons.mpr ⟨kw316, List.forall_mem_cons.mpr ⟨kw317, List.forall_mem_cons.mpr ⟨kw254, List.forall_mem_cons.mpr ⟨kw318, fun _ h => absurd h List.not_mem_nil⟩⟩⟩⟩⟩
theorem kw319 : Cond.methodLink RX1 80 yX1_beginWorks ∈ lw_tbl := kin3 _ (List.mem_of_getElem? (i := 125) (by decide +kernel))
theorem kw320 : Cond.instanceMethod yX1_beginWorks ∈ lw_tbl := kin3 _ (List.mem_of_getElem? (i := 127) (by decide +kernel))
theorem kw321 : Cond.selects RX1 yX1_beginWorks yX1_beginWorks ∈ lw_tbl := kin0 _ (List.mem_of_getElem? (i := 24) (by decide +kernel))
theorem kw322 : Cond.code yX1_beginWorks cX1_beginWorks 5 none ∈ lw_tbl := kin3 _ (List.mem_of_getElem? (i := 128) rfl)
theorem qml_r16 : ∀ w ∈ qml_w (1, 80, 20, 1, 0), w ∈ lw_tbl := List.forall_mem_cons.mpr ⟨kw319, List.forall_mem_cons.mpr ⟨kw320, List.forall_mem_cons.mpr ⟨kw321, List.forall_mem_cons.mpr ⟨kw254, List.forall_mem_cons.mpr ⟨kw322, fun _ h => absurd h List.not_mem_nil⟩⟩⟩⟩⟩
theorem kw323 : Cond.methodLink RX1 83 yX3_start ∈ lw_tbl := kin2 _ (List.mem_of_getElem? (i := 226) (by decide +kernel))
theorem kw324 : Cond.instanceMethod yX3_start ∈ lw_tbl := kin2 _ (List.mem_of_getElem? (i := 227) (by decide +kernel))
theorem kw325 : Cond.selects RX3 yX3_start yX3_start ∈ lw_tbl := kin2 _ (List.mem_of_getElem? (i := 228) (by decide +kernel))
theorem kw326 : Cond.code yX3_start cX3_start 1 none ∈ lw_tbl := kin2 _ (List.mem_of_getElem? (i := 229) rfl)
theorem qml_r17 : ∀ w ∈ qml_w (1, 83, 35, 0, 0), w ∈ lw_tbl := List.forall_mem_cons.mpr ⟨kw323, List.forall_mem_cons.mpr ⟨kw324, List.forall_mem_cons.mpr ⟨kw325, List.forall_mem_cons.mpr ⟨kw232, List.forall_mem_cons.mpr ⟨kw326, fun _ h => absurd h List.not_mem_nil⟩⟩⟩⟩⟩
theorem kw327 : Cond.methodLink RX1 84 yJ7_fill_53178 ∈ lw_tbl := kin2 _ (List.mem_of_getElem? (i := 238) (by decide +kernel))
theorem kw328 : Cond.static yJ7_fill_53178 ∈ lw_tbl := kin2 _ (List.mem_of_getElem? (i := 239) (by decide +kernel))
theorem kw329 : Cond.initialized "java/util/Arrays" ∈ lw_tbl := kin1 _ (List.mem_of_getElem? (i := 13) (by decide +kernel))
theorem kw330 : Cond.code yJ7_fill_53178 cJ7_fill_53178 4 none ∈ lw_tbl := kin3 _ (List.mem_of_getElem? (i := 0) rfl)
theorem qml_r18 : ∀ w ∈ qml_w (1, 84, 182, 2, 1), w ∈ lw_tbl := List.forall_mem_cons.mpr ⟨kw327, List.forall_mem_cons.mpr ⟨kw328, List.forall_mem_cons.mpr ⟨kw329, List.forall_mem_cons.mpr ⟨kw330, fun _ h => absurd h List.not_mem_nil⟩⟩⟩⟩
theorem kw331 : Cond.methodLink RX1 121 yX3_endsFirstAt ∈ lw_tbl := kin3 _ (List.mem_of_getElem? (i := 10) (by decide +kernel))
theorem kw332 : Cond.instanceMethod yX3_endsFirstAt ∈ lw_tbl := kin3 _ (List.mem_of_getElem? (i := 11) (by decide +kernel))
theorem kw333 : Cond.selects RX3 yX3_endsFirstAt yX3_endsFirstAt ∈ lw_tbl := kin3 _ (List.mem_of_getElem? (i := 12) (by decide +kernel))
theorem kw334 : Cond.code yX3_endsFirstAt cX3_endsFirstAt 2 (some .boolean) ∈ lw_tbl := kin3 _ (List.mem_of_getElem? (i := 13) rfl)
theorem qml_r19 : ∀ w ∈ qml_w (1, 121, 42, 1, 0), w ∈ lw_tbl := List.forall_mem_cons.mpr ⟨kw331, List.forall_mem_cons.mpr ⟨kw332, List.forall_mem_cons.mpr ⟨kw333, List.forall_mem_cons.mpr ⟨kw232, List.forall_mem_cons.mpr ⟨kw334, fun _ h => absurd h List.not_mem_nil⟩⟩⟩⟩⟩
theorem kw335 : Cond.methodLink RX1 125 yX1_endWork ∈ lw_tbl := kin3 _ (List.mem_of_getElem? (i := 14) (by decide +kernel))
theorem kw336 : Cond.instanceMethod yX1_endWork ∈ lw_tbl := kin3 _ (List.mem_of_getElem? (i := 16) (by decide +kernel))
theorem kw337 : Cond.selects RX1 yX1_endWork yX1_endWork ∈ lw_tbl := kin0 _ (List.mem_of_getElem? (i := 10) (by decide +kernel))
theorem kw338 : Cond.code yX1_endWork cX1_endWork 6 none ∈ lw_tbl := kin3 _ (List.mem_of_getElem? (i := 17) rfl)
theorem qml_r20 : ∀ w ∈ qml_w (1, 125, 12, 2, 0), w ∈ lw_tbl := List.forall_mem_cons.mpr ⟨kw335, List.forall_mem_cons.mpr ⟨kw336, List.forall_mem_cons.mpr ⟨kw337, List.forall_mem_cons.mpr ⟨kw254, List.forall_mem_cons.mpr ⟨kw338, fun _ h => absurd h List.not_mem_nil⟩⟩⟩⟩⟩
theorem kw339 : Cond.methodLink RX1 129 yX3_endFirst ∈ lw_tbl := kin3 _ (List.mem_of_getElem? (i := 18) (by decide +kernel))
theorem kw340 : Cond.instanceMethod yX3_endFirst ∈ lw_tbl := kin3 _ (List.mem_of_getElem? (i := 19) (by decide +kernel))
theorem kw341 : Cond.selects RX3 yX3_endFirst yX3_endFirst ∈ lw_tbl := kin3 _ (List.mem_of_getElem? (i := 20) (by decide +kernel))
theorem kw342 : Cond.code yX3_endFirst cX3_endFirst 3 (some .int) ∈ lw_tbl := kin3 _ (List.mem_of_getElem? (i := 21) rfl)
theorem qml_r21 : ∀ w ∈ qml_w (1, 129, 43, 0, 0), w ∈ lw_tbl := List.forall_mem_cons.mpr ⟨kw339, List.forall_mem_cons.mpr ⟨kw340, List.forall_mem_cons.mpr ⟨kw341, List.forall_mem_cons.mpr ⟨kw232, List.forall_mem_cons.mpr ⟨kw342, fun _ h => absurd h List.not_mem_nil⟩⟩⟩⟩⟩
theorem kw343 : Cond.methodLink RX1 133 yX1_isSpoilt ∈ lw_tbl := kin3 _ (List.mem_of_getElem? (i := 22) (by decide +kernel))
theorem kw344 : Cond.instanceMethod yX1_isSpoilt ∈ lw_tbl := kin3 _ (List.mem_of_getElem? (i := 24) (by decide +kernel))
theorem kw345 : Cond.selects RX1 yX1_isSpoilt yX1_isSpoilt ∈ lw_tbl := kin0 _ (List.mem_of_getElem? (i := 11) (by decide +kernel))
theorem kw346 : Cond.code yX1_isSpoilt cX1_isSpoilt 3 (some .boolean) ∈ lw_tbl := kin3 _ (List.mem_of_getElem? (i := 25) rfl)
theorem qml_r22 : ∀ w ∈ qml_w (1, 133, 13, 2, 0), w ∈ lw_tbl := List.forall_mem_cons.mpr ⟨kw343, List.forall_mem_cons.mpr ⟨kw344, List.forall_mem_cons.mpr ⟨kw345, List.forall_mem_cons.mpr ⟨kw254, List.forall_mem_cons.mpr ⟨kw346, fun _ h => absurd h List.not_mem_nil⟩⟩⟩⟩⟩
theorem kw347 : Cond.methodLink RX1 146 yX1_endAsk ∈ lw_tbl := kin3 _ (List.mem_of_getElem? (i := 30) (by decide +kernel))
theorem kw348 : Cond.instanceMethod yX1_endAsk ∈ lw_tbl := kin3 _ (List.mem_of_getElem? (i := 32) (by decide +kernel))
theorem kw349 : Cond.selects RX1 yX1_endAsk yX1_endAsk ∈ lw_tbl := kin0 _ (List.mem_of_getElem? (i := 12) (by decide +kernel))
theorem kw350 : Cond.code yX1_endAsk cX1_endAsk 5 none ∈ lw_tbl := kin3 _ (List.mem_of_getElem? (i := 33) rfl)
theorem qml_r23 : ∀ w ∈ qml_w (1, 146, 14, 3, 0), w ∈ lw_tbl := List.forall_mem_cons.mpr ⟨kw347, List.forall_mem_cons.mpr ⟨kw348, List.forall_mem_cons.mpr ⟨kw349, List.forall_mem_cons.mpr ⟨kw254, List.forall_mem_cons.mpr ⟨kw350, fun _ h => absurd h List.not_mem_nil⟩⟩⟩⟩⟩
theorem kw351 : Cond.methodLink RX1 158 yX0_note ∈ lw_tbl := kin3 _ (List.mem_of_getElem? (i := 43) (by decide +kernel))
theorem kw352 : Cond.instanceMethod yX0_note ∈ lw_tbl := kin3 _ (List.mem_of_getElem? (i := 44) (by decide +kernel))
theorem kw353 : Cond.selects RX0 yX0_note yX0_note ∈ lw_tbl := kin3 _ (List.mem_of_getElem? (i := 45) (by decide +kernel))
theorem kw354 : Cond.code yX0_note cX0_note 5 none ∈ lw_tbl := kin3 _ (List.mem_of_getElem? (i := 46) rfl)
theorem qml_r24 : ∀ w ∈ qml_w (1, 158, 5, 3, 0), w ∈ lw_tbl := List.forall_mem_cons.mpr ⟨kw351, List.forall_mem_cons.mpr ⟨kw352, List.forall_mem_cons.mpr ⟨kw353, List.forall_mem_cons.mpr ⟨kw238, List.forall_mem_cons.mpr ⟨kw354, fun _ h => absurd h List.not_mem_nil⟩⟩⟩⟩⟩
theorem kw355 : Cond.methodLink RX1 164 yX7_inSpan ∈ lw_tbl := kin3 _ (List.mem_of_getElem? (i := 26) (by decide +kernel))
theorem kw356 : Cond.instanceMethod yX7_inSpan ∈ lw_tbl := kin3 _ (List.mem_of_getElem? (i := 27) (by decide +kernel))
theorem kw357 : Cond.selects RX7 yX7_inSpan yX7_inSpan ∈ lw_tbl := kin3 _ (List.mem_of_getElem? (i := 28) (by decide +kernel))
theorem kw358 : Cond.code yX7_inSpan cX7_inSpan 4 (some .boolean) ∈ lw_tbl := kin3 _ (List.mem_of_getElem? (i := 29) rfl)
theorem qml_r25 : ∀ w ∈ qml_w (1, 164, 68, 2, 0), w ∈ lw_tbl := List.forall_mem_cons.mpr ⟨kw355, List.forall_mem_cons.mpr ⟨kw356, List.forall_mem_cons.mpr ⟨kw357, List.forall_mem_cons.mpr ⟨kw244, List.forall_mem_cons.mpr ⟨kw358, fun _ h => absurd h List.not_mem_nil⟩⟩⟩⟩⟩
theorem kw359 : Cond.methodLink RX1 167 yX3_placeOf ∈ lw_tbl := kin3 _ (List.mem_of_getElem? (i := 34) (by decide +kernel))
theorem kw360 : Cond.instanceMethod yX3_placeOf ∈ lw_tbl := kin3 _ (List.mem_of_getElem? (i := 35) (by decide +kernel))
theorem kw361 : Cond.selects RX3 yX3_placeOf yX3_placeOf ∈ lw_tbl := kin3 _ (List.mem_of_getElem? (i := 36) (by decide +kernel))
theorem kw362 : Cond.code yX3_placeOf cX3_placeOf 3 (some .int) ∈ lw_tbl := kin3 _ (List.mem_of_getElem? (i := 37) rfl)
theorem qml_r26 : ∀ w ∈ qml_w (1, 167, 40, 1, 0), w ∈ lw_tbl := List.forall_mem_cons.mpr ⟨kw359, List.forall_mem_cons.mpr ⟨kw360, List.forall_mem_cons.mpr ⟨kw361, List.forall_mem_cons.mpr ⟨kw232, List.forall_mem_cons.mpr ⟨kw362, fun _ h => absurd h List.not_mem_nil⟩⟩⟩⟩⟩
theorem kw363 : Cond.methodLink RX1 171 yX3_dropAt ∈ lw_tbl := kin3 _ (List.mem_of_getElem? (i := 38) (by decide +kernel))
theorem kw364 : Cond.instanceMethod yX3_dropAt ∈ lw_tbl := kin3 _ (List.mem_of_getElem? (i := 39) (by decide +kernel))
theorem kw365 : Cond.selects RX3 yX3_dropAt yX3_dropAt ∈ lw_tbl := kin3 _ (List.mem_of_getElem? (i := 40) (by decide +kernel))
theorem kw366 : Cond.code yX3_dropAt cX3_dropAt 3 none ∈ lw_tbl := kin3 _ (List.mem_of_getElem? (i := 41) rfl)
theorem qml_r27 : ∀ w ∈ qml_w (1, 171, 39, 1, 0), w ∈ lw_tbl := List.forall_mem_cons.mpr ⟨kw363, List.forall_mem_cons.mpr ⟨kw364, List.forall_mem_cons.mpr ⟨kw365, List.forall_mem_cons.mpr ⟨kw232, List.forall_mem_cons.mpr ⟨kw366, fun _ h => absurd h List.not_mem_nil⟩⟩⟩⟩⟩
theorem kw367 : Cond.methodLink RX1 177 yJ9_min_7cf53 ∈ lw_tbl := kin3 _ (List.mem_of_getElem? (i := 72) (by decide +kernel))
theorem qml_r28 : ∀ w ∈ qml_w (1, 177, 0, 2, 8), w ∈ lw_tbl := List.forall_mem_cons.mpr ⟨kw367, List.forall_mem_cons.mpr ⟨kw277, List.forall_mem_cons.mpr ⟨kw278, List.forall_mem_cons.mpr ⟨kw279, fun _ h => absurd h List.not_mem_nil⟩⟩⟩⟩
theorem kw368 : Cond.methodLink RX1 183 yX1_send ∈ lw_tbl := kin3 _ (List.mem_of_getElem? (i := 73) (by decide +kernel))
theorem kw369 : Cond.instanceMethod yX1_send ∈ lw_tbl := kin3 _ (List.mem_of_getElem? (i := 75) (by decide +kernel))
theorem kw370 : Cond.selects RX1 yX1_send yX1_send ∈ lw_tbl := kin0 _ (List.mem_of_getElem? (i := 16) (by decide +kernel))
theorem kw371 : Cond.code yX1_send cX1_send 5 none ∈ lw_tbl := kin3 _ (List.mem_of_getElem? (i := 76) rfl)
theorem qml_r29 : ∀ w ∈ qml_w (1, 183, 22, 2, 0), w ∈ lw_tbl := List.forall_mem_cons.mpr ⟨kw368, List.forall_mem_cons.mpr ⟨kw369, List.forall_mem_cons.mpr ⟨kw370, List.forall_mem_cons.mpr ⟨kw254, List.forall_mem_cons.mpr ⟨kw371, fun _ h => absurd h List.not_mem_nil⟩⟩⟩⟩⟩
theorem qml_ok0 : ∀ r ∈ qml_0, ∀ w ∈ qml_w r, w ∈ lw_tbl := List.forall_mem_cons.mpr ⟨qml_r0, List.forall_mem_cons.mpr ⟨qml_r1, List.forall_mem_cons.mpr ⟨qml_r2, List.forall_mem_cons.mpr ⟨qml_r3, List.forall_mem_cons.mpr ⟨qml_r4, List.forall_mem_cons.mpr ⟨qml_r5, List.forall_mem_cons.mpr ⟨qml_r6, List.forall_mem_cons.mpr ⟨qml_r7, List.forall_mem_cons.mpr ⟨qml_r8, List.forall_mem_cons.mpr ⟨qml_r9, List.forall_mem_cons.mpr ⟨qml_r10, List.forall_mem_cons.mpr ⟨qml_r11, List.forall_mem_cons.mpr ⟨qml_r12, List.forall_mem_cons.mpr ⟨qml_r13, List.forall_mem_cons.mpr ⟨qml_r14, List.forall_mem_cons.mpr ⟨qml_r15, List.forall_mem_cons.mpr ⟨qml_r16, List.forall_mem_cons.mpr ⟨qml_r17, List.forall_mem_cons.mpr ⟨qml_r18, List.forall_mem_cons.mpr ⟨qml_r19, List.forall_mem_cons.mpr ⟨qml_r20, List.forall_mem_cons.mpr ⟨qml_r21, List.forall_mem_cons.mpr ⟨qml_r22, List.forall_mem_cons.mpr ⟨qml_r23, List.forall_mem_cons.mpr ⟨qml_r24, List.forall_mem_cons.mpr ⟨qml_r25, List.forall_mem_cons.mpr ⟨qml_r26, List.forall_mem_cons.mpr ⟨qml_r27, List.forall_mem_cons.mpr ⟨qml_r28, List.forall_mem_cons.mpr ⟨qml_r29, fun _ h => absurd h List.not_mem_nil⟩⟩⟩⟩⟩⟩⟩⟩⟩⟩⟩⟩⟩⟩⟩⟩⟩⟩⟩⟩⟩⟩⟩⟩⟩⟩⟩⟩⟩⟩
theorem kw372 : Cond.methodLink RX1 186 yX1_copies ∈ lw_tbl := kin3 _ (List.mem_of_getElem? (i := 113) (by decide +kernel))
theorem kw373 : Cond.instanceMethod yX1_copies ∈ lw_tbl := kin3 _ (List.mem_of_getElem? (i := 115) (by decide +kernel))
theorem kw374 : Cond.selects RX1 yX1_copies yX1_copies ∈ lw_tbl := kin0 _ (List.mem_of_getElem? (i := 21) (by decide +kernel))
theorem kw375 : Cond.code yX1_copies cX1_copies 4 (some .int) ∈ lw_tbl := kin3 _ (List.mem_of_getElem? (i := 116) rfl)
theorem qml_r30 : ∀ w ∈ qml_w (1, 186, 21, 1, 0), w ∈ lw_tbl := List.forall_mem_cons.mpr ⟨kw372, List.forall_mem_cons.mpr ⟨kw373, List.forall_mem_cons.mpr ⟨kw374, List.forall_mem_cons.mpr ⟨kw254, List.forall_mem_cons.mpr ⟨kw375, fun _ h => absurd h List.not_mem_nil⟩⟩⟩⟩⟩
theorem kw376 : Cond.methodLink RX1 189 yX1_isToHedge ∈ lw_tbl := kin3 _ (List.mem_of_getElem? (i := 121) (by decide +kernel))
theorem kw377 : Cond.instanceMethod yX1_isToHedge ∈ lw_tbl := kin3 _ (List.mem_of_getElem? (i := 123) (by decide +kernel))
theorem kw378 : Cond.selects RX1 yX1_isToHedge yX1_isToHedge ∈ lw_tbl := kin0 _ (List.mem_of_getElem? (i := 23) (by decide +kernel))
theorem kw379 : Cond.code yX1_isToHedge cX1_isToHedge 4 (some .boolean) ∈ lw_tbl := kin3 _ (List.mem_of_getElem? (i := 124) rfl)
theorem qml_r31 : ∀ w ∈ qml_w (1, 189, 19, 3, 0), w ∈ lw_tbl := List.forall_mem_cons.mpr ⟨kw376, List.forall_mem_cons.mpr ⟨kw377, List.forall_mem_cons.mpr ⟨kw378, List.forall_mem_cons.mpr ⟨kw254, List.forall_mem_cons.mpr ⟨kw379, fun _ h => absurd h List.not_mem_nil⟩⟩⟩⟩⟩
theorem kw380 : Cond.methodLink RX1 205 yX3_beginFirst ∈ lw_tbl := kin3 _ (List.mem_of_getElem? (i := 129) (by decide +kernel))
theorem kw381 : Cond.instanceMethod yX3_beginFirst ∈ lw_tbl := kin3 _ (List.mem_of_getElem? (i := 130) (by decide +kernel))
theorem kw382 : Cond.selects RX3 yX3_beginFirst yX3_beginFirst ∈ lw_tbl := kin3 _ (List.mem_of_getElem? (i := 131) (by decide +kernel))
theorem kw383 : Cond.code yX3_beginFirst cX3_beginFirst 3 none ∈ lw_tbl := kin3 _ (List.mem_of_getElem? (i := 132) rfl)
theorem qml_r32 : ∀ w ∈ qml_w (1, 205, 41, 1, 0), w ∈ lw_tbl := List.forall_mem_cons.mpr ⟨kw380, List.forall_mem_cons.mpr ⟨kw381, List.forall_mem_cons.mpr ⟨kw382, List.forall_mem_cons.mpr ⟨kw232, List.forall_mem_cons.mpr ⟨kw383, fun _ h => absurd h List.not_mem_nil⟩⟩⟩⟩⟩
theorem kw384 : Cond.methodLink RX1 208 yX3_holdsCopy ∈ lw_tbl := kin3 _ (List.mem_of_getElem? (i := 89) (by decide +kernel))
theorem kw385 : Cond.instanceMethod yX3_holdsCopy ∈ lw_tbl := kin3 _ (List.mem_of_getElem? (i := 90) (by decide +kernel))
theorem kw386 : Cond.selects RX3 yX3_holdsCopy yX3_holdsCopy ∈ lw_tbl := kin3 _ (List.mem_of_getElem? (i := 91) (by decide +kernel))
theorem kw387 : Cond.code yX3_holdsCopy cX3_holdsCopy 2 (some .boolean) ∈ lw_tbl := kin3 _ (List.mem_of_getElem? (i := 92) rfl)
theorem qml_r33 : ∀ w ∈ qml_w (1, 208, 36, 1, 0), w ∈ lw_tbl := List.forall_mem_cons.mpr ⟨kw384, List.forall_mem_cons.mpr ⟨kw385, List.forall_mem_cons.mpr ⟨kw386, List.forall_mem_cons.mpr ⟨kw232, List.forall_mem_cons.mpr ⟨kw387, fun _ h => absurd h List.not_mem_nil⟩⟩⟩⟩⟩
theorem kw388 : Cond.methodLink RX1 211 yX1_hostFor ∈ lw_tbl := kin3 _ (List.mem_of_getElem? (i := 77) (by decide +kernel))
theorem kw389 : Cond.instanceMethod yX1_hostFor ∈ lw_tbl := kin3 _ (List.mem_of_getElem? (i := 79) (by decide +kernel))
theorem kw390 : Cond.selects RX1 yX1_hostFor yX1_hostFor ∈ lw_tbl := kin0 _ (List.mem_of_getElem? (i := 17) (by decide +kernel))
theorem kw391 : Cond.code yX1_hostFor cX1_hostFor 9 (some .int) ∈ lw_tbl := kin3 _ (List.mem_of_getElem? (i := 80) rfl)
theorem qml_r34 : ∀ w ∈ qml_w (1, 211, 23, 2, 0), w ∈ lw_tbl := List.forall_mem_cons.mpr ⟨kw388, List.forall_mem_cons.mpr ⟨kw389, List.forall_mem_cons.mpr ⟨kw390, List.forall_mem_cons.mpr ⟨kw254, List.forall_mem_cons.mpr ⟨kw391, fun _ h => absurd h List.not_mem_nil⟩⟩⟩⟩⟩
theorem kw392 : Cond.methodLink RX1 214 yX3_queue ∈ lw_tbl := kin3 _ (List.mem_of_getElem? (i := 97) (by decide +kernel))
theorem kw393 : Cond.instanceMethod yX3_queue ∈ lw_tbl := kin3 _ (List.mem_of_getElem? (i := 98) (by decide +kernel))
theorem kw394 : Cond.selects RX3 yX3_queue yX3_queue ∈ lw_tbl := kin3 _ (List.mem_of_getElem? (i := 99) (by decide +kernel))
theorem kw395 : Cond.code yX3_queue cX3_queue 2 none ∈ lw_tbl := kin3 _ (List.mem_of_getElem? (i := 100) rfl)
theorem qml_r35 : ∀ w ∈ qml_w (1, 214, 38, 1, 0), w ∈ lw_tbl := List.forall_mem_cons.mpr ⟨kw392, List.forall_mem_cons.mpr ⟨kw393, List.forall_mem_cons.mpr ⟨kw394, List.forall_mem_cons.mpr ⟨kw232, List.forall_mem_cons.mpr ⟨kw395, fun _ h => absurd h List.not_mem_nil⟩⟩⟩⟩⟩
theorem kw396 : Cond.methodLink RX1 220 yX1_placeToShed ∈ lw_tbl := kin3 _ (List.mem_of_getElem? (i := 101) (by decide +kernel))
theorem kw397 : Cond.instanceMethod yX1_placeToShed ∈ lw_tbl := kin3 _ (List.mem_of_getElem? (i := 103) (by decide +kernel))
theorem kw398 : Cond.selects RX1 yX1_placeToShed yX1_placeToShed ∈ lw_tbl := kin0 _ (List.mem_of_getElem? (i := 18) (by decide +kernel))
theorem kw399 : Cond.code yX1_placeToShed cX1_placeToShed 4 (some .int) ∈ lw_tbl := kin3 _ (List.mem_of_getElem? (i := 104) rfl)
theorem qml_r36 : ∀ w ∈ qml_w (1, 220, 24, 1, 0), w ∈ lw_tbl := List.forall_mem_cons.mpr ⟨kw396, List.forall_mem_cons.mpr ⟨kw397, List.forall_mem_cons.mpr ⟨kw398, List.forall_mem_cons.mpr ⟨kw254, List.forall_mem_cons.mpr ⟨kw399, fun _ h => absurd h List.not_mem_nil⟩⟩⟩⟩⟩
theorem kw400 : Cond.methodLink RX1 227 yX3_copies ∈ lw_tbl := kin3 _ (List.mem_of_getElem? (i := 81) (by decide +kernel))
theorem kw401 : Cond.instanceMethod yX3_copies ∈ lw_tbl := kin3 _ (List.mem_of_getElem? (i := 82) (by decide +kernel))
theorem kw402 : Cond.selects RX3 yX3_copies yX3_copies ∈ lw_tbl := kin3 _ (List.mem_of_getElem? (i := 83) (by decide +kernel))
theorem kw403 : Cond.code yX3_copies cX3_copies 1 (some .int) ∈ lw_tbl := kin3 _ (List.mem_of_getElem? (i := 84) rfl)
theorem qml_r37 : ∀ w ∈ qml_w (1, 227, 37, 0, 0), w ∈ lw_tbl := List.forall_mem_cons.mpr ⟨kw400, List.forall_mem_cons.mpr ⟨kw401, List.forall_mem_cons.mpr ⟨kw402, List.forall_mem_cons.mpr ⟨kw232, List.forall_mem_cons.mpr ⟨kw403, fun _ h => absurd h List.not_mem_nil⟩⟩⟩⟩⟩
theorem kw404 : Cond.methodLink RX1 229 yX5_isOut ∈ lw_tbl := kin3 _ (List.mem_of_getElem? (i := 85) (by decide +kernel))
theorem kw405 : Cond.instanceMethod yX5_isOut ∈ lw_tbl := kin3 _ (List.mem_of_getElem? (i := 86) (by decide +kernel))
theorem kw406 : Cond.selects RX5 yX5_isOut yX5_isOut ∈ lw_tbl := kin3 _ (List.mem_of_getElem? (i := 87) (by decide +kernel))
theorem kw407 : Cond.code yX5_isOut cX5_isOut 2 (some .boolean) ∈ lw_tbl := kin3 _ (List.mem_of_getElem? (i := 88) rfl)
theorem qml_r38 : ∀ w ∈ qml_w (1, 229, 57, 1, 0), w ∈ lw_tbl := List.forall_mem_cons.mpr ⟨kw404, List.forall_mem_cons.mpr ⟨kw405, List.forall_mem_cons.mpr ⟨kw406, List.forall_mem_cons.mpr ⟨kw235, List.forall_mem_cons.mpr ⟨kw407, fun _ h => absurd h List.not_mem_nil⟩⟩⟩⟩⟩
theorem kw408 : Cond.methodLink RX1 232 yX0_lets ∈ lw_tbl := kin3 _ (List.mem_of_getElem? (i := 93) (by decide +kernel))
theorem kw409 : Cond.instanceMethod yX0_lets ∈ lw_tbl := kin3 _ (List.mem_of_getElem? (i := 94) (by decide +kernel))
theorem kw410 : Cond.selects RX0 yX0_lets yX0_lets ∈ lw_tbl := kin3 _ (List.mem_of_getElem? (i := 95) (by decide +kernel))
theorem kw411 : Cond.code yX0_lets cX0_lets 3 (some .boolean) ∈ lw_tbl := kin3 _ (List.mem_of_getElem? (i := 96) rfl)
theorem qml_r39 : ∀ w ∈ qml_w (1, 232, 4, 2, 0), w ∈ lw_tbl := List.forall_mem_cons.mpr ⟨kw408, List.forall_mem_cons.mpr ⟨kw409, List.forall_mem_cons.mpr ⟨kw410, List.forall_mem_cons.mpr ⟨kw238, List.forall_mem_cons.mpr ⟨kw411, fun _ h => absurd h List.not_mem_nil⟩⟩⟩⟩⟩
theorem kw412 : Cond.methodLink RX1 238 yX1_worth ∈ lw_tbl := kin3 _ (List.mem_of_getElem? (i := 105) (by decide +kernel))
theorem kw413 : Cond.instanceMethod yX1_worth ∈ lw_tbl := kin3 _ (List.mem_of_getElem? (i := 107) (by decide +kernel))
theorem kw414 : Cond.selects RX1 yX1_worth yX1_worth ∈ lw_tbl := kin0 _ (List.mem_of_getElem? (i := 19) (by decide +kernel))
theorem kw415 : Cond.code yX1_worth cX1_worth 2 (some .int) ∈ lw_tbl := kin3 _ (List.mem_of_getElem? (i := 108) rfl)
theorem qml_r40 : ∀ w ∈ qml_w (1, 238, 25, 1, 0), w ∈ lw_tbl := List.forall_mem_cons.mpr ⟨kw412, List.forall_mem_cons.mpr ⟨kw413, List.forall_mem_cons.mpr ⟨kw414, List.forall_mem_cons.mpr ⟨kw254, List.forall_mem_cons.mpr ⟨kw415, fun _ h => absurd h List.not_mem_nil⟩⟩⟩⟩⟩
theorem kw416 : Cond.methodLink RX1 244 yX1_howMany ∈ lw_tbl := kin3 _ (List.mem_of_getElem? (i := 158) (by decide +kernel))
theorem kw417 : Cond.instanceMethod yX1_howMany ∈ lw_tbl := kin3 _ (List.mem_of_getElem? (i := 159) (by decide +kernel))
theorem kw418 : Cond.selects RX1 yX1_howMany yX1_howMany ∈ lw_tbl := kin3 _ (List.mem_of_getElem? (i := 160) (by decide +kernel))
theorem kw419 : Cond.code yX1_howMany cX1_howMany 4 (some .int) ∈ lw_tbl := kin3 _ (List.mem_of_getElem? (i := 161) rfl)
theorem qml_r41 : ∀ w ∈ qml_w (1, 244, 26, 1, 0), w ∈ lw_tbl := List.forall_mem_cons.mpr ⟨kw416, List.forall_mem_cons.mpr ⟨kw417, List.forall_mem_cons.mpr ⟨kw418, List.forall_mem_cons.mpr ⟨kw254, List.forall_mem_cons.mpr ⟨kw419, fun _ h => absurd h List.not_mem_nil⟩⟩⟩⟩⟩
theorem kw420 : Cond.methodLink RX1 247 yX1_shedByAll ∈ lw_tbl := kin3 _ (List.mem_of_getElem? (i := 162) (by decide +kernel))
theorem kw421 : Cond.instanceMethod yX1_shedByAll ∈ lw_tbl := kin3 _ (List.mem_of_getElem? (i := 164) (by decide +kernel))
theorem kw422 : Cond.selects RX1 yX1_shedByAll yX1_shedByAll ∈ lw_tbl := kin0 _ (List.mem_of_getElem? (i := 25) (by decide +kernel))
theorem kw423 : Cond.code yX1_shedByAll cX1_shedByAll 3 (some .int) ∈ lw_tbl := kin3 _ (List.mem_of_getElem? (i := 165) rfl)
theorem qml_r42 : ∀ w ∈ qml_w (1, 247, 28, 0, 0), w ∈ lw_tbl := List.forall_mem_cons.mpr ⟨kw420, List.forall_mem_cons.mpr ⟨kw421, List.forall_mem_cons.mpr ⟨kw422, List.forall_mem_cons.mpr ⟨kw254, List.forall_mem_cons.mpr ⟨kw423, fun _ h => absurd h List.not_mem_nil⟩⟩⟩⟩⟩
theorem kw424 : Cond.methodLink RX1 250 yX1_wasted ∈ lw_tbl := kin3 _ (List.mem_of_getElem? (i := 166) (by decide +kernel))
theorem kw425 : Cond.instanceMethod yX1_wasted ∈ lw_tbl := kin3 _ (List.mem_of_getElem? (i := 167) (by decide +kernel))
theorem kw426 : Cond.selects RX1 yX1_wasted yX1_wasted ∈ lw_tbl := kin3 _ (List.mem_of_getElem? (i := 168) (by decide +kernel))
theorem kw427 : Cond.code yX1_wasted cX1_wasted 3 (some .int) ∈ lw_tbl := kin3 _ (List.mem_of_getElem? (i := 169) rfl)
theorem qml_r43 : ∀ w ∈ qml_w (1, 250, 27, 0, 0), w ∈ lw_tbl := List.forall_mem_cons.mpr ⟨kw424, List.forall_mem_cons.mpr ⟨kw425, List.forall_mem_cons.mpr ⟨kw426, List.forall_mem_cons.mpr ⟨kw254, List.forall_mem_cons.mpr ⟨kw427, fun _ h => absurd h List.not_mem_nil⟩⟩⟩⟩⟩
theorem kw428 : Cond.methodLinkNest RX1 252 yX8_bitsOf "SoftAsks" ∈ lw_tbl := kin3 _ (List.mem_of_getElem? (i := 170) (by decide +kernel))
theorem kw429 : Cond.static yX8_bitsOf ∈ lw_tbl := kin3 _ (List.mem_of_getElem? (i := 171) (by decide +kernel))
theorem kw430 : Cond.code yX8_bitsOf cX8_bitsOf 5 (some .int) ∈ lw_tbl := kin3 _ (List.mem_of_getElem? (i := 172) rfl)
theorem qml_r44 : ∀ w ∈ qml_w (1, 252, 101, 1, 4), w ∈ lw_tbl := List.forall_mem_cons.mpr ⟨kw428, List.forall_mem_cons.mpr ⟨kw429, List.forall_mem_cons.mpr ⟨kw257, List.forall_mem_cons.mpr ⟨kw430, fun _ h => absurd h List.not_mem_nil⟩⟩⟩⟩
theorem kw431 : Cond.methodLink RX2 3 objectInit ∈ lw_tbl := kin1 _ (List.mem_of_getElem? (i := 142) (by decide +kernel))
theorem qml_r45 : ∀ w ∈ qml_w (2, 3, 0, 0, 6), w ∈ lw_tbl := List.forall_mem_cons.mpr ⟨kw431, List.forall_mem_cons.mpr ⟨kw262, List.forall_mem_cons.mpr ⟨kw263, fun _ h => absurd h List.not_mem_nil⟩⟩⟩
theorem kw432 : Cond.methodLink RX2 22 arraycopyName ∈ lw_tbl := kin2 _ (List.mem_of_getElem? (i := 189) (by decide +kernel))
theorem kw433 : Cond.native arraycopyName ∈ lw_tbl := kin1 _ (List.mem_of_getElem? (i := 124) (by decide +kernel))
theorem kw434 : Cond.static arraycopyName ∈ lw_tbl := kin1 _ (List.mem_of_getElem? (i := 123) (by decide +kernel))
theorem kw435 : Cond.initialized "java/lang/System" ∈ lw_tbl := kin1 _ (List.mem_of_getElem? (i := 5) (by decide +kernel))
theorem qml_r46 : ∀ w ∈ qml_w (2, 22, 0, 5, 7), w ∈ lw_tbl := List.forall_mem_cons.mpr ⟨kw432, List.forall_mem_cons.mpr ⟨kw433, List.forall_mem_cons.mpr ⟨kw434, List.forall_mem_cons.mpr ⟨kw435, fun _ h => absurd h List.not_mem_nil⟩⟩⟩⟩
theorem kw436 : Cond.methodLink RX3 3 objectInit ∈ lw_tbl := kin1 _ (List.mem_of_getElem? (i := 186) (by decide +kernel))
theorem qml_r47 : ∀ w ∈ qml_w (3, 3, 0, 0, 6), w ∈ lw_tbl := List.forall_mem_cons.mpr ⟨kw436, List.forall_mem_cons.mpr ⟨kw262, List.forall_mem_cons.mpr ⟨kw263, fun _ h => absurd h List.not_mem_nil⟩⟩⟩
theorem kw437 : Cond.methodLinkNest RX3 11 yX0_init "SoftAsks" ∈ lw_tbl := kin1 _ (List.mem_of_getElem? (i := 189) (by decide +kernel))
theorem kw438 : Cond.instanceMethod yX0_init ∈ lw_tbl := kin1 _ (List.mem_of_getElem? (i := 190) (by decide +kernel))
theorem kw439 : Cond.code yX0_init cX0_init 1 none ∈ lw_tbl := kin1 _ (List.mem_of_getElem? (i := 191) rfl)
theorem qml_r48 : ∀ w ∈ qml_w (3, 11, 0, 0, 5), w ∈ lw_tbl := List.forall_mem_cons.mpr ⟨kw437, List.forall_mem_cons.mpr ⟨kw438, List.forall_mem_cons.mpr ⟨kw238, List.forall_mem_cons.mpr ⟨kw439, fun _ h => absurd h List.not_mem_nil⟩⟩⟩⟩
theorem kw440 : Cond.methodLink RX3 28 yX0_start ∈ lw_tbl := kin2 _ (List.mem_of_getElem? (i := 230) (by decide +kernel))
theorem kw441 : Cond.instanceMethod yX0_start ∈ lw_tbl := kin2 _ (List.mem_of_getElem? (i := 231) (by decide +kernel))
theorem kw442 : Cond.selects RX0 yX0_start yX0_start ∈ lw_tbl := kin2 _ (List.mem_of_getElem? (i := 232) (by decide +kernel))
theorem kw443 : Cond.code yX0_start cX0_start 1 none ∈ lw_tbl := kin2 _ (List.mem_of_getElem? (i := 233) rfl)
theorem qml_r49 : ∀ w ∈ qml_w (3, 28, 1, 0, 0), w ∈ lw_tbl := List.forall_mem_cons.mpr ⟨kw440, List.forall_mem_cons.mpr ⟨kw441, List.forall_mem_cons.mpr ⟨kw442, List.forall_mem_cons.mpr ⟨kw238, List.forall_mem_cons.mpr ⟨kw443, fun _ h => absurd h List.not_mem_nil⟩⟩⟩⟩⟩
theorem kw444 : Cond.methodLink RX3 53 yX3_dropAt ∈ lw_tbl := kin3 _ (List.mem_of_getElem? (i := 133) (by decide +kernel))
theorem qml_r50 : ∀ w ∈ qml_w (3, 53, 39, 1, 0), w ∈ lw_tbl := List.forall_mem_cons.mpr ⟨kw444, List.forall_mem_cons.mpr ⟨kw364, List.forall_mem_cons.mpr ⟨kw365, List.forall_mem_cons.mpr ⟨kw232, List.forall_mem_cons.mpr ⟨kw366, fun _ h => absurd h List.not_mem_nil⟩⟩⟩⟩⟩
theorem kw445 : Cond.methodLink RX3 60 yX0_stateAt ∈ lw_tbl := kin3 _ (List.mem_of_getElem? (i := 184) (by decide +kernel))
theorem qml_r51 : ∀ w ∈ qml_w (3, 60, 3, 1, 0), w ∈ lw_tbl := List.forall_mem_cons.mpr ⟨kw445, List.forall_mem_cons.mpr ⟨kw269, List.forall_mem_cons.mpr ⟨kw270, List.forall_mem_cons.mpr ⟨kw238, List.forall_mem_cons.mpr ⟨kw271, fun _ h => absurd h List.not_mem_nil⟩⟩⟩⟩⟩
theorem kw446 : Cond.methodLinkNest RX3 68 yX8_bitsOf "SoftAsks" ∈ lw_tbl := kin3 _ (List.mem_of_getElem? (i := 185) (by decide +kernel))
theorem qml_r52 : ∀ w ∈ qml_w (3, 68, 101, 1, 4), w ∈ lw_tbl := List.forall_mem_cons.mpr ⟨kw446, List.forall_mem_cons.mpr ⟨kw429, List.forall_mem_cons.mpr ⟨kw257, List.forall_mem_cons.mpr ⟨kw430, fun _ h => absurd h List.not_mem_nil⟩⟩⟩⟩
theorem kw447 : Cond.methodLink RX4 3 objectInit ∈ lw_tbl := kin1 _ (List.mem_of_getElem? (i := 28) (by decide +kernel))
theorem qml_r53 : ∀ w ∈ qml_w (4, 3, 0, 0, 6), w ∈ lw_tbl := List.forall_mem_cons.mpr ⟨kw447, List.forall_mem_cons.mpr ⟨kw262, List.forall_mem_cons.mpr ⟨kw263, fun _ h => absurd h List.not_mem_nil⟩⟩⟩
theorem kw448 : Cond.methodLink RX4 15 yJ9_min_7cf53 ∈ lw_tbl := kin2 _ (List.mem_of_getElem? (i := 134) (by decide +kernel))
theorem qml_r54 : ∀ w ∈ qml_w (4, 15, 0, 2, 8), w ∈ lw_tbl := List.forall_mem_cons.mpr ⟨kw448, List.forall_mem_cons.mpr ⟨kw277, List.forall_mem_cons.mpr ⟨kw278, List.forall_mem_cons.mpr ⟨kw279, fun _ h => absurd h List.not_mem_nil⟩⟩⟩⟩
theorem kw449 : Cond.methodLink RX4 31 yX7_clear ∈ lw_tbl := kin2 _ (List.mem_of_getElem? (i := 137) (by decide +kernel))
theorem kw450 : Cond.instanceMethod yX7_clear ∈ lw_tbl := kin2 _ (List.mem_of_getElem? (i := 138) (by decide +kernel))
theorem kw451 : Cond.selects RX7 yX7_clear yX7_clear ∈ lw_tbl := kin2 _ (List.mem_of_getElem? (i := 139) (by decide +kernel))
theorem kw452 : Cond.code yX7_clear cX7_clear 1 none ∈ lw_tbl := kin2 _ (List.mem_of_getElem? (i := 140) rfl)
theorem qml_r55 : ∀ w ∈ qml_w (4, 31, 63, 0, 0), w ∈ lw_tbl := List.forall_mem_cons.mpr ⟨kw449, List.forall_mem_cons.mpr ⟨kw450, List.forall_mem_cons.mpr ⟨kw451, List.forall_mem_cons.mpr ⟨kw244, List.forall_mem_cons.mpr ⟨kw452, fun _ h => absurd h List.not_mem_nil⟩⟩⟩⟩⟩
theorem kw453 : Cond.methodLink RX4 36 yX4_readPart ∈ lw_tbl := kin2 _ (List.mem_of_getElem? (i := 141) (by decide +kernel))
theorem kw454 : Cond.instanceMethod yX4_readPart ∈ lw_tbl := kin2 _ (List.mem_of_getElem? (i := 143) (by decide +kernel))
theorem kw455 : Cond.selects RX4 yX4_readPart yX4_readPart ∈ lw_tbl := kin0 _ (List.mem_of_getElem? (i := 0) (by decide +kernel))
theorem kw456 : Cond.code yX4_readPart cX4_readPart 3 none ∈ lw_tbl := kin2 _ (List.mem_of_getElem? (i := 144) rfl)
theorem qml_r56 : ∀ w ∈ qml_w (4, 36, 48, 1, 0), w ∈ lw_tbl := List.forall_mem_cons.mpr ⟨kw453, List.forall_mem_cons.mpr ⟨kw454, List.forall_mem_cons.mpr ⟨kw455, List.forall_mem_cons.mpr ⟨kw241, List.forall_mem_cons.mpr ⟨kw456, fun _ h => absurd h List.not_mem_nil⟩⟩⟩⟩⟩
theorem kw457 : Cond.methodLink RX4 43 yX4_readHost ∈ lw_tbl := kin2 _ (List.mem_of_getElem? (i := 145) (by decide +kernel))
theorem kw458 : Cond.instanceMethod yX4_readHost ∈ lw_tbl := kin2 _ (List.mem_of_getElem? (i := 147) (by decide +kernel))
theorem kw459 : Cond.selects RX4 yX4_readHost yX4_readHost ∈ lw_tbl := kin0 _ (List.mem_of_getElem? (i := 1) (by decide +kernel))
theorem kw460 : Cond.code yX4_readHost cX4_readHost 3 none ∈ lw_tbl := kin2 _ (List.mem_of_getElem? (i := 148) rfl)
theorem qml_r57 : ∀ w ∈ qml_w (4, 43, 49, 1, 0), w ∈ lw_tbl := List.forall_mem_cons.mpr ⟨kw457, List.forall_mem_cons.mpr ⟨kw458, List.forall_mem_cons.mpr ⟨kw459, List.forall_mem_cons.mpr ⟨kw241, List.forall_mem_cons.mpr ⟨kw460, fun _ h => absurd h List.not_mem_nil⟩⟩⟩⟩⟩
theorem kw461 : Cond.methodLink RX4 49 yX4_readSpan ∈ lw_tbl := kin2 _ (List.mem_of_getElem? (i := 153) (by decide +kernel))
theorem kw462 : Cond.instanceMethod yX4_readSpan ∈ lw_tbl := kin2 _ (List.mem_of_getElem? (i := 155) (by decide +kernel))
theorem kw463 : Cond.selects RX4 yX4_readSpan yX4_readSpan ∈ lw_tbl := kin0 _ (List.mem_of_getElem? (i := 3) (by decide +kernel))
theorem kw464 : Cond.code yX4_readSpan cX4_readSpan 4 none ∈ lw_tbl := kin2 _ (List.mem_of_getElem? (i := 156) rfl)
theorem qml_r58 : ∀ w ∈ qml_w (4, 49, 50, 1, 0), w ∈ lw_tbl := List.forall_mem_cons.mpr ⟨kw461, List.forall_mem_cons.mpr ⟨kw462, List.forall_mem_cons.mpr ⟨kw463, List.forall_mem_cons.mpr ⟨kw241, List.forall_mem_cons.mpr ⟨kw464, fun _ h => absurd h List.not_mem_nil⟩⟩⟩⟩⟩
theorem kw465 : Cond.methodLink RX4 55 yX4_readAsk ∈ lw_tbl := kin2 _ (List.mem_of_getElem? (i := 161) (by decide +kernel))
theorem kw466 : Cond.instanceMethod yX4_readAsk ∈ lw_tbl := kin2 _ (List.mem_of_getElem? (i := 163) (by decide +kernel))
theorem kw467 : Cond.selects RX4 yX4_readAsk yX4_readAsk ∈ lw_tbl := kin0 _ (List.mem_of_getElem? (i := 5) (by decide +kernel))
theorem kw468 : Cond.code yX4_readAsk cX4_readAsk 3 none ∈ lw_tbl := kin2 _ (List.mem_of_getElem? (i := 164) rfl)
theorem qml_r59 : ∀ w ∈ qml_w (4, 55, 51, 1, 0), w ∈ lw_tbl := List.forall_mem_cons.mpr ⟨kw465, List.forall_mem_cons.mpr ⟨kw466, List.forall_mem_cons.mpr ⟨kw467, List.forall_mem_cons.mpr ⟨kw241, List.forall_mem_cons.mpr ⟨kw468, fun _ h => absurd h List.not_mem_nil⟩⟩⟩⟩⟩
theorem qml_ok1 : ∀ r ∈ qml_1, ∀ w ∈ qml_w r, w ∈ lw_tbl := List.forall_mem_cons.mpr ⟨qml_r30, List.forall_mem_cons.mpr ⟨qml_r31, List.forall_mem_cons.mpr ⟨qml_r32, List.forall_mem_cons.mpr ⟨qml_r33, List.forall_mem_cons.mpr ⟨qml_r34, List.forall_mem_cons.mpr ⟨qml_r35, List.forall_mem_cons.mpr ⟨qml_r36, List.forall_mem_cons.mpr ⟨qml_r37, List.forall_mem_cons.mpr ⟨qml_r38, List.forall_mem_cons.mpr ⟨qml_r39, List.forall_mem_cons.mpr ⟨qml_r40, List.forall_mem_cons.mpr ⟨qml_r41, List.forall_mem_cons.mpr ⟨qml_r42, List.forall_mem_cons.mpr ⟨qml_r43, List.forall_mem_cons.mpr ⟨qml_r44, List.forall_mem_cons.mpr ⟨qml_r45, List.forall_mem_cons.mpr ⟨qml_r46, List.forall_mem_cons.mpr ⟨qml_r47, List.forall_mem_cons.mpr ⟨qml_r48, List.forall_mem_cons.mpr ⟨qml_r49, List.forall_mem_cons.mpr ⟨qml_r50, List.forall_mem_cons.mpr ⟨qml_r51, List.forall_mem_cons.mpr ⟨qml_r52, List.forall_mem_cons.mpr ⟨qml_r53, List.forall_mem_cons.mpr ⟨qml_r54, List.forall_mem_cons.mpr ⟨qml_r55, List.forall_mem_cons.mpr ⟨qml_r56, List.forall_mem_cons.mpr ⟨qml_r57, List.forall_mem_cons.mpr ⟨qml_r58, List.forall_mem_cons.mpr ⟨qml_r59, fun _ h => absurd h List.not_mem_nil⟩⟩⟩⟩⟩⟩⟩⟩⟩⟩⟩⟩⟩⟩⟩⟩⟩⟩⟩⟩⟩⟩⟩⟩⟩⟩⟩⟩⟩⟩
theorem kw469 : Cond.methodLink RX4 61 yX4_figure ∈ lw_tbl := kin2 _ (List.mem_of_getElem? (i := 149) (by decide +kernel))
theorem kw470 : Cond.instanceMethod yX4_figure ∈ lw_tbl := kin2 _ (List.mem_of_getElem? (i := 151) (by decide +kernel))
theorem kw471 : Cond.selects RX4 yX4_figure yX4_figure ∈ lw_tbl := kin0 _ (List.mem_of_getElem? (i := 2) (by decide +kernel))
theorem kw472 : Cond.code yX4_figure cX4_figure 4 (some .int) ∈ lw_tbl := kin2 _ (List.mem_of_getElem? (i := 152) rfl)
theorem qml_r60 : ∀ w ∈ qml_w (4, 61, 52, 2, 0), w ∈ lw_tbl := List.forall_mem_cons.mpr ⟨kw469, List.forall_mem_cons.mpr ⟨kw470, List.forall_mem_cons.mpr ⟨kw471, List.forall_mem_cons.mpr ⟨kw241, List.forall_mem_cons.mpr ⟨kw472, fun _ h => absurd h List.not_mem_nil⟩⟩⟩⟩⟩
theorem kw473 : Cond.methodLink RX4 73 yX4_twoFigures ∈ lw_tbl := kin2 _ (List.mem_of_getElem? (i := 157) (by decide +kernel))
theorem kw474 : Cond.instanceMethod yX4_twoFigures ∈ lw_tbl := kin2 _ (List.mem_of_getElem? (i := 159) (by decide +kernel))
theorem kw475 : Cond.selects RX4 yX4_twoFigures yX4_twoFigures ∈ lw_tbl := kin0 _ (List.mem_of_getElem? (i := 4) (by decide +kernel))
theorem kw476 : Cond.code yX4_twoFigures cX4_twoFigures 6 (some .int) ∈ lw_tbl := kin2 _ (List.mem_of_getElem? (i := 160) rfl)
theorem qml_r61 : ∀ w ∈ qml_w (4, 73, 53, 2, 0), w ∈ lw_tbl := List.forall_mem_cons.mpr ⟨kw473, List.forall_mem_cons.mpr ⟨kw474, List.forall_mem_cons.mpr ⟨kw475, List.forall_mem_cons.mpr ⟨kw241, List.forall_mem_cons.mpr ⟨kw476, fun _ h => absurd h List.not_mem_nil⟩⟩⟩⟩⟩
theorem kw477 : Cond.methodLink RX5 3 objectInit ∈ lw_tbl := kin1 _ (List.mem_of_getElem? (i := 115) (by decide +kernel))
theorem qml_r62 : ∀ w ∈ qml_w (5, 3, 0, 0, 6), w ∈ lw_tbl := List.forall_mem_cons.mpr ⟨kw477, List.forall_mem_cons.mpr ⟨kw262, List.forall_mem_cons.mpr ⟨kw263, fun _ h => absurd h List.not_mem_nil⟩⟩⟩
theorem kw478 : Cond.methodLink RX5 15 yX5_reset ∈ lw_tbl := kin1 _ (List.mem_of_getElem? (i := 116) (by decide +kernel))
theorem kw479 : Cond.instanceMethod yX5_reset ∈ lw_tbl := kin1 _ (List.mem_of_getElem? (i := 117) (by decide +kernel))
theorem kw480 : Cond.selects RX5 yX5_reset yX5_reset ∈ lw_tbl := kin1 _ (List.mem_of_getElem? (i := 118) (by decide +kernel))
theorem kw481 : Cond.code yX5_reset cX5_reset 1 none ∈ lw_tbl := kin1 _ (List.mem_of_getElem? (i := 119) rfl)
theorem qml_r63 : ∀ w ∈ qml_w (5, 15, 55, 0, 0), w ∈ lw_tbl := List.forall_mem_cons.mpr ⟨kw478, List.forall_mem_cons.mpr ⟨kw479, List.forall_mem_cons.mpr ⟨kw480, List.forall_mem_cons.mpr ⟨kw235, List.forall_mem_cons.mpr ⟨kw481, fun _ h => absurd h List.not_mem_nil⟩⟩⟩⟩⟩
theorem kw482 : Cond.methodLink RX5 21 arraycopyName ∈ lw_tbl := kin1 _ (List.mem_of_getElem? (i := 122) (by decide +kernel))
theorem qml_r64 : ∀ w ∈ qml_w (5, 21, 0, 5, 7), w ∈ lw_tbl := List.forall_mem_cons.mpr ⟨kw482, List.forall_mem_cons.mpr ⟨kw433, List.forall_mem_cons.mpr ⟨kw434, List.forall_mem_cons.mpr ⟨kw435, fun _ h => absurd h List.not_mem_nil⟩⟩⟩⟩
theorem kw483 : Cond.methodLink RX6 3 objectInit ∈ lw_tbl := kin1 _ (List.mem_of_getElem? (i := 159) (by decide +kernel))
theorem qml_r65 : ∀ w ∈ qml_w (6, 3, 0, 0, 6), w ∈ lw_tbl := List.forall_mem_cons.mpr ⟨kw483, List.forall_mem_cons.mpr ⟨kw262, List.forall_mem_cons.mpr ⟨kw263, fun _ h => absurd h List.not_mem_nil⟩⟩⟩
theorem kw484 : Cond.methodLink RX7 3 objectInit ∈ lw_tbl := kin1 _ (List.mem_of_getElem? (i := 48) (by decide +kernel))
theorem qml_r66 : ∀ w ∈ qml_w (7, 3, 0, 0, 6), w ∈ lw_tbl := List.forall_mem_cons.mpr ⟨kw484, List.forall_mem_cons.mpr ⟨kw262, List.forall_mem_cons.mpr ⟨kw263, fun _ h => absurd h List.not_mem_nil⟩⟩⟩
theorem kw485 : Cond.methodLink RX8 1 objectInit ∈ lw_tbl := kin1 _ (List.mem_of_getElem? (i := 20) (by decide +kernel))
theorem qml_r67 : ∀ w ∈ qml_w (8, 1, 0, 0, 6), w ∈ lw_tbl := List.forall_mem_cons.mpr ⟨kw485, List.forall_mem_cons.mpr ⟨kw262, List.forall_mem_cons.mpr ⟨kw263, fun _ h => absurd h List.not_mem_nil⟩⟩⟩
theorem kw486 : Cond.methodLink RX8 19 yX4_init ∈ lw_tbl := kin1 _ (List.mem_of_getElem? (i := 25) (by decide +kernel))
theorem kw487 : Cond.instanceMethod yX4_init ∈ lw_tbl := kin1 _ (List.mem_of_getElem? (i := 26) (by decide +kernel))
theorem kw488 : Cond.code yX4_init cX4_init 2 none ∈ lw_tbl := kin1 _ (List.mem_of_getElem? (i := 27) rfl)
theorem qml_r68 : ∀ w ∈ qml_w (8, 19, 46, 1, 2), w ∈ lw_tbl := List.forall_mem_cons.mpr ⟨kw486, List.forall_mem_cons.mpr ⟨kw487, List.forall_mem_cons.mpr ⟨kw241, List.forall_mem_cons.mpr ⟨kw488, fun _ h => absurd h List.not_mem_nil⟩⟩⟩⟩
theorem kw489 : Cond.methodLinkNest RX8 28 yX7_init "SoftAsks" ∈ lw_tbl := kin1 _ (List.mem_of_getElem? (i := 45) (by decide +kernel))
theorem kw490 : Cond.instanceMethod yX7_init ∈ lw_tbl := kin1 _ (List.mem_of_getElem? (i := 46) (by decide +kernel))
theorem kw491 : Cond.code yX7_init cX7_init 1 none ∈ lw_tbl := kin1 _ (List.mem_of_getElem? (i := 47) rfl)
theorem qml_r69 : ∀ w ∈ qml_w (8, 28, 62, 0, 5), w ∈ lw_tbl := List.forall_mem_cons.mpr ⟨kw489, List.forall_mem_cons.mpr ⟨kw490, List.forall_mem_cons.mpr ⟨kw244, List.forall_mem_cons.mpr ⟨kw491, fun _ h => absurd h List.not_mem_nil⟩⟩⟩⟩
theorem kw492 : Cond.methodLink RX8 38 yX5_init ∈ lw_tbl := kin1 _ (List.mem_of_getElem? (i := 112) (by decide +kernel))
theorem qml_r70 : ∀ w ∈ qml_w (8, 38, 54, 0, 2), w ∈ lw_tbl := List.forall_mem_cons.mpr ⟨kw492, List.forall_mem_cons.mpr ⟨kw286, List.forall_mem_cons.mpr ⟨kw235, List.forall_mem_cons.mpr ⟨kw287, fun _ h => absurd h List.not_mem_nil⟩⟩⟩⟩
theorem kw493 : Cond.methodLinkNest RX8 48 yX2_init "SoftAsks" ∈ lw_tbl := kin1 _ (List.mem_of_getElem? (i := 139) (by decide +kernel))
theorem kw494 : Cond.instanceMethod yX2_init ∈ lw_tbl := kin1 _ (List.mem_of_getElem? (i := 140) (by decide +kernel))
theorem kw495 : Cond.code yX2_init cX2_init 1 none ∈ lw_tbl := kin1 _ (List.mem_of_getElem? (i := 141) rfl)
theorem qml_r71 : ∀ w ∈ qml_w (8, 48, 31, 0, 5), w ∈ lw_tbl := List.forall_mem_cons.mpr ⟨kw493, List.forall_mem_cons.mpr ⟨kw494, List.forall_mem_cons.mpr ⟨kw248, List.forall_mem_cons.mpr ⟨kw495, fun _ h => absurd h List.not_mem_nil⟩⟩⟩⟩
theorem kw496 : Cond.methodLinkNest RX8 55 yX6_init "SoftAsks" ∈ lw_tbl := kin1 _ (List.mem_of_getElem? (i := 156) (by decide +kernel))
theorem kw497 : Cond.instanceMethod yX6_init ∈ lw_tbl := kin1 _ (List.mem_of_getElem? (i := 157) (by decide +kernel))
theorem kw498 : Cond.code yX6_init cX6_init 1 none ∈ lw_tbl := kin1 _ (List.mem_of_getElem? (i := 158) rfl)
theorem qml_r72 : ∀ w ∈ qml_w (8, 55, 59, 0, 5), w ∈ lw_tbl := List.forall_mem_cons.mpr ⟨kw496, List.forall_mem_cons.mpr ⟨kw497, List.forall_mem_cons.mpr ⟨kw251, List.forall_mem_cons.mpr ⟨kw498, fun _ h => absurd h List.not_mem_nil⟩⟩⟩⟩
theorem kw499 : Cond.methodLink RX8 70 yX1_init ∈ lw_tbl := kin1 _ (List.mem_of_getElem? (i := 174) (by decide +kernel))
theorem kw500 : Cond.instanceMethod yX1_init ∈ lw_tbl := kin1 _ (List.mem_of_getElem? (i := 175) (by decide +kernel))
theorem kw501 : Cond.code yX1_init cX1_init 3 none ∈ lw_tbl := kin1 _ (List.mem_of_getElem? (i := 176) rfl)
theorem qml_r73 : ∀ w ∈ qml_w (8, 70, 7, 1, 2), w ∈ lw_tbl := List.forall_mem_cons.mpr ⟨kw499, List.forall_mem_cons.mpr ⟨kw500, List.forall_mem_cons.mpr ⟨kw254, List.forall_mem_cons.mpr ⟨kw501, fun _ h => absurd h List.not_mem_nil⟩⟩⟩⟩
theorem kw502 : Cond.methodLink RX8 84 yX4_read ∈ lw_tbl := kin2 _ (List.mem_of_getElem? (i := 130) (by decide +kernel))
theorem kw503 : Cond.instanceMethod yX4_read ∈ lw_tbl := kin2 _ (List.mem_of_getElem? (i := 131) (by decide +kernel))
theorem kw504 : Cond.selects RX4 yX4_read yX4_read ∈ lw_tbl := kin2 _ (List.mem_of_getElem? (i := 132) (by decide +kernel))
theorem kw505 : Cond.code yX4_read cX4_read 4 (some .int) ∈ lw_tbl := kin2 _ (List.mem_of_getElem? (i := 133) rfl)
theorem qml_r74 : ∀ w ∈ qml_w (8, 84, 47, 2, 0), w ∈ lw_tbl := List.forall_mem_cons.mpr ⟨kw502, List.forall_mem_cons.mpr ⟨kw503, List.forall_mem_cons.mpr ⟨kw504, List.forall_mem_cons.mpr ⟨kw241, List.forall_mem_cons.mpr ⟨kw505, fun _ h => absurd h List.not_mem_nil⟩⟩⟩⟩⟩
theorem kw506 : Cond.methodLink RX8 88 yX5_reset ∈ lw_tbl := kin2 _ (List.mem_of_getElem? (i := 169) (by decide +kernel))
theorem qml_r75 : ∀ w ∈ qml_w (8, 88, 55, 0, 0), w ∈ lw_tbl := List.forall_mem_cons.mpr ⟨kw506, List.forall_mem_cons.mpr ⟨kw479, List.forall_mem_cons.mpr ⟨kw480, List.forall_mem_cons.mpr ⟨kw235, List.forall_mem_cons.mpr ⟨kw481, fun _ h => absurd h List.not_mem_nil⟩⟩⟩⟩⟩
theorem kw507 : Cond.methodLink RX8 110 yX5_fits ∈ lw_tbl := kin2 _ (List.mem_of_getElem? (i := 178) (by decide +kernel))
theorem kw508 : Cond.static yX5_fits ∈ lw_tbl := kin2 _ (List.mem_of_getElem? (i := 179) (by decide +kernel))
theorem kw509 : Cond.code yX5_fits cX5_fits 2 (some .boolean) ∈ lw_tbl := kin2 _ (List.mem_of_getElem? (i := 180) rfl)
theorem qml_r76 : ∀ w ∈ qml_w (8, 110, 58, 2, 1), w ∈ lw_tbl := List.forall_mem_cons.mpr ⟨kw507, List.forall_mem_cons.mpr ⟨kw508, List.forall_mem_cons.mpr ⟨kw235, List.forall_mem_cons.mpr ⟨kw509, fun _ h => absurd h List.not_mem_nil⟩⟩⟩⟩
theorem kw510 : Cond.methodLink RX8 114 yX2_add ∈ lw_tbl := kin2 _ (List.mem_of_getElem? (i := 185) (by decide +kernel))
theorem kw511 : Cond.instanceMethod yX2_add ∈ lw_tbl := kin2 _ (List.mem_of_getElem? (i := 186) (by decide +kernel))
theorem kw512 : Cond.selects RX2 yX2_add yX2_add ∈ lw_tbl := kin2 _ (List.mem_of_getElem? (i := 187) (by decide +kernel))
theorem kw513 : Cond.code yX2_add cX2_add 3 none ∈ lw_tbl := kin2 _ (List.mem_of_getElem? (i := 188) rfl)
theorem qml_r77 : ∀ w ∈ qml_w (8, 114, 32, 2, 0), w ∈ lw_tbl := List.forall_mem_cons.mpr ⟨kw510, List.forall_mem_cons.mpr ⟨kw511, List.forall_mem_cons.mpr ⟨kw512, List.forall_mem_cons.mpr ⟨kw248, List.forall_mem_cons.mpr ⟨kw513, fun _ h => absurd h List.not_mem_nil⟩⟩⟩⟩⟩
theorem kw514 : Cond.methodLink RX8 118 yX7_hasHost ∈ lw_tbl := kin2 _ (List.mem_of_getElem? (i := 194) (by decide +kernel))
theorem kw515 : Cond.instanceMethod yX7_hasHost ∈ lw_tbl := kin2 _ (List.mem_of_getElem? (i := 195) (by decide +kernel))
theorem kw516 : Cond.selects RX7 yX7_hasHost yX7_hasHost ∈ lw_tbl := kin2 _ (List.mem_of_getElem? (i := 196) (by decide +kernel))
theorem kw517 : Cond.code yX7_hasHost cX7_hasHost 2 (some .boolean) ∈ lw_tbl := kin2 _ (List.mem_of_getElem? (i := 197) rfl)
theorem qml_r78 : ∀ w ∈ qml_w (8, 118, 64, 1, 0), w ∈ lw_tbl := List.forall_mem_cons.mpr ⟨kw514, List.forall_mem_cons.mpr ⟨kw515, List.forall_mem_cons.mpr ⟨kw516, List.forall_mem_cons.mpr ⟨kw244, List.forall_mem_cons.mpr ⟨kw517, fun _ h => absurd h List.not_mem_nil⟩⟩⟩⟩⟩
theorem kw518 : Cond.methodLink RX8 122 yX2_takeBack ∈ lw_tbl := kin2 _ (List.mem_of_getElem? (i := 202) (by decide +kernel))
theorem kw519 : Cond.instanceMethod yX2_takeBack ∈ lw_tbl := kin2 _ (List.mem_of_getElem? (i := 203) (by decide +kernel))
theorem kw520 : Cond.selects RX2 yX2_takeBack yX2_takeBack ∈ lw_tbl := kin2 _ (List.mem_of_getElem? (i := 204) (by decide +kernel))
theorem kw521 : Cond.code yX2_takeBack cX2_takeBack 3 none ∈ lw_tbl := kin2 _ (List.mem_of_getElem? (i := 205) rfl)
theorem qml_r79 : ∀ w ∈ qml_w (8, 122, 33, 1, 0), w ∈ lw_tbl := List.forall_mem_cons.mpr ⟨kw518, List.forall_mem_cons.mpr ⟨kw519, List.forall_mem_cons.mpr ⟨kw520, List.forall_mem_cons.mpr ⟨kw248, List.forall_mem_cons.mpr ⟨kw521, fun _ h => absurd h List.not_mem_nil⟩⟩⟩⟩⟩
theorem kw522 : Cond.methodLink RX8 126 yX7_hasAsk ∈ lw_tbl := kin2 _ (List.mem_of_getElem? (i := 210) (by decide +kernel))
theorem kw523 : Cond.instanceMethod yX7_hasAsk ∈ lw_tbl := kin2 _ (List.mem_of_getElem? (i := 211) (by decide +kernel))
theorem kw524 : Cond.selects RX7 yX7_hasAsk yX7_hasAsk ∈ lw_tbl := kin2 _ (List.mem_of_getElem? (i := 212) (by decide +kernel))
theorem kw525 : Cond.code yX7_hasAsk cX7_hasAsk 2 (some .boolean) ∈ lw_tbl := kin2 _ (List.mem_of_getElem? (i := 213) rfl)
theorem qml_r80 : ∀ w ∈ qml_w (8, 126, 65, 1, 0), w ∈ lw_tbl := List.forall_mem_cons.mpr ⟨kw522, List.forall_mem_cons.mpr ⟨kw523, List.forall_mem_cons.mpr ⟨kw524, List.forall_mem_cons.mpr ⟨kw244, List.forall_mem_cons.mpr ⟨kw525, fun _ h => absurd h List.not_mem_nil⟩⟩⟩⟩⟩
theorem kw526 : Cond.methodLink RX8 129 yX7_ofAsk ∈ lw_tbl := kin2 _ (List.mem_of_getElem? (i := 214) (by decide +kernel))
theorem kw527 : Cond.instanceMethod yX7_ofAsk ∈ lw_tbl := kin2 _ (List.mem_of_getElem? (i := 215) (by decide +kernel))
theorem kw528 : Cond.selects RX7 yX7_ofAsk yX7_ofAsk ∈ lw_tbl := kin2 _ (List.mem_of_getElem? (i := 216) (by decide +kernel))
theorem kw529 : Cond.code yX7_ofAsk cX7_ofAsk 3 (some .int) ∈ lw_tbl := kin2 _ (List.mem_of_getElem? (i := 217) rfl)
theorem qml_r81 : ∀ w ∈ qml_w (8, 129, 67, 2, 0), w ∈ lw_tbl := List.forall_mem_cons.mpr ⟨kw526, List.forall_mem_cons.mpr ⟨kw527, List.forall_mem_cons.mpr ⟨kw528, List.forall_mem_cons.mpr ⟨kw244, List.forall_mem_cons.mpr ⟨kw529, fun _ h => absurd h List.not_mem_nil⟩⟩⟩⟩⟩
theorem kw530 : Cond.methodLink RX8 136 yX1_go ∈ lw_tbl := kin2 _ (List.mem_of_getElem? (i := 218) (by decide +kernel))
theorem kw531 : Cond.instanceMethod yX1_go ∈ lw_tbl := kin2 _ (List.mem_of_getElem? (i := 219) (by decide +kernel))
theorem kw532 : Cond.selects RX1 yX1_go yX1_go ∈ lw_tbl := kin2 _ (List.mem_of_getElem? (i := 220) (by decide +kernel))
theorem kw533 : Cond.code yX1_go cX1_go 6 none ∈ lw_tbl := kin2 _ (List.mem_of_getElem? (i := 221) rfl)
theorem qml_r82 : ∀ w ∈ qml_w (8, 136, 8, 4, 0), w ∈ lw_tbl := List.forall_mem_cons.mpr ⟨kw530, List.forall_mem_cons.mpr ⟨kw531, List.forall_mem_cons.mpr ⟨kw532, List.forall_mem_cons.mpr ⟨kw254, List.forall_mem_cons.mpr ⟨kw533, fun _ h => absurd h List.not_mem_nil⟩⟩⟩⟩⟩
theorem kw534 : Cond.methodLink RX8 140 yX1_ofAsk ∈ lw_tbl := kin3 _ (List.mem_of_getElem? (i := 134) (by decide +kernel))
theorem kw535 : Cond.instanceMethod yX1_ofAsk ∈ lw_tbl := kin3 _ (List.mem_of_getElem? (i := 135) (by decide +kernel))
theorem kw536 : Cond.selects RX1 yX1_ofAsk yX1_ofAsk ∈ lw_tbl := kin3 _ (List.mem_of_getElem? (i := 136) (by decide +kernel))
theorem kw537 : Cond.code yX1_ofAsk cX1_ofAsk 3 (some .int) ∈ lw_tbl := kin3 _ (List.mem_of_getElem? (i := 137) rfl)
theorem qml_r83 : ∀ w ∈ qml_w (8, 140, 29, 2, 0), w ∈ lw_tbl := List.forall_mem_cons.mpr ⟨kw534, List.forall_mem_cons.mpr ⟨kw535, List.forall_mem_cons.mpr ⟨kw536, List.forall_mem_cons.mpr ⟨kw254, List.forall_mem_cons.mpr ⟨kw537, fun _ h => absurd h List.not_mem_nil⟩⟩⟩⟩⟩
theorem kw538 : Cond.methodLink RX8 141 yX7_ofHost ∈ lw_tbl := kin3 _ (List.mem_of_getElem? (i := 142) (by decide +kernel))
theorem kw539 : Cond.instanceMethod yX7_ofHost ∈ lw_tbl := kin3 _ (List.mem_of_getElem? (i := 143) (by decide +kernel))
theorem kw540 : Cond.selects RX7 yX7_ofHost yX7_ofHost ∈ lw_tbl := kin3 _ (List.mem_of_getElem? (i := 144) (by decide +kernel))
theorem kw541 : Cond.code yX7_ofHost cX7_ofHost 3 (some .int) ∈ lw_tbl := kin3 _ (List.mem_of_getElem? (i := 145) rfl)
theorem qml_r84 : ∀ w ∈ qml_w (8, 141, 66, 2, 0), w ∈ lw_tbl := List.forall_mem_cons.mpr ⟨kw538, List.forall_mem_cons.mpr ⟨kw539, List.forall_mem_cons.mpr ⟨kw540, List.forall_mem_cons.mpr ⟨kw244, List.forall_mem_cons.mpr ⟨kw541, fun _ h => absurd h List.not_mem_nil⟩⟩⟩⟩⟩
theorem kw542 : Cond.methodLink RX8 147 yX3_counted ∈ lw_tbl := kin3 _ (List.mem_of_getElem? (i := 146) (by decide +kernel))
theorem kw543 : Cond.instanceMethod yX3_counted ∈ lw_tbl := kin3 _ (List.mem_of_getElem? (i := 147) (by decide +kernel))
theorem kw544 : Cond.selects RX3 yX3_counted yX3_counted ∈ lw_tbl := kin3 _ (List.mem_of_getElem? (i := 148) (by decide +kernel))
theorem kw545 : Cond.code yX3_counted cX3_counted 2 (some .int) ∈ lw_tbl := kin3 _ (List.mem_of_getElem? (i := 149) rfl)
theorem qml_r85 : ∀ w ∈ qml_w (8, 147, 44, 1, 0), w ∈ lw_tbl := List.forall_mem_cons.mpr ⟨kw542, List.forall_mem_cons.mpr ⟨kw543, List.forall_mem_cons.mpr ⟨kw544, List.forall_mem_cons.mpr ⟨kw232, List.forall_mem_cons.mpr ⟨kw545, fun _ h => absurd h List.not_mem_nil⟩⟩⟩⟩⟩
theorem kw546 : Cond.methodLink RX8 153 yX1_ofAll ∈ lw_tbl := kin3 _ (List.mem_of_getElem? (i := 154) (by decide +kernel))
theorem kw547 : Cond.instanceMethod yX1_ofAll ∈ lw_tbl := kin3 _ (List.mem_of_getElem? (i := 155) (by decide +kernel))
theorem kw548 : Cond.selects RX1 yX1_ofAll yX1_ofAll ∈ lw_tbl := kin3 _ (List.mem_of_getElem? (i := 156) (by decide +kernel))
theorem kw549 : Cond.code yX1_ofAll cX1_ofAll 2 (some .int) ∈ lw_tbl := kin3 _ (List.mem_of_getElem? (i := 157) rfl)
theorem qml_r86 : ∀ w ∈ qml_w (8, 153, 30, 1, 0), w ∈ lw_tbl := List.forall_mem_cons.mpr ⟨kw546, List.forall_mem_cons.mpr ⟨kw547, List.forall_mem_cons.mpr ⟨kw548, List.forall_mem_cons.mpr ⟨kw254, List.forall_mem_cons.mpr ⟨kw549, fun _ h => absurd h List.not_mem_nil⟩⟩⟩⟩⟩
theorem kw550 : Cond.methodLink RX8 156 yX3_standing ∈ lw_tbl := kin3 _ (List.mem_of_getElem? (i := 180) (by decide +kernel))
theorem kw551 : Cond.instanceMethod yX3_standing ∈ lw_tbl := kin3 _ (List.mem_of_getElem? (i := 181) (by decide +kernel))
theorem kw552 : Cond.selects RX3 yX3_standing yX3_standing ∈ lw_tbl := kin3 _ (List.mem_of_getElem? (i := 182) (by decide +kernel))
theorem kw553 : Cond.code yX3_standing cX3_standing 3 (some .int) ∈ lw_tbl := kin3 _ (List.mem_of_getElem? (i := 183) rfl)
theorem qml_r87 : ∀ w ∈ qml_w (8, 156, 45, 2, 0), w ∈ lw_tbl := List.forall_mem_cons.mpr ⟨kw550, List.forall_mem_cons.mpr ⟨kw551, List.forall_mem_cons.mpr ⟨kw552, List.forall_mem_cons.mpr ⟨kw232, List.forall_mem_cons.mpr ⟨kw553, fun _ h => absurd h List.not_mem_nil⟩⟩⟩⟩⟩
theorem kw554 : Cond.methodLink RX8 165 yX8_tryPolicy ∈ lw_tbl := kin3 _ (List.mem_of_getElem? (i := 192) (by decide +kernel))
theorem kw555 : Cond.instanceMethod yX8_tryPolicy ∈ lw_tbl := kin3 _ (List.mem_of_getElem? (i := 194) (by decide +kernel))
theorem kw556 : Cond.selects RX8 yX8_tryPolicy yX8_tryPolicy ∈ lw_tbl := kin0 _ (List.mem_of_getElem? (i := 26) (by decide +kernel))
theorem kw557 : Cond.code yX8_tryPolicy cX8_tryPolicy 4 none ∈ lw_tbl := kin3 _ (List.mem_of_getElem? (i := 195) rfl)
theorem qml_r88 : ∀ w ∈ qml_w (8, 165, 93, 3, 0), w ∈ lw_tbl := List.forall_mem_cons.mpr ⟨kw554, List.forall_mem_cons.mpr ⟨kw555, List.forall_mem_cons.mpr ⟨kw556, List.forall_mem_cons.mpr ⟨kw257, List.forall_mem_cons.mpr ⟨kw557, fun _ h => absurd h List.not_mem_nil⟩⟩⟩⟩⟩
theorem kw558 : Cond.methodLink RX8 169 yX1_howMany ∈ lw_tbl := kin3 _ (List.mem_of_getElem? (i := 200) (by decide +kernel))
theorem qml_r89 : ∀ w ∈ qml_w (8, 169, 26, 1, 0), w ∈ lw_tbl := List.forall_mem_cons.mpr ⟨kw558, List.forall_mem_cons.mpr ⟨kw417, List.forall_mem_cons.mpr ⟨kw418, List.forall_mem_cons.mpr ⟨kw254, List.forall_mem_cons.mpr ⟨kw419, fun _ h => absurd h List.not_mem_nil⟩⟩⟩⟩⟩
theorem qml_ok2 : ∀ r ∈ qml_2, ∀ w ∈ qml_w r, w ∈ lw_tbl := List.forall_mem_cons.mpr ⟨qml_r60, List.forall_mem_cons.mpr ⟨qml_r61, List.forall_mem_cons.mpr ⟨qml_r62, List.forall_mem_cons.mpr ⟨qml_r63, List.forall_mem_cons.mpr ⟨qml_r64, List.forall_mem_cons.mpr ⟨qml_r65, List.forall_mem_cons.mpr ⟨qml_r66, List.forall_mem_cons.mpr ⟨qml_r67, List.forall_mem_cons.mpr ⟨qml_r68, List.forall_mem_cons.mpr ⟨qml_r69, List.forall_mem_cons.mpr ⟨qml_r70, List.forall_mem_cons.mpr ⟨qml_r71, List.forall_mem_cons.mpr ⟨qml_r72, List.forall_mem_cons.mpr ⟨qml_r73, List.forall_mem_cons.mpr ⟨qml_r74, List.forall_mem_cons.mpr ⟨qml_r75, List.forall_mem_cons.mpr ⟨qml_r76, List.forall_mem_cons.mpr ⟨qml_r77, List.forall_mem_cons.mpr ⟨qml_r78, List.forall_mem_cons.mpr ⟨qml_r79, List.forall_mem_cons.mpr ⟨qml_r80, List.forall_mem_cons.mpr ⟨qml_r81, List.forall_mem_cons.mpr ⟨qml_r82, List.forall_mem_cons.mpr ⟨qml_r83, List.forall_mem_cons.mpr ⟨qml_r84, List.forall_mem_cons.mpr ⟨qml_r85, List.forall_mem_cons.mpr ⟨qml_r86, List.forall_mem_cons.mpr ⟨qml_r87, List.forall_mem_cons.mpr ⟨qml_r88, List.forall_mem_cons.mpr ⟨qml_r89, fun _ h => absurd h List.not_mem_nil⟩⟩⟩⟩⟩⟩⟩⟩⟩⟩⟩⟩⟩⟩⟩⟩⟩⟩⟩⟩⟩⟩⟩⟩⟩⟩⟩⟩⟩⟩
theorem kw559 : Cond.methodLink RX8 172 yX1_wasted ∈ lw_tbl := kin3 _ (List.mem_of_getElem? (i := 201) (by decide +kernel))
theorem qml_r90 : ∀ w ∈ qml_w (8, 172, 27, 0, 0), w ∈ lw_tbl := List.forall_mem_cons.mpr ⟨kw559, List.forall_mem_cons.mpr ⟨kw425, List.forall_mem_cons.mpr ⟨kw426, List.forall_mem_cons.mpr ⟨kw254, List.forall_mem_cons.mpr ⟨kw427, fun _ h => absurd h List.not_mem_nil⟩⟩⟩⟩⟩
theorem kw560 : Cond.methodLink RX8 180 yX5_takeFrom ∈ lw_tbl := kin3 _ (List.mem_of_getElem? (i := 196) (by decide +kernel))
theorem kw561 : Cond.instanceMethod yX5_takeFrom ∈ lw_tbl := kin3 _ (List.mem_of_getElem? (i := 197) (by decide +kernel))
theorem kw562 : Cond.selects RX5 yX5_takeFrom yX5_takeFrom ∈ lw_tbl := kin3 _ (List.mem_of_getElem? (i := 198) (by decide +kernel))
theorem kw563 : Cond.code yX5_takeFrom cX5_takeFrom 2 none ∈ lw_tbl := kin3 _ (List.mem_of_getElem? (i := 199) rfl)
theorem qml_r91 : ∀ w ∈ qml_w (8, 180, 56, 1, 0), w ∈ lw_tbl := List.forall_mem_cons.mpr ⟨kw560, List.forall_mem_cons.mpr ⟨kw561, List.forall_mem_cons.mpr ⟨kw562, List.forall_mem_cons.mpr ⟨kw235, List.forall_mem_cons.mpr ⟨kw563, fun _ h => absurd h List.not_mem_nil⟩⟩⟩⟩⟩
theorem kw564 : Cond.methodLink RX8 185 yX8_holds ∈ lw_tbl := kin3 _ (List.mem_of_getElem? (i := 209) (by decide +kernel))
theorem kw565 : Cond.instanceMethod yX8_holds ∈ lw_tbl := kin3 _ (List.mem_of_getElem? (i := 211) (by decide +kernel))
theorem kw566 : Cond.selects RX8 yX8_holds yX8_holds ∈ lw_tbl := kin0 _ (List.mem_of_getElem? (i := 27) (by decide +kernel))
theorem kw567 : Cond.code yX8_holds cX8_holds 5 (some .boolean) ∈ lw_tbl := kin3 _ (List.mem_of_getElem? (i := 212) rfl)
theorem qml_r92 : ∀ w ∈ qml_w (8, 185, 94, 1, 0), w ∈ lw_tbl := List.forall_mem_cons.mpr ⟨kw564, List.forall_mem_cons.mpr ⟨kw565, List.forall_mem_cons.mpr ⟨kw566, List.forall_mem_cons.mpr ⟨kw257, List.forall_mem_cons.mpr ⟨kw567, fun _ h => absurd h List.not_mem_nil⟩⟩⟩⟩⟩
theorem kw568 : Cond.methodLink RX8 188 yX6_add ∈ lw_tbl := kin3 _ (List.mem_of_getElem? (i := 225) (by decide +kernel))
theorem kw569 : Cond.instanceMethod yX6_add ∈ lw_tbl := kin3 _ (List.mem_of_getElem? (i := 226) (by decide +kernel))
theorem kw570 : Cond.selects RX6 yX6_add yX6_add ∈ lw_tbl := kin3 _ (List.mem_of_getElem? (i := 227) (by decide +kernel))
theorem kw571 : Cond.code yX6_add cX6_add 3 none ∈ lw_tbl := kin3 _ (List.mem_of_getElem? (i := 228) rfl)
theorem qml_r93 : ∀ w ∈ qml_w (8, 188, 60, 2, 0), w ∈ lw_tbl := List.forall_mem_cons.mpr ⟨kw568, List.forall_mem_cons.mpr ⟨kw569, List.forall_mem_cons.mpr ⟨kw570, List.forall_mem_cons.mpr ⟨kw251, List.forall_mem_cons.mpr ⟨kw571, fun _ h => absurd h List.not_mem_nil⟩⟩⟩⟩⟩
theorem kw572 : Cond.methodLink RX8 189 yX6_isSo ∈ lw_tbl := kin3 _ (List.mem_of_getElem? (i := 237) (by decide +kernel))
theorem kw573 : Cond.instanceMethod yX6_isSo ∈ lw_tbl := kin3 _ (List.mem_of_getElem? (i := 238) (by decide +kernel))
theorem kw574 : Cond.selects RX6 yX6_isSo yX6_isSo ∈ lw_tbl := kin3 _ (List.mem_of_getElem? (i := 239) (by decide +kernel))
theorem kw575 : Cond.code yX6_isSo cX6_isSo 4 (some .boolean) ∈ lw_tbl := kin4 _ (List.mem_of_getElem? (i := 0) rfl)
theorem qml_r94 : ∀ w ∈ qml_w (8, 189, 61, 1, 0), w ∈ lw_tbl := List.forall_mem_cons.mpr ⟨kw572, List.forall_mem_cons.mpr ⟨kw573, List.forall_mem_cons.mpr ⟨kw574, List.forall_mem_cons.mpr ⟨kw251, List.forall_mem_cons.mpr ⟨kw575, fun _ h => absurd h List.not_mem_nil⟩⟩⟩⟩⟩
theorem kw576 : Cond.methodLink RX8 193 yX5_isOut ∈ lw_tbl := kin4 _ (List.mem_of_getElem? (i := 5) (by decide +kernel))
theorem qml_r95 : ∀ w ∈ qml_w (8, 193, 57, 1, 0), w ∈ lw_tbl := List.forall_mem_cons.mpr ⟨kw576, List.forall_mem_cons.mpr ⟨kw405, List.forall_mem_cons.mpr ⟨kw406, List.forall_mem_cons.mpr ⟨kw235, List.forall_mem_cons.mpr ⟨kw407, fun _ h => absurd h List.not_mem_nil⟩⟩⟩⟩⟩
theorem kw577 : Cond.methodLink RX8 196 yJ6_bitCount_0f7a4 ∈ lw_tbl := kin4 _ (List.mem_of_getElem? (i := 6) (by decide +kernel))
theorem qml_r96 : ∀ w ∈ qml_w (8, 196, 179, 1, 1), w ∈ lw_tbl := List.forall_mem_cons.mpr ⟨kw577, List.forall_mem_cons.mpr ⟨kw281, List.forall_mem_cons.mpr ⟨kw282, List.forall_mem_cons.mpr ⟨kw283, fun _ h => absurd h List.not_mem_nil⟩⟩⟩⟩
theorem kw578 : Cond.methodLink RX8 201 yX8_orders ∈ lw_tbl := kin4 _ (List.mem_of_getElem? (i := 7) (by decide +kernel))
theorem kw579 : Cond.static yX8_orders ∈ lw_tbl := kin4 _ (List.mem_of_getElem? (i := 8) (by decide +kernel))
theorem kw580 : Cond.code yX8_orders cX8_orders 7 (some .int) ∈ lw_tbl := kin4 _ (List.mem_of_getElem? (i := 9) rfl)
theorem qml_r97 : ∀ w ∈ qml_w (8, 201, 97, 3, 1), w ∈ lw_tbl := List.forall_mem_cons.mpr ⟨kw578, List.forall_mem_cons.mpr ⟨kw579, List.forall_mem_cons.mpr ⟨kw257, List.forall_mem_cons.mpr ⟨kw580, fun _ h => absurd h List.not_mem_nil⟩⟩⟩⟩
theorem kw581 : Cond.methodLink RX8 208 yX8_ofFraction ∈ lw_tbl := kin4 _ (List.mem_of_getElem? (i := 12) (by decide +kernel))
theorem kw582 : Cond.static yX8_ofFraction ∈ lw_tbl := kin4 _ (List.mem_of_getElem? (i := 13) (by decide +kernel))
theorem kw583 : Cond.code yX8_ofFraction cX8_ofFraction 7 (some .int) ∈ lw_tbl := kin4 _ (List.mem_of_getElem? (i := 14) rfl)
theorem qml_r98 : ∀ w ∈ qml_w (8, 208, 100, 3, 1), w ∈ lw_tbl := List.forall_mem_cons.mpr ⟨kw581, List.forall_mem_cons.mpr ⟨kw582, List.forall_mem_cons.mpr ⟨kw257, List.forall_mem_cons.mpr ⟨kw583, fun _ h => absurd h List.not_mem_nil⟩⟩⟩⟩
theorem kw584 : Cond.methodLink RX8 212 yX8_chance ∈ lw_tbl := kin4 _ (List.mem_of_getElem? (i := 22) (by decide +kernel))
theorem kw585 : Cond.instanceMethod yX8_chance ∈ lw_tbl := kin4 _ (List.mem_of_getElem? (i := 24) (by decide +kernel))
theorem kw586 : Cond.selects RX8 yX8_chance yX8_chance ∈ lw_tbl := kin0 _ (List.mem_of_getElem? (i := 30) (by decide +kernel))
theorem kw587 : Cond.code yX8_chance cX8_chance 5 (some .int) ∈ lw_tbl := kin4 _ (List.mem_of_getElem? (i := 25) rfl)
theorem qml_r99 : ∀ w ∈ qml_w (8, 212, 98, 2, 0), w ∈ lw_tbl := List.forall_mem_cons.mpr ⟨kw584, List.forall_mem_cons.mpr ⟨kw585, List.forall_mem_cons.mpr ⟨kw586, List.forall_mem_cons.mpr ⟨kw257, List.forall_mem_cons.mpr ⟨kw587, fun _ h => absurd h List.not_mem_nil⟩⟩⟩⟩⟩
theorem kw588 : Cond.methodLink RX8 215 yX8_draw ∈ lw_tbl := kin4 _ (List.mem_of_getElem? (i := 34) (by decide +kernel))
theorem kw589 : Cond.instanceMethod yX8_draw ∈ lw_tbl := kin4 _ (List.mem_of_getElem? (i := 36) (by decide +kernel))
theorem kw590 : Cond.selects RX8 yX8_draw yX8_draw ∈ lw_tbl := kin0 _ (List.mem_of_getElem? (i := 31) (by decide +kernel))
theorem kw591 : Cond.code yX8_draw cX8_draw 2 (some .int) ∈ lw_tbl := kin4 _ (List.mem_of_getElem? (i := 37) rfl)
theorem qml_r100 : ∀ w ∈ qml_w (8, 215, 99, 1, 0), w ∈ lw_tbl := List.forall_mem_cons.mpr ⟨kw588, List.forall_mem_cons.mpr ⟨kw589, List.forall_mem_cons.mpr ⟨kw590, List.forall_mem_cons.mpr ⟨kw257, List.forall_mem_cons.mpr ⟨kw591, fun _ h => absurd h List.not_mem_nil⟩⟩⟩⟩⟩
theorem kw592 : Cond.methodLink RX8 218 yX8_endsBy ∈ lw_tbl := kin3 _ (List.mem_of_getElem? (i := 213) (by decide +kernel))
theorem kw593 : Cond.instanceMethod yX8_endsBy ∈ lw_tbl := kin3 _ (List.mem_of_getElem? (i := 215) (by decide +kernel))
theorem kw594 : Cond.selects RX8 yX8_endsBy yX8_endsBy ∈ lw_tbl := kin0 _ (List.mem_of_getElem? (i := 28) (by decide +kernel))
theorem kw595 : Cond.code yX8_endsBy cX8_endsBy 3 (some .boolean) ∈ lw_tbl := kin3 _ (List.mem_of_getElem? (i := 216) rfl)
theorem qml_r101 : ∀ w ∈ qml_w (8, 218, 95, 2, 0), w ∈ lw_tbl := List.forall_mem_cons.mpr ⟨kw592, List.forall_mem_cons.mpr ⟨kw593, List.forall_mem_cons.mpr ⟨kw594, List.forall_mem_cons.mpr ⟨kw257, List.forall_mem_cons.mpr ⟨kw595, fun _ h => absurd h List.not_mem_nil⟩⟩⟩⟩⟩
theorem kw596 : Cond.methodLink RX8 221 yX8_putsOut ∈ lw_tbl := kin3 _ (List.mem_of_getElem? (i := 217) (by decide +kernel))
theorem kw597 : Cond.instanceMethod yX8_putsOut ∈ lw_tbl := kin3 _ (List.mem_of_getElem? (i := 219) (by decide +kernel))
theorem kw598 : Cond.selects RX8 yX8_putsOut yX8_putsOut ∈ lw_tbl := kin0 _ (List.mem_of_getElem? (i := 29) (by decide +kernel))
theorem kw599 : Cond.code yX8_putsOut cX8_putsOut 5 (some .boolean) ∈ lw_tbl := kin3 _ (List.mem_of_getElem? (i := 220) rfl)
theorem qml_r102 : ∀ w ∈ qml_w (8, 221, 96, 2, 0), w ∈ lw_tbl := List.forall_mem_cons.mpr ⟨kw596, List.forall_mem_cons.mpr ⟨kw597, List.forall_mem_cons.mpr ⟨kw598, List.forall_mem_cons.mpr ⟨kw257, List.forall_mem_cons.mpr ⟨kw599, fun _ h => absurd h List.not_mem_nil⟩⟩⟩⟩⟩
theorem kw600 : Cond.methodLink RX8 231 yJ9_abs_0f7a4 ∈ lw_tbl := kin4 _ (List.mem_of_getElem? (i := 15) (by decide +kernel))
theorem kw601 : Cond.static yJ9_abs_0f7a4 ∈ lw_tbl := kin4 _ (List.mem_of_getElem? (i := 16) (by decide +kernel))
theorem kw602 : Cond.code yJ9_abs_0f7a4 cJ9_abs_0f7a4 1 (some .int) ∈ lw_tbl := kin4 _ (List.mem_of_getElem? (i := 17) rfl)
theorem qml_r103 : ∀ w ∈ qml_w (8, 231, 0, 1, 9), w ∈ lw_tbl := List.forall_mem_cons.mpr ⟨kw600, List.forall_mem_cons.mpr ⟨kw601, List.forall_mem_cons.mpr ⟨kw278, List.forall_mem_cons.mpr ⟨kw602, fun _ h => absurd h List.not_mem_nil⟩⟩⟩⟩
theorem kw603 : Cond.methodLink RX9 1 objectInit ∈ lw_tbl := kin4 _ (List.mem_of_getElem? (i := 53) (by decide +kernel))
theorem qml_r104 : ∀ w ∈ qml_w (9, 1, 0, 0, 6), w ∈ lw_tbl := List.forall_mem_cons.mpr ⟨kw603, List.forall_mem_cons.mpr ⟨kw262, List.forall_mem_cons.mpr ⟨kw263, fun _ h => absurd h List.not_mem_nil⟩⟩⟩
theorem kw604 : Cond.methodLink RX9 158 yX9_begin ∈ lw_tbl := kin4 _ (List.mem_of_getElem? (i := 54) (by decide +kernel))
theorem kw605 : Cond.instanceMethod yX9_begin ∈ lw_tbl := kin4 _ (List.mem_of_getElem? (i := 56) (by decide +kernel))
theorem kw606 : Cond.selects RX9 yX9_begin yX9_begin ∈ lw_tbl := kin0 _ (List.mem_of_getElem? (i := 32) (by decide +kernel))
theorem kw607 : Cond.code yX9_begin cX9_begin 1 none ∈ lw_tbl := kin4 _ (List.mem_of_getElem? (i := 57) rfl)
theorem qml_r105 : ∀ w ∈ qml_w (9, 158, 103, 0, 0), w ∈ lw_tbl := List.forall_mem_cons.mpr ⟨kw604, List.forall_mem_cons.mpr ⟨kw605, List.forall_mem_cons.mpr ⟨kw606, List.forall_mem_cons.mpr ⟨kw260, List.forall_mem_cons.mpr ⟨kw607, fun _ h => absurd h List.not_mem_nil⟩⟩⟩⟩⟩
theorem kw608 : Cond.methodLink RX9 161 yX9_divisor ∈ lw_tbl := kin6 _ (List.mem_of_getElem? (i := 64) (by decide +kernel))
theorem kw609 : Cond.static yX9_divisor ∈ lw_tbl := kin6 _ (List.mem_of_getElem? (i := 65) (by decide +kernel))
theorem kw610 : Cond.code yX9_divisor cX9_divisor 5 (some .int) ∈ lw_tbl := kin6 _ (List.mem_of_getElem? (i := 66) rfl)
theorem qml_r106 : ∀ w ∈ qml_w (9, 161, 109, 2, 1), w ∈ lw_tbl := List.forall_mem_cons.mpr ⟨kw608, List.forall_mem_cons.mpr ⟨kw609, List.forall_mem_cons.mpr ⟨kw260, List.forall_mem_cons.mpr ⟨kw610, fun _ h => absurd h List.not_mem_nil⟩⟩⟩⟩
theorem kw611 : Cond.methodLink RX9 175 yX9_wholeOf ∈ lw_tbl := kin5 _ (List.mem_of_getElem? (i := 162) (by decide +kernel))
theorem kw612 : Cond.static yX9_wholeOf ∈ lw_tbl := kin5 _ (List.mem_of_getElem? (i := 163) (by decide +kernel))
theorem kw613 : Cond.code yX9_wholeOf cX9_wholeOf 3 (some .long) ∈ lw_tbl := kin5 _ (List.mem_of_getElem? (i := 164) rfl)
theorem qml_r107 : ∀ w ∈ qml_w (9, 175, 111, 1, 1), w ∈ lw_tbl := List.forall_mem_cons.mpr ⟨kw611, List.forall_mem_cons.mpr ⟨kw612, List.forall_mem_cons.mpr ⟨kw260, List.forall_mem_cons.mpr ⟨kw613, fun _ h => absurd h List.not_mem_nil⟩⟩⟩⟩
theorem kw614 : Cond.methodLink RX9 179 yX9_powerOf ∈ lw_tbl := kin5 _ (List.mem_of_getElem? (i := 167) (by decide +kernel))
theorem kw615 : Cond.static yX9_powerOf ∈ lw_tbl := kin5 _ (List.mem_of_getElem? (i := 168) (by decide +kernel))
theorem kw616 : Cond.code yX9_powerOf cX9_powerOf 1 (some .int) ∈ lw_tbl := kin5 _ (List.mem_of_getElem? (i := 169) rfl)
theorem qml_r108 : ∀ w ∈ qml_w (9, 179, 112, 1, 1), w ∈ lw_tbl := List.forall_mem_cons.mpr ⟨kw614, List.forall_mem_cons.mpr ⟨kw615, List.forall_mem_cons.mpr ⟨kw260, List.forall_mem_cons.mpr ⟨kw616, fun _ h => absurd h List.not_mem_nil⟩⟩⟩⟩
theorem kw617 : Cond.methodLink RX9 183 yX9_bitsOf ∈ lw_tbl := kin5 _ (List.mem_of_getElem? (i := 127) (by decide +kernel))
theorem kw618 : Cond.static yX9_bitsOf ∈ lw_tbl := kin5 _ (List.mem_of_getElem? (i := 128) (by decide +kernel))
theorem kw619 : Cond.code yX9_bitsOf cX9_bitsOf 11 (some .int) ∈ lw_tbl := kin5 _ (List.mem_of_getElem? (i := 129) rfl)
theorem qml_r109 : ∀ w ∈ qml_w (9, 183, 113, 2, 1), w ∈ lw_tbl := List.forall_mem_cons.mpr ⟨kw617, List.forall_mem_cons.mpr ⟨kw618, List.forall_mem_cons.mpr ⟨kw260, List.forall_mem_cons.mpr ⟨kw619, fun _ h => absurd h List.not_mem_nil⟩⟩⟩⟩
theorem kw620 : Cond.methodLink RX9 187 yX9_plus ∈ lw_tbl := kin5 _ (List.mem_of_getElem? (i := 159) (by decide +kernel))
theorem kw621 : Cond.static yX9_plus ∈ lw_tbl := kin5 _ (List.mem_of_getElem? (i := 160) (by decide +kernel))
theorem kw622 : Cond.code yX9_plus cX9_plus 8 (some .int) ∈ lw_tbl := kin5 _ (List.mem_of_getElem? (i := 161) rfl)
theorem qml_r110 : ∀ w ∈ qml_w (9, 187, 114, 3, 1), w ∈ lw_tbl := List.forall_mem_cons.mpr ⟨kw620, List.forall_mem_cons.mpr ⟨kw621, List.forall_mem_cons.mpr ⟨kw260, List.forall_mem_cons.mpr ⟨kw622, fun _ h => absurd h List.not_mem_nil⟩⟩⟩⟩
theorem kw623 : Cond.methodLink RX9 193 yX9_in ∈ lw_tbl := kin5 _ (List.mem_of_getElem? (i := 31) (by decide +kernel))
theorem kw624 : Cond.static yX9_in ∈ lw_tbl := kin5 _ (List.mem_of_getElem? (i := 32) (by decide +kernel))
theorem kw625 : Cond.code yX9_in cX9_in 6 (some .boolean) ∈ lw_tbl := kin5 _ (List.mem_of_getElem? (i := 33) rfl)
theorem qml_r111 : ∀ w ∈ qml_w (9, 193, 104, 3, 1), w ∈ lw_tbl := List.forall_mem_cons.mpr ⟨kw623, List.forall_mem_cons.mpr ⟨kw624, List.forall_mem_cons.mpr ⟨kw260, List.forall_mem_cons.mpr ⟨kw625, fun _ h => absurd h List.not_mem_nil⟩⟩⟩⟩
theorem kw626 : Cond.methodLink RX9 232 yX9_takePart ∈ lw_tbl := kin5 _ (List.mem_of_getElem? (i := 48) (by decide +kernel))
theorem kw627 : Cond.instanceMethod yX9_takePart ∈ lw_tbl := kin5 _ (List.mem_of_getElem? (i := 50) (by decide +kernel))
theorem kw628 : Cond.selects RX9 yX9_takePart yX9_takePart ∈ lw_tbl := kin0 _ (List.mem_of_getElem? (i := 34) (by decide +kernel))
theorem kw629 : Cond.code yX9_takePart cX9_takePart 3 (some .boolean) ∈ lw_tbl := kin5 _ (List.mem_of_getElem? (i := 51) rfl)
theorem qml_r112 : ∀ w ∈ qml_w (9, 232, 119, 1, 0), w ∈ lw_tbl := List.forall_mem_cons.mpr ⟨kw626, List.forall_mem_cons.mpr ⟨kw627, List.forall_mem_cons.mpr ⟨kw628, List.forall_mem_cons.mpr ⟨kw260, List.forall_mem_cons.mpr ⟨kw629, fun _ h => absurd h List.not_mem_nil⟩⟩⟩⟩⟩
theorem kw630 : Cond.methodLink RX9 236 yX9_takeOfHost ∈ lw_tbl := kin5 _ (List.mem_of_getElem? (i := 52) (by decide +kernel))
theorem kw631 : Cond.instanceMethod yX9_takeOfHost ∈ lw_tbl := kin5 _ (List.mem_of_getElem? (i := 54) (by decide +kernel))
theorem kw632 : Cond.selects RX9 yX9_takeOfHost yX9_takeOfHost ∈ lw_tbl := kin0 _ (List.mem_of_getElem? (i := 35) (by decide +kernel))
theorem kw633 : Cond.code yX9_takeOfHost cX9_takeOfHost 2 (some .boolean) ∈ lw_tbl := kin5 _ (List.mem_of_getElem? (i := 55) rfl)
theorem qml_r113 : ∀ w ∈ qml_w (9, 236, 120, 1, 0), w ∈ lw_tbl := List.forall_mem_cons.mpr ⟨kw630, List.forall_mem_cons.mpr ⟨kw631, List.forall_mem_cons.mpr ⟨kw632, List.forall_mem_cons.mpr ⟨kw260, List.forall_mem_cons.mpr ⟨kw633, fun _ h => absurd h List.not_mem_nil⟩⟩⟩⟩⟩
theorem kw634 : Cond.methodLink RX9 239 yX9_takeOfSpan ∈ lw_tbl := kin5 _ (List.mem_of_getElem? (i := 59) (by decide +kernel))
theorem kw635 : Cond.instanceMethod yX9_takeOfSpan ∈ lw_tbl := kin5 _ (List.mem_of_getElem? (i := 61) (by decide +kernel))
theorem kw636 : Cond.selects RX9 yX9_takeOfSpan yX9_takeOfSpan ∈ lw_tbl := kin0 _ (List.mem_of_getElem? (i := 36) (by decide +kernel))
theorem kw637 : Cond.code yX9_takeOfSpan cX9_takeOfSpan 3 (some .boolean) ∈ lw_tbl := kin5 _ (List.mem_of_getElem? (i := 62) rfl)
theorem qml_r114 : ∀ w ∈ qml_w (9, 239, 121, 1, 0), w ∈ lw_tbl := List.forall_mem_cons.mpr ⟨kw634, List.forall_mem_cons.mpr ⟨kw635, List.forall_mem_cons.mpr ⟨kw636, List.forall_mem_cons.mpr ⟨kw260, List.forall_mem_cons.mpr ⟨kw637, fun _ h => absurd h List.not_mem_nil⟩⟩⟩⟩⟩
theorem kw638 : Cond.methodLink RX9 242 yX9_takeOfAsk ∈ lw_tbl := kin5 _ (List.mem_of_getElem? (i := 64) (by decide +kernel))
theorem kw639 : Cond.instanceMethod yX9_takeOfAsk ∈ lw_tbl := kin5 _ (List.mem_of_getElem? (i := 66) (by decide +kernel))
theorem kw640 : Cond.selects RX9 yX9_takeOfAsk yX9_takeOfAsk ∈ lw_tbl := kin0 _ (List.mem_of_getElem? (i := 37) (by decide +kernel))
theorem kw641 : Cond.code yX9_takeOfAsk cX9_takeOfAsk 3 (some .boolean) ∈ lw_tbl := kin5 _ (List.mem_of_getElem? (i := 67) rfl)
theorem qml_r115 : ∀ w ∈ qml_w (9, 242, 122, 1, 0), w ∈ lw_tbl := List.forall_mem_cons.mpr ⟨kw638, List.forall_mem_cons.mpr ⟨kw639, List.forall_mem_cons.mpr ⟨kw640, List.forall_mem_cons.mpr ⟨kw260, List.forall_mem_cons.mpr ⟨kw641, fun _ h => absurd h List.not_mem_nil⟩⟩⟩⟩⟩
theorem kw642 : Cond.methodLink RX9 245 yX9_readText ∈ lw_tbl := kin5 _ (List.mem_of_getElem? (i := 42) (by decide +kernel))
theorem kw643 : Cond.instanceMethod yX9_readText ∈ lw_tbl := kin5 _ (List.mem_of_getElem? (i := 44) (by decide +kernel))
theorem kw644 : Cond.selects RX9 yX9_readText yX9_readText ∈ lw_tbl := kin0 _ (List.mem_of_getElem? (i := 33) (by decide +kernel))
theorem kw645 : Cond.code yX9_readText cX9_readText 4 (some .int) ∈ lw_tbl := kin5 _ (List.mem_of_getElem? (i := 45) rfl)
theorem qml_r116 : ∀ w ∈ qml_w (9, 245, 123, 0, 0), w ∈ lw_tbl := List.forall_mem_cons.mpr ⟨kw642, List.forall_mem_cons.mpr ⟨kw643, List.forall_mem_cons.mpr ⟨kw644, List.forall_mem_cons.mpr ⟨kw260, List.forall_mem_cons.mpr ⟨kw645, fun _ h => absurd h List.not_mem_nil⟩⟩⟩⟩⟩
theorem kw646 : Cond.methodLink RX9 261 yX9_waitsAt ∈ lw_tbl := kin5 _ (List.mem_of_getElem? (i := 206) (by decide +kernel))
theorem kw647 : Cond.instanceMethod yX9_waitsAt ∈ lw_tbl := kin5 _ (List.mem_of_getElem? (i := 208) (by decide +kernel))
theorem kw648 : Cond.selects RX9 yX9_waitsAt yX9_waitsAt ∈ lw_tbl := kin0 _ (List.mem_of_getElem? (i := 58) (by decide +kernel))
theorem kw649 : Cond.code yX9_waitsAt cX9_waitsAt 5 (some .boolean) ∈ lw_tbl := kin5 _ (List.mem_of_getElem? (i := 209) rfl)
theorem qml_r117 : ∀ w ∈ qml_w (9, 261, 127, 2, 0), w ∈ lw_tbl := List.forall_mem_cons.mpr ⟨kw646, List.forall_mem_cons.mpr ⟨kw647, List.forall_mem_cons.mpr ⟨kw648, List.forall_mem_cons.mpr ⟨kw260, List.forall_mem_cons.mpr ⟨kw649, fun _ h => absurd h List.not_mem_nil⟩⟩⟩⟩⟩
theorem kw650 : Cond.methodLink RX9 265 yX9_isWorkedAt ∈ lw_tbl := kin5 _ (List.mem_of_getElem? (i := 210) (by decide +kernel))
theorem kw651 : Cond.instanceMethod yX9_isWorkedAt ∈ lw_tbl := kin5 _ (List.mem_of_getElem? (i := 212) (by decide +kernel))
theorem kw652 : Cond.selects RX9 yX9_isWorkedAt yX9_isWorkedAt ∈ lw_tbl := kin0 _ (List.mem_of_getElem? (i := 59) (by decide +kernel))
theorem kw653 : Cond.code yX9_isWorkedAt cX9_isWorkedAt 5 (some .boolean) ∈ lw_tbl := kin5 _ (List.mem_of_getElem? (i := 213) rfl)
theorem qml_r118 : ∀ w ∈ qml_w (9, 265, 128, 2, 0), w ∈ lw_tbl := List.forall_mem_cons.mpr ⟨kw650, List.forall_mem_cons.mpr ⟨kw651, List.forall_mem_cons.mpr ⟨kw652, List.forall_mem_cons.mpr ⟨kw260, List.forall_mem_cons.mpr ⟨kw653, fun _ h => absurd h List.not_mem_nil⟩⟩⟩⟩⟩
theorem kw654 : Cond.methodLink RX9 268 yX9_takeFromRow ∈ lw_tbl := kin5 _ (List.mem_of_getElem? (i := 152) (by decide +kernel))
theorem kw655 : Cond.instanceMethod yX9_takeFromRow ∈ lw_tbl := kin5 _ (List.mem_of_getElem? (i := 154) (by decide +kernel))
theorem kw656 : Cond.selects RX9 yX9_takeFromRow yX9_takeFromRow ∈ lw_tbl := kin0 _ (List.mem_of_getElem? (i := 49) (by decide +kernel))
theorem kw657 : Cond.code yX9_takeFromRow cX9_takeFromRow 4 none ∈ lw_tbl := kin5 _ (List.mem_of_getElem? (i := 155) rfl)
theorem qml_r119 : ∀ w ∈ qml_w (9, 268, 130, 2, 0), w ∈ lw_tbl := List.forall_mem_cons.mpr ⟨kw654, List.forall_mem_cons.mpr ⟨kw655, List.forall_mem_cons.mpr ⟨kw656, List.forall_mem_cons.mpr ⟨kw260, List.forall_mem_cons.mpr ⟨kw657, fun _ h => absurd h List.not_mem_nil⟩⟩⟩⟩⟩
theorem qml_ok3 : ∀ r ∈ qml_3, ∀ w ∈ qml_w r, w ∈ lw_tbl := List.forall_mem_cons.mpr ⟨qml_r90, List.forall_mem_cons.mpr ⟨qml_r91, List.forall_mem_cons.mpr ⟨qml_r92, List.forall_mem_cons.mpr ⟨qml_r93, List.forall_mem_cons.mpr ⟨qml_r94, List.forall_mem_cons.mpr ⟨qml_r95, List.forall_mem_cons.mpr ⟨qml_r96, List.forall_mem_cons.mpr ⟨qml_r97, List.forall_mem_cons.mpr ⟨qml_r98, List.forall_mem_cons.mpr ⟨qml_r99, List.forall_mem_cons.mpr ⟨qml_r100, List.forall_mem_cons.mpr ⟨qml_r101, List.forall_mem_cons.mpr ⟨qml_r102, List.forall_mem_cons.mpr ⟨qml_r103, List.forall_mem_cons.mpr ⟨qml_r104, List.forall_mem_cons.mpr ⟨qml_r105, List.forall_mem_cons.mpr ⟨qml_r106, List.forall_mem_cons.mpr ⟨qml_r107, List.forall_mem_cons.mpr ⟨qml_r108, List.forall_mem_cons.mpr ⟨qml_r109, List.forall_mem_cons.mpr ⟨qml_r110, List.forall_mem_cons.mpr ⟨qml_r111, List.forall_mem_cons.mpr ⟨qml_r112, List.forall_mem_cons.mpr ⟨qml_r113, List.forall_mem_cons.mpr ⟨qml_r114, List.forall_mem_cons.mpr ⟨qml_r115, List.forall_mem_cons.mpr ⟨qml_r116, List.forall_mem_cons.mpr ⟨qml_r117, List.forall_mem_cons.mpr ⟨qml_r118, List.forall_mem_cons.mpr ⟨qml_r119, fun _ h => absurd h List.not_mem_nil⟩⟩⟩⟩⟩⟩⟩⟩⟩⟩⟩⟩⟩⟩⟩⟩⟩⟩⟩⟩⟩⟩⟩⟩⟩⟩⟩⟩⟩⟩
theorem kw658 : Cond.methodLink RX9 272 yX9_breakerAt ∈ lw_tbl := kin5 _ (List.mem_of_getElem? (i := 174) (by decide +kernel))
theorem kw659 : Cond.instanceMethod yX9_breakerAt ∈ lw_tbl := kin5 _ (List.mem_of_getElem? (i := 176) (by decide +kernel))
theorem kw660 : Cond.selects RX9 yX9_breakerAt yX9_breakerAt ∈ lw_tbl := kin0 _ (List.mem_of_getElem? (i := 51) (by decide +kernel))
theorem kw661 : Cond.code yX9_breakerAt cX9_breakerAt 3 (some .int) ∈ lw_tbl := kin5 _ (List.mem_of_getElem? (i := 177) rfl)
theorem qml_r120 : ∀ w ∈ qml_w (9, 272, 132, 2, 0), w ∈ lw_tbl := List.forall_mem_cons.mpr ⟨kw658, List.forall_mem_cons.mpr ⟨kw659, List.forall_mem_cons.mpr ⟨kw660, List.forall_mem_cons.mpr ⟨kw260, List.forall_mem_cons.mpr ⟨kw661, fun _ h => absurd h List.not_mem_nil⟩⟩⟩⟩⟩
theorem kw662 : Cond.methodLink RX9 275 yX9_manyCopiesAt ∈ lw_tbl := kin5 _ (List.mem_of_getElem? (i := 202) (by decide +kernel))
theorem kw663 : Cond.instanceMethod yX9_manyCopiesAt ∈ lw_tbl := kin5 _ (List.mem_of_getElem? (i := 204) (by decide +kernel))
theorem kw664 : Cond.selects RX9 yX9_manyCopiesAt yX9_manyCopiesAt ∈ lw_tbl := kin0 _ (List.mem_of_getElem? (i := 57) (by decide +kernel))
theorem kw665 : Cond.code yX9_manyCopiesAt cX9_manyCopiesAt 2 (some .int) ∈ lw_tbl := kin5 _ (List.mem_of_getElem? (i := 205) rfl)
theorem qml_r121 : ∀ w ∈ qml_w (9, 275, 126, 1, 0), w ∈ lw_tbl := List.forall_mem_cons.mpr ⟨kw662, List.forall_mem_cons.mpr ⟨kw663, List.forall_mem_cons.mpr ⟨kw664, List.forall_mem_cons.mpr ⟨kw260, List.forall_mem_cons.mpr ⟨kw665, fun _ h => absurd h List.not_mem_nil⟩⟩⟩⟩⟩
theorem kw666 : Cond.methodLink RX9 278 yX9_has ∈ lw_tbl := kin5 _ (List.mem_of_getElem? (i := 145) (by decide +kernel))
theorem kw667 : Cond.static yX9_has ∈ lw_tbl := kin5 _ (List.mem_of_getElem? (i := 146) (by decide +kernel))
theorem kw668 : Cond.code yX9_has cX9_has 2 (some .boolean) ∈ lw_tbl := kin5 _ (List.mem_of_getElem? (i := 147) rfl)
theorem qml_r122 : ∀ w ∈ qml_w (9, 278, 105, 2, 1), w ∈ lw_tbl := List.forall_mem_cons.mpr ⟨kw666, List.forall_mem_cons.mpr ⟨kw667, List.forall_mem_cons.mpr ⟨kw260, List.forall_mem_cons.mpr ⟨kw668, fun _ h => absurd h List.not_mem_nil⟩⟩⟩⟩
theorem kw669 : Cond.methodLink RX9 281 yX9_weight ∈ lw_tbl := kin5 _ (List.mem_of_getElem? (i := 218) (by decide +kernel))
theorem kw670 : Cond.instanceMethod yX9_weight ∈ lw_tbl := kin5 _ (List.mem_of_getElem? (i := 220) (by decide +kernel))
theorem kw671 : Cond.selects RX9 yX9_weight yX9_weight ∈ lw_tbl := kin0 _ (List.mem_of_getElem? (i := 61) (by decide +kernel))
theorem kw672 : Cond.code yX9_weight cX9_weight 2 (some .int) ∈ lw_tbl := kin5 _ (List.mem_of_getElem? (i := 221) rfl)
theorem qml_r123 : ∀ w ∈ qml_w (9, 281, 134, 1, 0), w ∈ lw_tbl := List.forall_mem_cons.mpr ⟨kw669, List.forall_mem_cons.mpr ⟨kw670, List.forall_mem_cons.mpr ⟨kw671, List.forall_mem_cons.mpr ⟨kw260, List.forall_mem_cons.mpr ⟨kw672, fun _ h => absurd h List.not_mem_nil⟩⟩⟩⟩⟩
theorem kw673 : Cond.methodLink RX9 287 yX9_mayTake ∈ lw_tbl := kin5 _ (List.mem_of_getElem? (i := 198) (by decide +kernel))
theorem kw674 : Cond.instanceMethod yX9_mayTake ∈ lw_tbl := kin5 _ (List.mem_of_getElem? (i := 200) (by decide +kernel))
theorem kw675 : Cond.selects RX9 yX9_mayTake yX9_mayTake ∈ lw_tbl := kin0 _ (List.mem_of_getElem? (i := 56) (by decide +kernel))
theorem kw676 : Cond.code yX9_mayTake cX9_mayTake 5 (some .boolean) ∈ lw_tbl := kin5 _ (List.mem_of_getElem? (i := 201) rfl)
theorem qml_r124 : ∀ w ∈ qml_w (9, 287, 133, 3, 0), w ∈ lw_tbl := List.forall_mem_cons.mpr ⟨kw673, List.forall_mem_cons.mpr ⟨kw674, List.forall_mem_cons.mpr ⟨kw675, List.forall_mem_cons.mpr ⟨kw260, List.forall_mem_cons.mpr ⟨kw676, fun _ h => absurd h List.not_mem_nil⟩⟩⟩⟩⟩
theorem kw677 : Cond.methodLink RX9 294 yX9_shedOne ∈ lw_tbl := kin5 _ (List.mem_of_getElem? (i := 214) (by decide +kernel))
theorem kw678 : Cond.instanceMethod yX9_shedOne ∈ lw_tbl := kin5 _ (List.mem_of_getElem? (i := 216) (by decide +kernel))
theorem kw679 : Cond.selects RX9 yX9_shedOne yX9_shedOne ∈ lw_tbl := kin0 _ (List.mem_of_getElem? (i := 60) (by decide +kernel))
theorem kw680 : Cond.code yX9_shedOne cX9_shedOne 4 none ∈ lw_tbl := kin5 _ (List.mem_of_getElem? (i := 217) rfl)
theorem qml_r125 : ∀ w ∈ qml_w (9, 294, 135, 1, 0), w ∈ lw_tbl := List.forall_mem_cons.mpr ⟨kw677, List.forall_mem_cons.mpr ⟨kw678, List.forall_mem_cons.mpr ⟨kw679, List.forall_mem_cons.mpr ⟨kw260, List.forall_mem_cons.mpr ⟨kw680, fun _ h => absurd h List.not_mem_nil⟩⟩⟩⟩⟩
theorem kw681 : Cond.methodLink RX9 301 yX9_forget ∈ lw_tbl := kin5 _ (List.mem_of_getElem? (i := 123) (by decide +kernel))
theorem kw682 : Cond.instanceMethod yX9_forget ∈ lw_tbl := kin5 _ (List.mem_of_getElem? (i := 125) (by decide +kernel))
theorem kw683 : Cond.selects RX9 yX9_forget yX9_forget ∈ lw_tbl := kin0 _ (List.mem_of_getElem? (i := 44) (by decide +kernel))
theorem kw684 : Cond.code yX9_forget cX9_forget 2 none ∈ lw_tbl := kin5 _ (List.mem_of_getElem? (i := 126) rfl)
theorem qml_r126 : ∀ w ∈ qml_w (9, 301, 138, 1, 0), w ∈ lw_tbl := List.forall_mem_cons.mpr ⟨kw681, List.forall_mem_cons.mpr ⟨kw682, List.forall_mem_cons.mpr ⟨kw683, List.forall_mem_cons.mpr ⟨kw260, List.forall_mem_cons.mpr ⟨kw684, fun _ h => absurd h List.not_mem_nil⟩⟩⟩⟩⟩
theorem kw685 : Cond.methodLink RX9 304 yX9_open ∈ lw_tbl := kin5 _ (List.mem_of_getElem? (i := 178) (by decide +kernel))
theorem kw686 : Cond.instanceMethod yX9_open ∈ lw_tbl := kin5 _ (List.mem_of_getElem? (i := 180) (by decide +kernel))
theorem kw687 : Cond.selects RX9 yX9_open yX9_open ∈ lw_tbl := kin0 _ (List.mem_of_getElem? (i := 52) (by decide +kernel))
theorem kw688 : Cond.code yX9_open cX9_open 3 none ∈ lw_tbl := kin5 _ (List.mem_of_getElem? (i := 181) rfl)
theorem qml_r127 : ∀ w ∈ qml_w (9, 304, 139, 2, 0), w ∈ lw_tbl := List.forall_mem_cons.mpr ⟨kw685, List.forall_mem_cons.mpr ⟨kw686, List.forall_mem_cons.mpr ⟨kw687, List.forall_mem_cons.mpr ⟨kw260, List.forall_mem_cons.mpr ⟨kw688, fun _ h => absurd h List.not_mem_nil⟩⟩⟩⟩⟩
theorem kw689 : Cond.methodLink RX9 307 yX9_toward ∈ lw_tbl := kin5 _ (List.mem_of_getElem? (i := 156) (by decide +kernel))
theorem kw690 : Cond.static yX9_toward ∈ lw_tbl := kin5 _ (List.mem_of_getElem? (i := 157) (by decide +kernel))
theorem kw691 : Cond.code yX9_toward cX9_toward 3 (some .int) ∈ lw_tbl := kin5 _ (List.mem_of_getElem? (i := 158) rfl)
theorem qml_r128 : ∀ w ∈ qml_w (9, 307, 115, 2, 1), w ∈ lw_tbl := List.forall_mem_cons.mpr ⟨kw689, List.forall_mem_cons.mpr ⟨kw690, List.forall_mem_cons.mpr ⟨kw260, List.forall_mem_cons.mpr ⟨kw691, fun _ h => absurd h List.not_mem_nil⟩⟩⟩⟩
theorem kw692 : Cond.methodLink RX9 310 yX9_ones ∈ lw_tbl := kin5 _ (List.mem_of_getElem? (i := 182) (by decide +kernel))
theorem kw693 : Cond.static yX9_ones ∈ lw_tbl := kin5 _ (List.mem_of_getElem? (i := 183) (by decide +kernel))
theorem kw694 : Cond.code yX9_ones cX9_ones 3 (some .int) ∈ lw_tbl := kin5 _ (List.mem_of_getElem? (i := 184) rfl)
theorem qml_r129 : ∀ w ∈ qml_w (9, 310, 106, 1, 1), w ∈ lw_tbl := List.forall_mem_cons.mpr ⟨kw692, List.forall_mem_cons.mpr ⟨kw693, List.forall_mem_cons.mpr ⟨kw260, List.forall_mem_cons.mpr ⟨kw694, fun _ h => absurd h List.not_mem_nil⟩⟩⟩⟩
theorem kw695 : Cond.methodLink RX9 314 yX9_isSpoilt ∈ lw_tbl := kin5 _ (List.mem_of_getElem? (i := 141) (by decide +kernel))
theorem kw696 : Cond.instanceMethod yX9_isSpoilt ∈ lw_tbl := kin5 _ (List.mem_of_getElem? (i := 143) (by decide +kernel))
theorem kw697 : Cond.selects RX9 yX9_isSpoilt yX9_isSpoilt ∈ lw_tbl := kin0 _ (List.mem_of_getElem? (i := 47) (by decide +kernel))
theorem kw698 : Cond.code yX9_isSpoilt cX9_isSpoilt 5 (some .boolean) ∈ lw_tbl := kin5 _ (List.mem_of_getElem? (i := 144) rfl)
theorem qml_r130 : ∀ w ∈ qml_w (9, 314, 137, 2, 0), w ∈ lw_tbl := List.forall_mem_cons.mpr ⟨kw695, List.forall_mem_cons.mpr ⟨kw696, List.forall_mem_cons.mpr ⟨kw697, List.forall_mem_cons.mpr ⟨kw260, List.forall_mem_cons.mpr ⟨kw698, fun _ h => absurd h List.not_mem_nil⟩⟩⟩⟩⟩
theorem kw699 : Cond.methodLink RX9 317 yX9_dropWaiting ∈ lw_tbl := kin5 _ (List.mem_of_getElem? (i := 148) (by decide +kernel))
theorem kw700 : Cond.instanceMethod yX9_dropWaiting ∈ lw_tbl := kin5 _ (List.mem_of_getElem? (i := 150) (by decide +kernel))
theorem kw701 : Cond.selects RX9 yX9_dropWaiting yX9_dropWaiting ∈ lw_tbl := kin0 _ (List.mem_of_getElem? (i := 48) (by decide +kernel))
theorem kw702 : Cond.code yX9_dropWaiting cX9_dropWaiting 4 none ∈ lw_tbl := kin5 _ (List.mem_of_getElem? (i := 151) rfl)
theorem qml_r131 : ∀ w ∈ qml_w (9, 317, 131, 1, 0), w ∈ lw_tbl := List.forall_mem_cons.mpr ⟨kw699, List.forall_mem_cons.mpr ⟨kw700, List.forall_mem_cons.mpr ⟨kw701, List.forall_mem_cons.mpr ⟨kw260, List.forall_mem_cons.mpr ⟨kw702, fun _ h => absurd h List.not_mem_nil⟩⟩⟩⟩⟩
theorem kw703 : Cond.methodLink RX9 323 yX9_note ∈ lw_tbl := kin5 _ (List.mem_of_getElem? (i := 170) (by decide +kernel))
theorem kw704 : Cond.instanceMethod yX9_note ∈ lw_tbl := kin5 _ (List.mem_of_getElem? (i := 172) (by decide +kernel))
theorem kw705 : Cond.selects RX9 yX9_note yX9_note ∈ lw_tbl := kin0 _ (List.mem_of_getElem? (i := 50) (by decide +kernel))
theorem kw706 : Cond.code yX9_note cX9_note 6 none ∈ lw_tbl := kin5 _ (List.mem_of_getElem? (i := 173) rfl)
theorem qml_r132 : ∀ w ∈ qml_w (9, 323, 140, 3, 0), w ∈ lw_tbl := List.forall_mem_cons.mpr ⟨kw703, List.forall_mem_cons.mpr ⟨kw704, List.forall_mem_cons.mpr ⟨kw705, List.forall_mem_cons.mpr ⟨kw260, List.forall_mem_cons.mpr ⟨kw706, fun _ h => absurd h List.not_mem_nil⟩⟩⟩⟩⟩
theorem kw707 : Cond.methodLink RX9 327 yX9_endOne ∈ lw_tbl := kin5 _ (List.mem_of_getElem? (i := 137) (by decide +kernel))
theorem kw708 : Cond.instanceMethod yX9_endOne ∈ lw_tbl := kin5 _ (List.mem_of_getElem? (i := 139) (by decide +kernel))
theorem kw709 : Cond.selects RX9 yX9_endOne yX9_endOne ∈ lw_tbl := kin0 _ (List.mem_of_getElem? (i := 46) (by decide +kernel))
theorem kw710 : Cond.code yX9_endOne cX9_endOne 5 none ∈ lw_tbl := kin5 _ (List.mem_of_getElem? (i := 140) rfl)
theorem qml_r133 : ∀ w ∈ qml_w (9, 327, 141, 3, 0), w ∈ lw_tbl := List.forall_mem_cons.mpr ⟨kw707, List.forall_mem_cons.mpr ⟨kw708, List.forall_mem_cons.mpr ⟨kw709, List.forall_mem_cons.mpr ⟨kw260, List.forall_mem_cons.mpr ⟨kw710, fun _ h => absurd h List.not_mem_nil⟩⟩⟩⟩⟩
theorem kw711 : Cond.methodLink RX9 334 yX9_send ∈ lw_tbl := kin5 _ (List.mem_of_getElem? (i := 194) (by decide +kernel))
theorem kw712 : Cond.instanceMethod yX9_send ∈ lw_tbl := kin5 _ (List.mem_of_getElem? (i := 196) (by decide +kernel))
theorem kw713 : Cond.selects RX9 yX9_send yX9_send ∈ lw_tbl := kin0 _ (List.mem_of_getElem? (i := 55) (by decide +kernel))
theorem kw714 : Cond.code yX9_send cX9_send 5 none ∈ lw_tbl := kin5 _ (List.mem_of_getElem? (i := 197) rfl)
theorem qml_r134 : ∀ w ∈ qml_w (9, 334, 136, 2, 0), w ∈ lw_tbl := List.forall_mem_cons.mpr ⟨kw711, List.forall_mem_cons.mpr ⟨kw712, List.forall_mem_cons.mpr ⟨kw713, List.forall_mem_cons.mpr ⟨kw260, List.forall_mem_cons.mpr ⟨kw714, fun _ h => absurd h List.not_mem_nil⟩⟩⟩⟩⟩
theorem kw715 : Cond.methodLink RX9 337 yX9_copiesOf ∈ lw_tbl := kin5 _ (List.mem_of_getElem? (i := 226) (by decide +kernel))
theorem kw716 : Cond.instanceMethod yX9_copiesOf ∈ lw_tbl := kin5 _ (List.mem_of_getElem? (i := 228) (by decide +kernel))
theorem kw717 : Cond.selects RX9 yX9_copiesOf yX9_copiesOf ∈ lw_tbl := kin0 _ (List.mem_of_getElem? (i := 63) (by decide +kernel))
theorem kw718 : Cond.code yX9_copiesOf cX9_copiesOf 4 (some .int) ∈ lw_tbl := kin5 _ (List.mem_of_getElem? (i := 229) rfl)
theorem qml_r135 : ∀ w ∈ qml_w (9, 337, 129, 1, 0), w ∈ lw_tbl := List.forall_mem_cons.mpr ⟨kw715, List.forall_mem_cons.mpr ⟨kw716, List.forall_mem_cons.mpr ⟨kw717, List.forall_mem_cons.mpr ⟨kw260, List.forall_mem_cons.mpr ⟨kw718, fun _ h => absurd h List.not_mem_nil⟩⟩⟩⟩⟩
theorem kw719 : Cond.methodLink RX9 343 yX9_isMore ∈ lw_tbl := kin5 _ (List.mem_of_getElem? (i := 234) (by decide +kernel))
theorem kw720 : Cond.static yX9_isMore ∈ lw_tbl := kin5 _ (List.mem_of_getElem? (i := 235) (by decide +kernel))
theorem kw721 : Cond.code yX9_isMore cX9_isMore 4 (some .boolean) ∈ lw_tbl := kin5 _ (List.mem_of_getElem? (i := 236) rfl)
theorem qml_r136 : ∀ w ∈ qml_w (9, 343, 116, 3, 1), w ∈ lw_tbl := List.forall_mem_cons.mpr ⟨kw719, List.forall_mem_cons.mpr ⟨kw720, List.forall_mem_cons.mpr ⟨kw260, List.forall_mem_cons.mpr ⟨kw721, fun _ h => absurd h List.not_mem_nil⟩⟩⟩⟩
theorem kw722 : Cond.methodLink RX9 349 yX9_endsAt ∈ lw_tbl := kin5 _ (List.mem_of_getElem? (i := 133) (by decide +kernel))
theorem kw723 : Cond.instanceMethod yX9_endsAt ∈ lw_tbl := kin5 _ (List.mem_of_getElem? (i := 135) (by decide +kernel))
theorem kw724 : Cond.selects RX9 yX9_endsAt yX9_endsAt ∈ lw_tbl := kin0 _ (List.mem_of_getElem? (i := 45) (by decide +kernel))
theorem kw725 : Cond.code yX9_endsAt cX9_endsAt 6 none ∈ lw_tbl := kin5 _ (List.mem_of_getElem? (i := 136) rfl)
theorem qml_r137 : ∀ w ∈ qml_w (9, 349, 142, 1, 0), w ∈ lw_tbl := List.forall_mem_cons.mpr ⟨kw722, List.forall_mem_cons.mpr ⟨kw723, List.forall_mem_cons.mpr ⟨kw724, List.forall_mem_cons.mpr ⟨kw260, List.forall_mem_cons.mpr ⟨kw725, fun _ h => absurd h List.not_mem_nil⟩⟩⟩⟩⟩
theorem kw726 : Cond.methodLink RX9 352 yX9_limitsAt ∈ lw_tbl := kin5 _ (List.mem_of_getElem? (i := 186) (by decide +kernel))
theorem kw727 : Cond.instanceMethod yX9_limitsAt ∈ lw_tbl := kin5 _ (List.mem_of_getElem? (i := 188) (by decide +kernel))
theorem kw728 : Cond.selects RX9 yX9_limitsAt yX9_limitsAt ∈ lw_tbl := kin0 _ (List.mem_of_getElem? (i := 53) (by decide +kernel))
theorem kw729 : Cond.code yX9_limitsAt cX9_limitsAt 3 none ∈ lw_tbl := kin5 _ (List.mem_of_getElem? (i := 189) rfl)
theorem qml_r138 : ∀ w ∈ qml_w (9, 352, 143, 1, 0), w ∈ lw_tbl := List.forall_mem_cons.mpr ⟨kw726, List.forall_mem_cons.mpr ⟨kw727, List.forall_mem_cons.mpr ⟨kw728, List.forall_mem_cons.mpr ⟨kw260, List.forall_mem_cons.mpr ⟨kw729, fun _ h => absurd h List.not_mem_nil⟩⟩⟩⟩⟩
theorem kw730 : Cond.methodLink RX9 355 yX9_comesAt ∈ lw_tbl := kin5 _ (List.mem_of_getElem? (i := 190) (by decide +kernel))
theorem kw731 : Cond.instanceMethod yX9_comesAt ∈ lw_tbl := kin5 _ (List.mem_of_getElem? (i := 192) (by decide +kernel))
theorem kw732 : Cond.selects RX9 yX9_comesAt yX9_comesAt ∈ lw_tbl := kin0 _ (List.mem_of_getElem? (i := 54) (by decide +kernel))
theorem kw733 : Cond.code yX9_comesAt cX9_comesAt 3 none ∈ lw_tbl := kin5 _ (List.mem_of_getElem? (i := 193) rfl)
theorem qml_r139 : ∀ w ∈ qml_w (9, 355, 144, 1, 0), w ∈ lw_tbl := List.forall_mem_cons.mpr ⟨kw730, List.forall_mem_cons.mpr ⟨kw731, List.forall_mem_cons.mpr ⟨kw732, List.forall_mem_cons.mpr ⟨kw260, List.forall_mem_cons.mpr ⟨kw733, fun _ h => absurd h List.not_mem_nil⟩⟩⟩⟩⟩
theorem kw734 : Cond.methodLink RX9 358 yX9_againAt ∈ lw_tbl := kin5 _ (List.mem_of_getElem? (i := 222) (by decide +kernel))
theorem kw735 : Cond.instanceMethod yX9_againAt ∈ lw_tbl := kin5 _ (List.mem_of_getElem? (i := 224) (by decide +kernel))
theorem kw736 : Cond.selects RX9 yX9_againAt yX9_againAt ∈ lw_tbl := kin0 _ (List.mem_of_getElem? (i := 62) (by decide +kernel))
theorem kw737 : Cond.code yX9_againAt cX9_againAt 3 none ∈ lw_tbl := kin5 _ (List.mem_of_getElem? (i := 225) rfl)
theorem qml_r140 : ∀ w ∈ qml_w (9, 358, 145, 1, 0), w ∈ lw_tbl := List.forall_mem_cons.mpr ⟨kw734, List.forall_mem_cons.mpr ⟨kw735, List.forall_mem_cons.mpr ⟨kw736, List.forall_mem_cons.mpr ⟨kw260, List.forall_mem_cons.mpr ⟨kw737, fun _ h => absurd h List.not_mem_nil⟩⟩⟩⟩⟩
theorem kw738 : Cond.methodLink RX9 361 yX9_hedgesAt ∈ lw_tbl := kin5 _ (List.mem_of_getElem? (i := 230) (by decide +kernel))
theorem kw739 : Cond.instanceMethod yX9_hedgesAt ∈ lw_tbl := kin5 _ (List.mem_of_getElem? (i := 232) (by decide +kernel))
theorem kw740 : Cond.selects RX9 yX9_hedgesAt yX9_hedgesAt ∈ lw_tbl := kin0 _ (List.mem_of_getElem? (i := 64) (by decide +kernel))
theorem kw741 : Cond.code yX9_hedgesAt cX9_hedgesAt 4 none ∈ lw_tbl := kin5 _ (List.mem_of_getElem? (i := 233) rfl)
theorem qml_r141 : ∀ w ∈ qml_w (9, 361, 146, 1, 0), w ∈ lw_tbl := List.forall_mem_cons.mpr ⟨kw738, List.forall_mem_cons.mpr ⟨kw739, List.forall_mem_cons.mpr ⟨kw740, List.forall_mem_cons.mpr ⟨kw260, List.forall_mem_cons.mpr ⟨kw741, fun _ h => absurd h List.not_mem_nil⟩⟩⟩⟩⟩
theorem kw742 : Cond.methodLink RX9 364 yX9_beginsAt ∈ lw_tbl := kin5 _ (List.mem_of_getElem? (i := 237) (by decide +kernel))
theorem kw743 : Cond.instanceMethod yX9_beginsAt ∈ lw_tbl := kin5 _ (List.mem_of_getElem? (i := 239) (by decide +kernel))
theorem kw744 : Cond.selects RX9 yX9_beginsAt yX9_beginsAt ∈ lw_tbl := kin0 _ (List.mem_of_getElem? (i := 65) (by decide +kernel))
theorem kw745 : Cond.code yX9_beginsAt cX9_beginsAt 3 none ∈ lw_tbl := kin6 _ (List.mem_of_getElem? (i := 0) rfl)
theorem qml_r142 : ∀ w ∈ qml_w (9, 364, 147, 1, 0), w ∈ lw_tbl := List.forall_mem_cons.mpr ⟨kw742, List.forall_mem_cons.mpr ⟨kw743, List.forall_mem_cons.mpr ⟨kw744, List.forall_mem_cons.mpr ⟨kw260, List.forall_mem_cons.mpr ⟨kw745, fun _ h => absurd h List.not_mem_nil⟩⟩⟩⟩⟩
theorem kw746 : Cond.methodLink RX9 367 yX9_layHours ∈ lw_tbl := kin5 _ (List.mem_of_getElem? (i := 115) (by decide +kernel))
theorem kw747 : Cond.instanceMethod yX9_layHours ∈ lw_tbl := kin5 _ (List.mem_of_getElem? (i := 117) (by decide +kernel))
theorem kw748 : Cond.selects RX9 yX9_layHours yX9_layHours ∈ lw_tbl := kin0 _ (List.mem_of_getElem? (i := 42) (by decide +kernel))
theorem kw749 : Cond.code yX9_layHours cX9_layHours 2 none ∈ lw_tbl := kin5 _ (List.mem_of_getElem? (i := 118) rfl)
theorem qml_r143 : ∀ w ∈ qml_w (9, 367, 150, 0, 0), w ∈ lw_tbl := List.forall_mem_cons.mpr ⟨kw746, List.forall_mem_cons.mpr ⟨kw747, List.forall_mem_cons.mpr ⟨kw748, List.forall_mem_cons.mpr ⟨kw260, List.forall_mem_cons.mpr ⟨kw749, fun _ h => absurd h List.not_mem_nil⟩⟩⟩⟩⟩
theorem kw750 : Cond.methodLink RX9 370 yX9_run ∈ lw_tbl := kin5 _ (List.mem_of_getElem? (i := 119) (by decide +kernel))
theorem kw751 : Cond.instanceMethod yX9_run ∈ lw_tbl := kin5 _ (List.mem_of_getElem? (i := 121) (by decide +kernel))
theorem kw752 : Cond.selects RX9 yX9_run yX9_run ∈ lw_tbl := kin0 _ (List.mem_of_getElem? (i := 43) (by decide +kernel))
theorem kw753 : Cond.code yX9_run cX9_run 5 none ∈ lw_tbl := kin5 _ (List.mem_of_getElem? (i := 122) rfl)
theorem qml_r144 : ∀ w ∈ qml_w (9, 370, 148, 3, 0), w ∈ lw_tbl := List.forall_mem_cons.mpr ⟨kw750, List.forall_mem_cons.mpr ⟨kw751, List.forall_mem_cons.mpr ⟨kw752, List.forall_mem_cons.mpr ⟨kw260, List.forall_mem_cons.mpr ⟨kw753, fun _ h => absurd h List.not_mem_nil⟩⟩⟩⟩⟩
theorem kw754 : Cond.methodLink RX9 382 yX9_maySet ∈ lw_tbl := kin5 _ (List.mem_of_getElem? (i := 82) (by decide +kernel))
theorem kw755 : Cond.static yX9_maySet ∈ lw_tbl := kin5 _ (List.mem_of_getElem? (i := 83) (by decide +kernel))
theorem kw756 : Cond.code yX9_maySet cX9_maySet 2 (some .boolean) ∈ lw_tbl := kin5 _ (List.mem_of_getElem? (i := 84) rfl)
theorem qml_r145 : ∀ w ∈ qml_w (9, 382, 154, 2, 1), w ∈ lw_tbl := List.forall_mem_cons.mpr ⟨kw754, List.forall_mem_cons.mpr ⟨kw755, List.forall_mem_cons.mpr ⟨kw260, List.forall_mem_cons.mpr ⟨kw756, fun _ h => absurd h List.not_mem_nil⟩⟩⟩⟩
theorem kw757 : Cond.methodLink RX9 385 yX9_keepNow ∈ lw_tbl := kin5 _ (List.mem_of_getElem? (i := 87) (by decide +kernel))
theorem kw758 : Cond.instanceMethod yX9_keepNow ∈ lw_tbl := kin5 _ (List.mem_of_getElem? (i := 89) (by decide +kernel))
theorem kw759 : Cond.selects RX9 yX9_keepNow yX9_keepNow ∈ lw_tbl := kin0 _ (List.mem_of_getElem? (i := 38) (by decide +kernel))
theorem kw760 : Cond.code yX9_keepNow cX9_keepNow 2 none ∈ lw_tbl := kin5 _ (List.mem_of_getElem? (i := 90) rfl)
theorem qml_r146 : ∀ w ∈ qml_w (9, 385, 155, 0, 0), w ∈ lw_tbl := List.forall_mem_cons.mpr ⟨kw757, List.forall_mem_cons.mpr ⟨kw758, List.forall_mem_cons.mpr ⟨kw759, List.forall_mem_cons.mpr ⟨kw260, List.forall_mem_cons.mpr ⟨kw760, fun _ h => absurd h List.not_mem_nil⟩⟩⟩⟩⟩
theorem kw761 : Cond.methodLink RX9 388 yX9_isHost ∈ lw_tbl := kin5 _ (List.mem_of_getElem? (i := 95) (by decide +kernel))
theorem kw762 : Cond.instanceMethod yX9_isHost ∈ lw_tbl := kin5 _ (List.mem_of_getElem? (i := 97) (by decide +kernel))
theorem kw763 : Cond.selects RX9 yX9_isHost yX9_isHost ∈ lw_tbl := kin0 _ (List.mem_of_getElem? (i := 39) (by decide +kernel))
theorem kw764 : Cond.code yX9_isHost cX9_isHost 2 (some .boolean) ∈ lw_tbl := kin5 _ (List.mem_of_getElem? (i := 98) rfl)
theorem qml_r147 : ∀ w ∈ qml_w (9, 388, 157, 1, 0), w ∈ lw_tbl := List.forall_mem_cons.mpr ⟨kw761, List.forall_mem_cons.mpr ⟨kw762, List.forall_mem_cons.mpr ⟨kw763, List.forall_mem_cons.mpr ⟨kw260, List.forall_mem_cons.mpr ⟨kw764, fun _ h => absurd h List.not_mem_nil⟩⟩⟩⟩⟩
theorem kw765 : Cond.methodLink RX9 391 yX9_isAsk ∈ lw_tbl := kin5 _ (List.mem_of_getElem? (i := 107) (by decide +kernel))
theorem kw766 : Cond.instanceMethod yX9_isAsk ∈ lw_tbl := kin5 _ (List.mem_of_getElem? (i := 109) (by decide +kernel))
theorem kw767 : Cond.selects RX9 yX9_isAsk yX9_isAsk ∈ lw_tbl := kin0 _ (List.mem_of_getElem? (i := 40) (by decide +kernel))
theorem kw768 : Cond.code yX9_isAsk cX9_isAsk 2 (some .boolean) ∈ lw_tbl := kin5 _ (List.mem_of_getElem? (i := 110) rfl)
theorem qml_r148 : ∀ w ∈ qml_w (9, 391, 158, 1, 0), w ∈ lw_tbl := List.forall_mem_cons.mpr ⟨kw765, List.forall_mem_cons.mpr ⟨kw766, List.forall_mem_cons.mpr ⟨kw767, List.forall_mem_cons.mpr ⟨kw260, List.forall_mem_cons.mpr ⟨kw768, fun _ h => absurd h List.not_mem_nil⟩⟩⟩⟩⟩
theorem kw769 : Cond.methodLink RX9 394 yX9_runNow ∈ lw_tbl := kin5 _ (List.mem_of_getElem? (i := 111) (by decide +kernel))
theorem kw770 : Cond.instanceMethod yX9_runNow ∈ lw_tbl := kin5 _ (List.mem_of_getElem? (i := 113) (by decide +kernel))
theorem kw771 : Cond.selects RX9 yX9_runNow yX9_runNow ∈ lw_tbl := kin0 _ (List.mem_of_getElem? (i := 41) (by decide +kernel))
theorem kw772 : Cond.code yX9_runNow cX9_runNow 2 none ∈ lw_tbl := kin5 _ (List.mem_of_getElem? (i := 114) rfl)
theorem qml_r149 : ∀ w ∈ qml_w (9, 394, 149, 1, 0), w ∈ lw_tbl := List.forall_mem_cons.mpr ⟨kw769, List.forall_mem_cons.mpr ⟨kw770, List.forall_mem_cons.mpr ⟨kw771, List.forall_mem_cons.mpr ⟨kw260, List.forall_mem_cons.mpr ⟨kw772, fun _ h => absurd h List.not_mem_nil⟩⟩⟩⟩⟩
theorem qml_ok4 : ∀ r ∈ qml_4, ∀ w ∈ qml_w r, w ∈ lw_tbl := List.forall_mem_cons.mpr ⟨qml_r120, List.forall_mem_cons.mpr ⟨qml_r121, List.forall_mem_cons.mpr ⟨qml_r122, List.forall_mem_cons.mpr ⟨qml_r123, List.forall_mem_cons.mpr ⟨qml_r124, List.forall_mem_cons.mpr ⟨qml_r125, List.forall_mem_cons.mpr ⟨qml_r126, List.forall_mem_cons.mpr ⟨qml_r127, List.forall_mem_cons.mpr ⟨qml_r128, List.forall_mem_cons.mpr ⟨qml_r129, List.forall_mem_cons.mpr ⟨qml_r130, List.forall_mem_cons.mpr ⟨qml_r131, List.forall_mem_cons.mpr ⟨qml_r132, List.forall_mem_cons.mpr ⟨qml_r133, List.forall_mem_cons.mpr ⟨qml_r134, List.forall_mem_cons.mpr ⟨qml_r135, List.forall_mem_cons.mpr ⟨qml_r136, List.forall_mem_cons.mpr ⟨qml_r137, List.forall_mem_cons.mpr ⟨qml_r138, List.forall_mem_cons.mpr ⟨qml_r139, List.forall_mem_cons.mpr ⟨qml_r140, List.forall_mem_cons.mpr ⟨qml_r141, List.forall_mem_cons.mpr ⟨qml_r142, List.forall_mem_cons.mpr ⟨qml_r143, List.forall_mem_cons.mpr ⟨qml_r144, List.forall_mem_cons.mpr ⟨qml_r145, List.forall_mem_cons.mpr ⟨qml_r146, List.forall_mem_cons.mpr ⟨qml_r147, List.forall_mem_cons.mpr ⟨qml_r148, List.forall_mem_cons.mpr ⟨qml_r149, fun _ h => absurd h List.not_mem_nil⟩⟩⟩⟩⟩⟩⟩⟩⟩⟩⟩⟩⟩⟩⟩⟩⟩⟩⟩⟩⟩⟩⟩⟩⟩⟩⟩⟩⟩⟩
theorem kw773 : Cond.methodLink RX9 397 yX9_manyThat ∈ lw_tbl := kin6 _ (List.mem_of_getElem? (i := 9) (by decide +kernel))
theorem kw774 : Cond.instanceMethod yX9_manyThat ∈ lw_tbl := kin6 _ (List.mem_of_getElem? (i := 11) (by decide +kernel))
theorem kw775 : Cond.selects RX9 yX9_manyThat yX9_manyThat ∈ lw_tbl := kin0 _ (List.mem_of_getElem? (i := 66) (by decide +kernel))
theorem kw776 : Cond.code yX9_manyThat cX9_manyThat 4 (some .int) ∈ lw_tbl := kin6 _ (List.mem_of_getElem? (i := 12) rfl)
theorem qml_r150 : ∀ w ∈ qml_w (9, 397, 151, 1, 0), w ∈ lw_tbl := List.forall_mem_cons.mpr ⟨kw773, List.forall_mem_cons.mpr ⟨kw774, List.forall_mem_cons.mpr ⟨kw775, List.forall_mem_cons.mpr ⟨kw260, List.forall_mem_cons.mpr ⟨kw776, fun _ h => absurd h List.not_mem_nil⟩⟩⟩⟩⟩
theorem kw777 : Cond.methodLink RX9 400 yX9_sum ∈ lw_tbl := kin6 _ (List.mem_of_getElem? (i := 13) (by decide +kernel))
theorem kw778 : Cond.instanceMethod yX9_sum ∈ lw_tbl := kin6 _ (List.mem_of_getElem? (i := 15) (by decide +kernel))
theorem kw779 : Cond.selects RX9 yX9_sum yX9_sum ∈ lw_tbl := kin0 _ (List.mem_of_getElem? (i := 67) (by decide +kernel))
theorem kw780 : Cond.code yX9_sum cX9_sum 4 (some .int) ∈ lw_tbl := kin6 _ (List.mem_of_getElem? (i := 16) rfl)
theorem qml_r151 : ∀ w ∈ qml_w (9, 400, 152, 1, 0), w ∈ lw_tbl := List.forall_mem_cons.mpr ⟨kw777, List.forall_mem_cons.mpr ⟨kw778, List.forall_mem_cons.mpr ⟨kw779, List.forall_mem_cons.mpr ⟨kw260, List.forall_mem_cons.mpr ⟨kw780, fun _ h => absurd h List.not_mem_nil⟩⟩⟩⟩⟩
theorem kw781 : Cond.methodLink RX9 406 yX9_layTrial ∈ lw_tbl := kin6 _ (List.mem_of_getElem? (i := 26) (by decide +kernel))
theorem kw782 : Cond.instanceMethod yX9_layTrial ∈ lw_tbl := kin6 _ (List.mem_of_getElem? (i := 28) (by decide +kernel))
theorem kw783 : Cond.selects RX9 yX9_layTrial yX9_layTrial ∈ lw_tbl := kin0 _ (List.mem_of_getElem? (i := 68) (by decide +kernel))
theorem kw784 : Cond.code yX9_layTrial cX9_layTrial 2 none ∈ lw_tbl := kin6 _ (List.mem_of_getElem? (i := 29) rfl)
theorem qml_r152 : ∀ w ∈ qml_w (9, 406, 165, 0, 0), w ∈ lw_tbl := List.forall_mem_cons.mpr ⟨kw781, List.forall_mem_cons.mpr ⟨kw782, List.forall_mem_cons.mpr ⟨kw783, List.forall_mem_cons.mpr ⟨kw260, List.forall_mem_cons.mpr ⟨kw784, fun _ h => absurd h List.not_mem_nil⟩⟩⟩⟩⟩
theorem kw785 : Cond.methodLink RX9 411 yX9_tenThousands ∈ lw_tbl := kin6 _ (List.mem_of_getElem? (i := 34) (by decide +kernel))
theorem kw786 : Cond.static yX9_tenThousands ∈ lw_tbl := kin6 _ (List.mem_of_getElem? (i := 35) (by decide +kernel))
theorem kw787 : Cond.code yX9_tenThousands cX9_tenThousands 4 (some .long) ∈ lw_tbl := kin6 _ (List.mem_of_getElem? (i := 36) rfl)
theorem qml_r153 : ∀ w ∈ qml_w (9, 411, 168, 1, 1), w ∈ lw_tbl := List.forall_mem_cons.mpr ⟨kw785, List.forall_mem_cons.mpr ⟨kw786, List.forall_mem_cons.mpr ⟨kw260, List.forall_mem_cons.mpr ⟨kw787, fun _ h => absurd h List.not_mem_nil⟩⟩⟩⟩
theorem kw788 : Cond.methodLink RX9 414 yX9_judged ∈ lw_tbl := kin6 _ (List.mem_of_getElem? (i := 38) (by decide +kernel))
theorem kw789 : Cond.instanceMethod yX9_judged ∈ lw_tbl := kin6 _ (List.mem_of_getElem? (i := 40) (by decide +kernel))
theorem kw790 : Cond.selects RX9 yX9_judged yX9_judged ∈ lw_tbl := kin0 _ (List.mem_of_getElem? (i := 69) (by decide +kernel))
theorem kw791 : Cond.code yX9_judged cX9_judged 5 (some .boolean) ∈ lw_tbl := kin6 _ (List.mem_of_getElem? (i := 41) rfl)
theorem qml_r154 : ∀ w ∈ qml_w (9, 414, 167, 4, 0), w ∈ lw_tbl := List.forall_mem_cons.mpr ⟨kw788, List.forall_mem_cons.mpr ⟨kw789, List.forall_mem_cons.mpr ⟨kw790, List.forall_mem_cons.mpr ⟨kw260, List.forall_mem_cons.mpr ⟨kw791, fun _ h => absurd h List.not_mem_nil⟩⟩⟩⟩⟩
theorem kw792 : Cond.methodLink RX9 418 yX9_factorial ∈ lw_tbl := kin6 _ (List.mem_of_getElem? (i := 58) (by decide +kernel))
theorem kw793 : Cond.static yX9_factorial ∈ lw_tbl := kin6 _ (List.mem_of_getElem? (i := 59) (by decide +kernel))
theorem kw794 : Cond.code yX9_factorial cX9_factorial 3 (some .int) ∈ lw_tbl := kin6 _ (List.mem_of_getElem? (i := 60) rfl)
theorem qml_r155 : ∀ w ∈ qml_w (9, 418, 108, 1, 1), w ∈ lw_tbl := List.forall_mem_cons.mpr ⟨kw792, List.forall_mem_cons.mpr ⟨kw793, List.forall_mem_cons.mpr ⟨kw260, List.forall_mem_cons.mpr ⟨kw794, fun _ h => absurd h List.not_mem_nil⟩⟩⟩⟩
theorem kw795 : Cond.methodLink RX9 421 yX9_fraction ∈ lw_tbl := kin6 _ (List.mem_of_getElem? (i := 61) (by decide +kernel))
theorem kw796 : Cond.static yX9_fraction ∈ lw_tbl := kin6 _ (List.mem_of_getElem? (i := 62) (by decide +kernel))
theorem kw797 : Cond.code yX9_fraction cX9_fraction 4 (some .int) ∈ lw_tbl := kin6 _ (List.mem_of_getElem? (i := 63) rfl)
theorem qml_r156 : ∀ w ∈ qml_w (9, 421, 110, 3, 1), w ∈ lw_tbl := List.forall_mem_cons.mpr ⟨kw795, List.forall_mem_cons.mpr ⟨kw796, List.forall_mem_cons.mpr ⟨kw260, List.forall_mem_cons.mpr ⟨kw797, fun _ h => absurd h List.not_mem_nil⟩⟩⟩⟩
theorem kw798 : Cond.methodLink RX9 426 yX9_power ∈ lw_tbl := kin6 _ (List.mem_of_getElem? (i := 72) (by decide +kernel))
theorem kw799 : Cond.static yX9_power ∈ lw_tbl := kin6 _ (List.mem_of_getElem? (i := 73) (by decide +kernel))
theorem kw800 : Cond.code yX9_power cX9_power 4 (some .int) ∈ lw_tbl := kin6 _ (List.mem_of_getElem? (i := 74) rfl)
theorem qml_r157 : ∀ w ∈ qml_w (9, 426, 107, 2, 1), w ∈ lw_tbl := List.forall_mem_cons.mpr ⟨kw798, List.forall_mem_cons.mpr ⟨kw799, List.forall_mem_cons.mpr ⟨kw260, List.forall_mem_cons.mpr ⟨kw800, fun _ h => absurd h List.not_mem_nil⟩⟩⟩⟩
theorem kw801 : Cond.methodLink RL 9 yX8_init ∈ lw_tbl := kin1 _ (List.mem_of_getElem? (i := 17) (by decide +kernel))
theorem kw802 : Cond.instanceMethod yX8_init ∈ lw_tbl := kin1 _ (List.mem_of_getElem? (i := 18) (by decide +kernel))
theorem kw803 : Cond.code yX8_init cX8_init 2 none ∈ lw_tbl := kin1 _ (List.mem_of_getElem? (i := 19) rfl)
theorem qml_r158 : ∀ w ∈ qml_w (13, 9, 69, 0, 2), w ∈ lw_tbl := List.forall_mem_cons.mpr ⟨kw801, List.forall_mem_cons.mpr ⟨kw802, List.forall_mem_cons.mpr ⟨kw257, List.forall_mem_cons.mpr ⟨kw803, fun _ h => absurd h List.not_mem_nil⟩⟩⟩⟩
theorem kw804 : Cond.methodLink RL 12 yX9_init ∈ lw_tbl := kin4 _ (List.mem_of_getElem? (i := 50) (by decide +kernel))
theorem kw805 : Cond.instanceMethod yX9_init ∈ lw_tbl := kin4 _ (List.mem_of_getElem? (i := 51) (by decide +kernel))
theorem kw806 : Cond.code yX9_init cX9_init 1 none ∈ lw_tbl := kin4 _ (List.mem_of_getElem? (i := 52) rfl)
theorem qml_r159 : ∀ w ∈ qml_w (13, 12, 102, 0, 2), w ∈ lw_tbl := List.forall_mem_cons.mpr ⟨kw804, List.forall_mem_cons.mpr ⟨kw805, List.forall_mem_cons.mpr ⟨kw260, List.forall_mem_cons.mpr ⟨kw806, fun _ h => absurd h List.not_mem_nil⟩⟩⟩⟩
theorem kw807 : Cond.methodLink RL 13 yX8_write ∈ lw_tbl := kin2 _ (List.mem_of_getElem? (i := 118) (by decide +kernel))
theorem kw808 : Cond.instanceMethod yX8_write ∈ lw_tbl := kin2 _ (List.mem_of_getElem? (i := 119) (by decide +kernel))
theorem kw809 : Cond.selects RX8 yX8_write yX8_write ∈ lw_tbl := kin2 _ (List.mem_of_getElem? (i := 120) (by decide +kernel))
theorem kw810 : Cond.code yX8_write cX8_write 2 (some .int) ∈ lw_tbl := kin2 _ (List.mem_of_getElem? (i := 121) rfl)
theorem qml_r160 : ∀ w ∈ qml_w (13, 13, 70, 1, 0), w ∈ lw_tbl := List.forall_mem_cons.mpr ⟨kw807, List.forall_mem_cons.mpr ⟨kw808, List.forall_mem_cons.mpr ⟨kw809, List.forall_mem_cons.mpr ⟨kw257, List.forall_mem_cons.mpr ⟨kw810, fun _ h => absurd h List.not_mem_nil⟩⟩⟩⟩⟩
theorem kw811 : Cond.methodLink RL 17 yX9_write ∈ lw_tbl := kin5 _ (List.mem_of_getElem? (i := 26) (by decide +kernel))
theorem kw812 : Cond.instanceMethod yX9_write ∈ lw_tbl := kin5 _ (List.mem_of_getElem? (i := 27) (by decide +kernel))
theorem kw813 : Cond.selects RX9 yX9_write yX9_write ∈ lw_tbl := kin5 _ (List.mem_of_getElem? (i := 28) (by decide +kernel))
theorem kw814 : Cond.code yX9_write cX9_write 2 (some .int) ∈ lw_tbl := kin5 _ (List.mem_of_getElem? (i := 29) rfl)
theorem qml_r161 : ∀ w ∈ qml_w (13, 17, 117, 1, 0), w ∈ lw_tbl := List.forall_mem_cons.mpr ⟨kw811, List.forall_mem_cons.mpr ⟨kw812, List.forall_mem_cons.mpr ⟨kw813, List.forall_mem_cons.mpr ⟨kw260, List.forall_mem_cons.mpr ⟨kw814, fun _ h => absurd h List.not_mem_nil⟩⟩⟩⟩⟩
theorem kw815 : Cond.methodLink RL 18 yX8_wipe ∈ lw_tbl := kin2 _ (List.mem_of_getElem? (i := 122) (by decide +kernel))
theorem kw816 : Cond.instanceMethod yX8_wipe ∈ lw_tbl := kin2 _ (List.mem_of_getElem? (i := 123) (by decide +kernel))
theorem kw817 : Cond.selects RX8 yX8_wipe yX8_wipe ∈ lw_tbl := kin2 _ (List.mem_of_getElem? (i := 124) (by decide +kernel))
theorem kw818 : Cond.code yX8_wipe cX8_wipe 2 (some .int) ∈ lw_tbl := kin2 _ (List.mem_of_getElem? (i := 125) rfl)
theorem qml_r162 : ∀ w ∈ qml_w (13, 18, 71, 0, 0), w ∈ lw_tbl := List.forall_mem_cons.mpr ⟨kw815, List.forall_mem_cons.mpr ⟨kw816, List.forall_mem_cons.mpr ⟨kw817, List.forall_mem_cons.mpr ⟨kw257, List.forall_mem_cons.mpr ⟨kw818, fun _ h => absurd h List.not_mem_nil⟩⟩⟩⟩⟩
theorem kw819 : Cond.methodLink RL 22 yX9_wipe ∈ lw_tbl := kin5 _ (List.mem_of_getElem? (i := 34) (by decide +kernel))
theorem kw820 : Cond.instanceMethod yX9_wipe ∈ lw_tbl := kin5 _ (List.mem_of_getElem? (i := 35) (by decide +kernel))
theorem kw821 : Cond.selects RX9 yX9_wipe yX9_wipe ∈ lw_tbl := kin5 _ (List.mem_of_getElem? (i := 36) (by decide +kernel))
theorem kw822 : Cond.code yX9_wipe cX9_wipe 2 (some .int) ∈ lw_tbl := kin5 _ (List.mem_of_getElem? (i := 37) rfl)
theorem qml_r163 : ∀ w ∈ qml_w (13, 22, 118, 0, 0), w ∈ lw_tbl := List.forall_mem_cons.mpr ⟨kw819, List.forall_mem_cons.mpr ⟨kw820, List.forall_mem_cons.mpr ⟨kw821, List.forall_mem_cons.mpr ⟨kw260, List.forall_mem_cons.mpr ⟨kw822, fun _ h => absurd h List.not_mem_nil⟩⟩⟩⟩⟩
theorem kw823 : Cond.methodLink RL 23 yX8_fault ∈ lw_tbl := kin2 _ (List.mem_of_getElem? (i := 126) (by decide +kernel))
theorem kw824 : Cond.instanceMethod yX8_fault ∈ lw_tbl := kin2 _ (List.mem_of_getElem? (i := 127) (by decide +kernel))
theorem kw825 : Cond.selects RX8 yX8_fault yX8_fault ∈ lw_tbl := kin2 _ (List.mem_of_getElem? (i := 128) (by decide +kernel))
theorem kw826 : Cond.code yX8_fault cX8_fault 1 (some .int) ∈ lw_tbl := kin2 _ (List.mem_of_getElem? (i := 129) rfl)
theorem qml_r164 : ∀ w ∈ qml_w (13, 23, 72, 0, 0), w ∈ lw_tbl := List.forall_mem_cons.mpr ⟨kw823, List.forall_mem_cons.mpr ⟨kw824, List.forall_mem_cons.mpr ⟨kw825, List.forall_mem_cons.mpr ⟨kw257, List.forall_mem_cons.mpr ⟨kw826, fun _ h => absurd h List.not_mem_nil⟩⟩⟩⟩⟩
theorem kw827 : Cond.methodLink RL 26 yX9_fault ∈ lw_tbl := kin5 _ (List.mem_of_getElem? (i := 38) (by decide +kernel))
theorem kw828 : Cond.instanceMethod yX9_fault ∈ lw_tbl := kin5 _ (List.mem_of_getElem? (i := 39) (by decide +kernel))
theorem kw829 : Cond.selects RX9 yX9_fault yX9_fault ∈ lw_tbl := kin5 _ (List.mem_of_getElem? (i := 40) (by decide +kernel))
theorem kw830 : Cond.code yX9_fault cX9_fault 1 (some .int) ∈ lw_tbl := kin5 _ (List.mem_of_getElem? (i := 41) rfl)
theorem qml_r165 : ∀ w ∈ qml_w (13, 26, 124, 0, 0), w ∈ lw_tbl := List.forall_mem_cons.mpr ⟨kw827, List.forall_mem_cons.mpr ⟨kw828, List.forall_mem_cons.mpr ⟨kw829, List.forall_mem_cons.mpr ⟨kw260, List.forall_mem_cons.mpr ⟨kw830, fun _ h => absurd h List.not_mem_nil⟩⟩⟩⟩⟩
theorem kw831 : Cond.methodLink RL 27 yX8_day ∈ lw_tbl := kin2 _ (List.mem_of_getElem? (i := 165) (by decide +kernel))
theorem kw832 : Cond.instanceMethod yX8_day ∈ lw_tbl := kin2 _ (List.mem_of_getElem? (i := 166) (by decide +kernel))
theorem kw833 : Cond.selects RX8 yX8_day yX8_day ∈ lw_tbl := kin2 _ (List.mem_of_getElem? (i := 167) (by decide +kernel))
theorem kw834 : Cond.code yX8_day cX8_day 2 (some .int) ∈ lw_tbl := kin2 _ (List.mem_of_getElem? (i := 168) rfl)
theorem qml_r166 : ∀ w ∈ qml_w (13, 27, 73, 0, 0), w ∈ lw_tbl := List.forall_mem_cons.mpr ⟨kw831, List.forall_mem_cons.mpr ⟨kw832, List.forall_mem_cons.mpr ⟨kw833, List.forall_mem_cons.mpr ⟨kw257, List.forall_mem_cons.mpr ⟨kw834, fun _ h => absurd h List.not_mem_nil⟩⟩⟩⟩⟩
theorem kw835 : Cond.methodLink RL 30 yX9_day ∈ lw_tbl := kin5 _ (List.mem_of_getElem? (i := 70) (by decide +kernel))
theorem kw836 : Cond.instanceMethod yX9_day ∈ lw_tbl := kin5 _ (List.mem_of_getElem? (i := 71) (by decide +kernel))
theorem kw837 : Cond.selects RX9 yX9_day yX9_day ∈ lw_tbl := kin5 _ (List.mem_of_getElem? (i := 72) (by decide +kernel))
theorem kw838 : Cond.code yX9_day cX9_day 2 (some .int) ∈ lw_tbl := kin5 _ (List.mem_of_getElem? (i := 73) rfl)
theorem qml_r167 : ∀ w ∈ qml_w (13, 30, 125, 0, 0), w ∈ lw_tbl := List.forall_mem_cons.mpr ⟨kw835, List.forall_mem_cons.mpr ⟨kw836, List.forall_mem_cons.mpr ⟨kw837, List.forall_mem_cons.mpr ⟨kw260, List.forall_mem_cons.mpr ⟨kw838, fun _ h => absurd h List.not_mem_nil⟩⟩⟩⟩⟩
theorem kw839 : Cond.methodLink RL 31 yX8_about ∈ lw_tbl := kin2 _ (List.mem_of_getElem? (i := 170) (by decide +kernel))
theorem kw840 : Cond.instanceMethod yX8_about ∈ lw_tbl := kin2 _ (List.mem_of_getElem? (i := 171) (by decide +kernel))
theorem kw841 : Cond.selects RX8 yX8_about yX8_about ∈ lw_tbl := kin2 _ (List.mem_of_getElem? (i := 172) (by decide +kernel))
theorem kw842 : Cond.code yX8_about cX8_about 2 (some .int) ∈ lw_tbl := kin2 _ (List.mem_of_getElem? (i := 173) rfl)
theorem qml_r168 : ∀ w ∈ qml_w (13, 31, 74, 1, 0), w ∈ lw_tbl := List.forall_mem_cons.mpr ⟨kw839, List.forall_mem_cons.mpr ⟨kw840, List.forall_mem_cons.mpr ⟨kw841, List.forall_mem_cons.mpr ⟨kw257, List.forall_mem_cons.mpr ⟨kw842, fun _ h => absurd h List.not_mem_nil⟩⟩⟩⟩⟩
theorem kw843 : Cond.methodLink RL 34 yX9_about ∈ lw_tbl := kin5 _ (List.mem_of_getElem? (i := 74) (by decide +kernel))
theorem kw844 : Cond.instanceMethod yX9_about ∈ lw_tbl := kin5 _ (List.mem_of_getElem? (i := 75) (by decide +kernel))
theorem kw845 : Cond.selects RX9 yX9_about yX9_about ∈ lw_tbl := kin5 _ (List.mem_of_getElem? (i := 76) (by decide +kernel))
theorem kw846 : Cond.code yX9_about cX9_about 2 (some .int) ∈ lw_tbl := kin5 _ (List.mem_of_getElem? (i := 77) rfl)
theorem qml_r169 : ∀ w ∈ qml_w (13, 34, 153, 1, 0), w ∈ lw_tbl := List.forall_mem_cons.mpr ⟨kw843, List.forall_mem_cons.mpr ⟨kw844, List.forall_mem_cons.mpr ⟨kw845, List.forall_mem_cons.mpr ⟨kw260, List.forall_mem_cons.mpr ⟨kw846, fun _ h => absurd h List.not_mem_nil⟩⟩⟩⟩⟩
theorem kw847 : Cond.methodLink RL 35 yX8_set ∈ lw_tbl := kin2 _ (List.mem_of_getElem? (i := 174) (by decide +kernel))
theorem kw848 : Cond.instanceMethod yX8_set ∈ lw_tbl := kin2 _ (List.mem_of_getElem? (i := 175) (by decide +kernel))
theorem kw849 : Cond.selects RX8 yX8_set yX8_set ∈ lw_tbl := kin2 _ (List.mem_of_getElem? (i := 176) (by decide +kernel))
theorem kw850 : Cond.code yX8_set cX8_set 4 (some .int) ∈ lw_tbl := kin2 _ (List.mem_of_getElem? (i := 177) rfl)
theorem qml_r170 : ∀ w ∈ qml_w (13, 35, 75, 2, 0), w ∈ lw_tbl := List.forall_mem_cons.mpr ⟨kw847, List.forall_mem_cons.mpr ⟨kw848, List.forall_mem_cons.mpr ⟨kw849, List.forall_mem_cons.mpr ⟨kw257, List.forall_mem_cons.mpr ⟨kw850, fun _ h => absurd h List.not_mem_nil⟩⟩⟩⟩⟩
theorem kw851 : Cond.methodLink RL 39 yX9_set ∈ lw_tbl := kin5 _ (List.mem_of_getElem? (i := 78) (by decide +kernel))
theorem kw852 : Cond.instanceMethod yX9_set ∈ lw_tbl := kin5 _ (List.mem_of_getElem? (i := 79) (by decide +kernel))
theorem kw853 : Cond.selects RX9 yX9_set yX9_set ∈ lw_tbl := kin5 _ (List.mem_of_getElem? (i := 80) (by decide +kernel))
theorem kw854 : Cond.code yX9_set cX9_set 4 (some .int) ∈ lw_tbl := kin5 _ (List.mem_of_getElem? (i := 81) rfl)
theorem qml_r171 : ∀ w ∈ qml_w (13, 39, 156, 2, 0), w ∈ lw_tbl := List.forall_mem_cons.mpr ⟨kw851, List.forall_mem_cons.mpr ⟨kw852, List.forall_mem_cons.mpr ⟨kw853, List.forall_mem_cons.mpr ⟨kw260, List.forall_mem_cons.mpr ⟨kw854, fun _ h => absurd h List.not_mem_nil⟩⟩⟩⟩⟩
theorem kw855 : Cond.methodLink RL 40 yX8_turn ∈ lw_tbl := kin2 _ (List.mem_of_getElem? (i := 190) (by decide +kernel))
theorem kw856 : Cond.instanceMethod yX8_turn ∈ lw_tbl := kin2 _ (List.mem_of_getElem? (i := 191) (by decide +kernel))
theorem kw857 : Cond.selects RX8 yX8_turn yX8_turn ∈ lw_tbl := kin2 _ (List.mem_of_getElem? (i := 192) (by decide +kernel))
theorem kw858 : Cond.code yX8_turn cX8_turn 3 (some .int) ∈ lw_tbl := kin2 _ (List.mem_of_getElem? (i := 193) rfl)
theorem qml_r172 : ∀ w ∈ qml_w (13, 40, 76, 1, 0), w ∈ lw_tbl := List.forall_mem_cons.mpr ⟨kw855, List.forall_mem_cons.mpr ⟨kw856, List.forall_mem_cons.mpr ⟨kw857, List.forall_mem_cons.mpr ⟨kw257, List.forall_mem_cons.mpr ⟨kw858, fun _ h => absurd h List.not_mem_nil⟩⟩⟩⟩⟩
theorem kw859 : Cond.methodLink RL 43 yX9_turn ∈ lw_tbl := kin5 _ (List.mem_of_getElem? (i := 91) (by decide +kernel))
theorem kw860 : Cond.instanceMethod yX9_turn ∈ lw_tbl := kin5 _ (List.mem_of_getElem? (i := 92) (by decide +kernel))
theorem kw861 : Cond.selects RX9 yX9_turn yX9_turn ∈ lw_tbl := kin5 _ (List.mem_of_getElem? (i := 93) (by decide +kernel))
theorem kw862 : Cond.code yX9_turn cX9_turn 2 (some .int) ∈ lw_tbl := kin5 _ (List.mem_of_getElem? (i := 94) rfl)
theorem qml_r173 : ∀ w ∈ qml_w (13, 43, 159, 1, 0), w ∈ lw_tbl := List.forall_mem_cons.mpr ⟨kw859, List.forall_mem_cons.mpr ⟨kw860, List.forall_mem_cons.mpr ⟨kw861, List.forall_mem_cons.mpr ⟨kw260, List.forall_mem_cons.mpr ⟨kw862, fun _ h => absurd h List.not_mem_nil⟩⟩⟩⟩⟩
theorem kw863 : Cond.methodLink RL 44 yX8_undo ∈ lw_tbl := kin2 _ (List.mem_of_getElem? (i := 198) (by decide +kernel))
theorem kw864 : Cond.instanceMethod yX8_undo ∈ lw_tbl := kin2 _ (List.mem_of_getElem? (i := 199) (by decide +kernel))
theorem kw865 : Cond.selects RX8 yX8_undo yX8_undo ∈ lw_tbl := kin2 _ (List.mem_of_getElem? (i := 200) (by decide +kernel))
theorem kw866 : Cond.code yX8_undo cX8_undo 1 (some .int) ∈ lw_tbl := kin2 _ (List.mem_of_getElem? (i := 201) rfl)
theorem qml_r174 : ∀ w ∈ qml_w (13, 44, 77, 0, 0), w ∈ lw_tbl := List.forall_mem_cons.mpr ⟨kw863, List.forall_mem_cons.mpr ⟨kw864, List.forall_mem_cons.mpr ⟨kw865, List.forall_mem_cons.mpr ⟨kw257, List.forall_mem_cons.mpr ⟨kw866, fun _ h => absurd h List.not_mem_nil⟩⟩⟩⟩⟩
theorem kw867 : Cond.methodLink RL 47 yX9_undo ∈ lw_tbl := kin5 _ (List.mem_of_getElem? (i := 99) (by decide +kernel))
theorem kw868 : Cond.instanceMethod yX9_undo ∈ lw_tbl := kin5 _ (List.mem_of_getElem? (i := 100) (by decide +kernel))
theorem kw869 : Cond.selects RX9 yX9_undo yX9_undo ∈ lw_tbl := kin5 _ (List.mem_of_getElem? (i := 101) (by decide +kernel))
theorem kw870 : Cond.code yX9_undo cX9_undo 2 (some .int) ∈ lw_tbl := kin5 _ (List.mem_of_getElem? (i := 102) rfl)
theorem qml_r175 : ∀ w ∈ qml_w (13, 47, 160, 0, 0), w ∈ lw_tbl := List.forall_mem_cons.mpr ⟨kw867, List.forall_mem_cons.mpr ⟨kw868, List.forall_mem_cons.mpr ⟨kw869, List.forall_mem_cons.mpr ⟨kw260, List.forall_mem_cons.mpr ⟨kw870, fun _ h => absurd h List.not_mem_nil⟩⟩⟩⟩⟩
theorem kw871 : Cond.methodLink RL 48 yX8_ask ∈ lw_tbl := kin2 _ (List.mem_of_getElem? (i := 206) (by decide +kernel))
theorem kw872 : Cond.instanceMethod yX8_ask ∈ lw_tbl := kin2 _ (List.mem_of_getElem? (i := 207) (by decide +kernel))
theorem kw873 : Cond.selects RX8 yX8_ask yX8_ask ∈ lw_tbl := kin2 _ (List.mem_of_getElem? (i := 208) (by decide +kernel))
theorem kw874 : Cond.code yX8_ask cX8_ask 3 (some .int) ∈ lw_tbl := kin2 _ (List.mem_of_getElem? (i := 209) rfl)
theorem qml_r176 : ∀ w ∈ qml_w (13, 48, 78, 2, 0), w ∈ lw_tbl := List.forall_mem_cons.mpr ⟨kw871, List.forall_mem_cons.mpr ⟨kw872, List.forall_mem_cons.mpr ⟨kw873, List.forall_mem_cons.mpr ⟨kw257, List.forall_mem_cons.mpr ⟨kw874, fun _ h => absurd h List.not_mem_nil⟩⟩⟩⟩⟩
theorem kw875 : Cond.methodLink RL 51 yX9_ask ∈ lw_tbl := kin5 _ (List.mem_of_getElem? (i := 103) (by decide +kernel))
theorem kw876 : Cond.instanceMethod yX9_ask ∈ lw_tbl := kin5 _ (List.mem_of_getElem? (i := 104) (by decide +kernel))
theorem kw877 : Cond.selects RX9 yX9_ask yX9_ask ∈ lw_tbl := kin5 _ (List.mem_of_getElem? (i := 105) (by decide +kernel))
theorem kw878 : Cond.code yX9_ask cX9_ask 3 (some .int) ∈ lw_tbl := kin5 _ (List.mem_of_getElem? (i := 106) rfl)
theorem qml_r177 : ∀ w ∈ qml_w (13, 51, 161, 2, 0), w ∈ lw_tbl := List.forall_mem_cons.mpr ⟨kw875, List.forall_mem_cons.mpr ⟨kw876, List.forall_mem_cons.mpr ⟨kw877, List.forall_mem_cons.mpr ⟨kw260, List.forall_mem_cons.mpr ⟨kw878, fun _ h => absurd h List.not_mem_nil⟩⟩⟩⟩⟩
theorem kw879 : Cond.methodLink RL 52 yX8_host ∈ lw_tbl := kin3 _ (List.mem_of_getElem? (i := 138) (by decide +kernel))
theorem kw880 : Cond.instanceMethod yX8_host ∈ lw_tbl := kin3 _ (List.mem_of_getElem? (i := 139) (by decide +kernel))
theorem kw881 : Cond.selects RX8 yX8_host yX8_host ∈ lw_tbl := kin3 _ (List.mem_of_getElem? (i := 140) (by decide +kernel))
theorem kw882 : Cond.code yX8_host cX8_host 3 (some .int) ∈ lw_tbl := kin3 _ (List.mem_of_getElem? (i := 141) rfl)
theorem qml_r178 : ∀ w ∈ qml_w (13, 52, 79, 2, 0), w ∈ lw_tbl := List.forall_mem_cons.mpr ⟨kw879, List.forall_mem_cons.mpr ⟨kw880, List.forall_mem_cons.mpr ⟨kw881, List.forall_mem_cons.mpr ⟨kw257, List.forall_mem_cons.mpr ⟨kw882, fun _ h => absurd h List.not_mem_nil⟩⟩⟩⟩⟩
theorem kw883 : Cond.methodLink RL 55 yX9_host ∈ lw_tbl := kin6 _ (List.mem_of_getElem? (i := 1) (by decide +kernel))
theorem kw884 : Cond.instanceMethod yX9_host ∈ lw_tbl := kin6 _ (List.mem_of_getElem? (i := 2) (by decide +kernel))
theorem kw885 : Cond.selects RX9 yX9_host yX9_host ∈ lw_tbl := kin6 _ (List.mem_of_getElem? (i := 3) (by decide +kernel))
theorem kw886 : Cond.code yX9_host cX9_host 3 (some .int) ∈ lw_tbl := kin6 _ (List.mem_of_getElem? (i := 4) rfl)
theorem qml_r179 : ∀ w ∈ qml_w (13, 55, 162, 2, 0), w ∈ lw_tbl := List.forall_mem_cons.mpr ⟨kw883, List.forall_mem_cons.mpr ⟨kw884, List.forall_mem_cons.mpr ⟨kw885, List.forall_mem_cons.mpr ⟨kw260, List.forall_mem_cons.mpr ⟨kw886, fun _ h => absurd h List.not_mem_nil⟩⟩⟩⟩⟩
theorem qml_ok5 : ∀ r ∈ qml_5, ∀ w ∈ qml_w r, w ∈ lw_tbl := List.forall_mem_cons.mpr ⟨qml_r150, List.forall_mem_cons.mpr ⟨qml_r151, List.forall_mem_cons.mpr ⟨qml_r152, List.forall_mem_cons.mpr ⟨qml_r153, List.forall_mem_cons.mpr ⟨qml_r154, List.forall_mem_cons.mpr ⟨qml_r155, List.forall_mem_cons.mpr ⟨qml_r156, List.forall_mem_cons.mpr ⟨qml_r157, List.forall_mem_cons.mpr ⟨qml_r158, List.forall_mem_cons.mpr ⟨qml_r159, List.forall_mem_cons.mpr ⟨qml_r160, List.forall_mem_cons.mpr ⟨qml_r161, List.forall_mem_cons.mpr ⟨qml_r162, List.forall_mem_cons.mpr ⟨qml_r163, List.forall_mem_cons.mpr ⟨qml_r164, List.forall_mem_cons.mpr ⟨qml_r165, List.forall_mem_cons.mpr ⟨qml_r166, List.forall_mem_cons.mpr ⟨qml_r167, List.forall_mem_cons.mpr ⟨qml_r168, List.forall_mem_cons.mpr ⟨qml_r169, List.forall_mem_cons.mpr ⟨qml_r170, List.forall_mem_cons.mpr ⟨qml_r171, List.forall_mem_cons.mpr ⟨qml_r172, List.forall_mem_cons.mpr ⟨qml_r173, List.forall_mem_cons.mpr ⟨qml_r174, List.forall_mem_cons.mpr ⟨qml_r175, List.forall_mem_cons.mpr ⟨qml_r176, List.forall_mem_cons.mpr ⟨qml_r177, List.forall_mem_cons.mpr ⟨qml_r178, List.forall_mem_cons.mpr ⟨qml_r179, fun _ h => absurd h List.not_mem_nil⟩⟩⟩⟩⟩⟩⟩⟩⟩⟩⟩⟩⟩⟩⟩⟩⟩⟩⟩⟩⟩⟩⟩⟩⟩⟩⟩⟩⟩⟩
theorem kw887 : Cond.methodLink RL 56 yX8_total ∈ lw_tbl := kin3 _ (List.mem_of_getElem? (i := 150) (by decide +kernel))
theorem kw888 : Cond.instanceMethod yX8_total ∈ lw_tbl := kin3 _ (List.mem_of_getElem? (i := 151) (by decide +kernel))
theorem kw889 : Cond.selects RX8 yX8_total yX8_total ∈ lw_tbl := kin3 _ (List.mem_of_getElem? (i := 152) (by decide +kernel))
theorem kw890 : Cond.code yX8_total cX8_total 2 (some .int) ∈ lw_tbl := kin3 _ (List.mem_of_getElem? (i := 153) rfl)
theorem qml_r180 : ∀ w ∈ qml_w (13, 56, 80, 1, 0), w ∈ lw_tbl := List.forall_mem_cons.mpr ⟨kw887, List.forall_mem_cons.mpr ⟨kw888, List.forall_mem_cons.mpr ⟨kw889, List.forall_mem_cons.mpr ⟨kw257, List.forall_mem_cons.mpr ⟨kw890, fun _ h => absurd h List.not_mem_nil⟩⟩⟩⟩⟩
theorem kw891 : Cond.methodLink RL 59 yX9_total ∈ lw_tbl := kin6 _ (List.mem_of_getElem? (i := 5) (by decide +kernel))
theorem kw892 : Cond.instanceMethod yX9_total ∈ lw_tbl := kin6 _ (List.mem_of_getElem? (i := 6) (by decide +kernel))
theorem kw893 : Cond.selects RX9 yX9_total yX9_total ∈ lw_tbl := kin6 _ (List.mem_of_getElem? (i := 7) (by decide +kernel))
theorem kw894 : Cond.code yX9_total cX9_total 2 (some .int) ∈ lw_tbl := kin6 _ (List.mem_of_getElem? (i := 8) rfl)
theorem qml_r181 : ∀ w ∈ qml_w (13, 59, 163, 1, 0), w ∈ lw_tbl := List.forall_mem_cons.mpr ⟨kw891, List.forall_mem_cons.mpr ⟨kw892, List.forall_mem_cons.mpr ⟨kw893, List.forall_mem_cons.mpr ⟨kw260, List.forall_mem_cons.mpr ⟨kw894, fun _ h => absurd h List.not_mem_nil⟩⟩⟩⟩⟩
theorem kw895 : Cond.methodLink RL 60 yX8_stand ∈ lw_tbl := kin3 _ (List.mem_of_getElem? (i := 176) (by decide +kernel))
theorem kw896 : Cond.instanceMethod yX8_stand ∈ lw_tbl := kin3 _ (List.mem_of_getElem? (i := 177) (by decide +kernel))
theorem kw897 : Cond.selects RX8 yX8_stand yX8_stand ∈ lw_tbl := kin3 _ (List.mem_of_getElem? (i := 178) (by decide +kernel))
theorem kw898 : Cond.code yX8_stand cX8_stand 4 (some .int) ∈ lw_tbl := kin3 _ (List.mem_of_getElem? (i := 179) rfl)
theorem qml_r182 : ∀ w ∈ qml_w (13, 60, 81, 3, 0), w ∈ lw_tbl := List.forall_mem_cons.mpr ⟨kw895, List.forall_mem_cons.mpr ⟨kw896, List.forall_mem_cons.mpr ⟨kw897, List.forall_mem_cons.mpr ⟨kw257, List.forall_mem_cons.mpr ⟨kw898, fun _ h => absurd h List.not_mem_nil⟩⟩⟩⟩⟩
theorem kw899 : Cond.methodLink RL 64 yX9_stand ∈ lw_tbl := kin6 _ (List.mem_of_getElem? (i := 17) (by decide +kernel))
theorem kw900 : Cond.instanceMethod yX9_stand ∈ lw_tbl := kin6 _ (List.mem_of_getElem? (i := 18) (by decide +kernel))
theorem kw901 : Cond.selects RX9 yX9_stand yX9_stand ∈ lw_tbl := kin6 _ (List.mem_of_getElem? (i := 19) (by decide +kernel))
theorem kw902 : Cond.code yX9_stand cX9_stand 4 (some .int) ∈ lw_tbl := kin6 _ (List.mem_of_getElem? (i := 20) rfl)
theorem qml_r183 : ∀ w ∈ qml_w (13, 64, 164, 3, 0), w ∈ lw_tbl := List.forall_mem_cons.mpr ⟨kw899, List.forall_mem_cons.mpr ⟨kw900, List.forall_mem_cons.mpr ⟨kw901, List.forall_mem_cons.mpr ⟨kw260, List.forall_mem_cons.mpr ⟨kw902, fun _ h => absurd h List.not_mem_nil⟩⟩⟩⟩⟩
theorem kw903 : Cond.methodLink RL 65 yX8_best ∈ lw_tbl := kin3 _ (List.mem_of_getElem? (i := 186) (by decide +kernel))
theorem kw904 : Cond.instanceMethod yX8_best ∈ lw_tbl := kin3 _ (List.mem_of_getElem? (i := 187) (by decide +kernel))
theorem kw905 : Cond.selects RX8 yX8_best yX8_best ∈ lw_tbl := kin3 _ (List.mem_of_getElem? (i := 188) (by decide +kernel))
theorem kw906 : Cond.code yX8_best cX8_best 10 (some .int) ∈ lw_tbl := kin3 _ (List.mem_of_getElem? (i := 189) rfl)
theorem qml_r184 : ∀ w ∈ qml_w (13, 65, 82, 1, 0), w ∈ lw_tbl := List.forall_mem_cons.mpr ⟨kw903, List.forall_mem_cons.mpr ⟨kw904, List.forall_mem_cons.mpr ⟨kw905, List.forall_mem_cons.mpr ⟨kw257, List.forall_mem_cons.mpr ⟨kw906, fun _ h => absurd h List.not_mem_nil⟩⟩⟩⟩⟩
theorem kw907 : Cond.methodLink RL 68 yX9_best ∈ lw_tbl := kin6 _ (List.mem_of_getElem? (i := 22) (by decide +kernel))
theorem kw908 : Cond.instanceMethod yX9_best ∈ lw_tbl := kin6 _ (List.mem_of_getElem? (i := 23) (by decide +kernel))
theorem kw909 : Cond.selects RX9 yX9_best yX9_best ∈ lw_tbl := kin6 _ (List.mem_of_getElem? (i := 24) (by decide +kernel))
theorem kw910 : Cond.code yX9_best cX9_best 8 (some .int) ∈ lw_tbl := kin6 _ (List.mem_of_getElem? (i := 25) rfl)
theorem qml_r185 : ∀ w ∈ qml_w (13, 68, 166, 1, 0), w ∈ lw_tbl := List.forall_mem_cons.mpr ⟨kw907, List.forall_mem_cons.mpr ⟨kw908, List.forall_mem_cons.mpr ⟨kw909, List.forall_mem_cons.mpr ⟨kw260, List.forall_mem_cons.mpr ⟨kw910, fun _ h => absurd h List.not_mem_nil⟩⟩⟩⟩⟩
theorem kw911 : Cond.methodLink RL 71 yX8_judge ∈ lw_tbl := kin3 _ (List.mem_of_getElem? (i := 202) (by decide +kernel))
theorem kw912 : Cond.instanceMethod yX8_judge ∈ lw_tbl := kin3 _ (List.mem_of_getElem? (i := 203) (by decide +kernel))
theorem kw913 : Cond.selects RX8 yX8_judge yX8_judge ∈ lw_tbl := kin3 _ (List.mem_of_getElem? (i := 204) (by decide +kernel))
theorem kw914 : Cond.code yX8_judge cX8_judge 6 (some .int) ∈ lw_tbl := kin3 _ (List.mem_of_getElem? (i := 205) rfl)
theorem qml_r186 : ∀ w ∈ qml_w (13, 71, 83, 2, 0), w ∈ lw_tbl := List.forall_mem_cons.mpr ⟨kw911, List.forall_mem_cons.mpr ⟨kw912, List.forall_mem_cons.mpr ⟨kw913, List.forall_mem_cons.mpr ⟨kw257, List.forall_mem_cons.mpr ⟨kw914, fun _ h => absurd h List.not_mem_nil⟩⟩⟩⟩⟩
theorem kw915 : Cond.methodLink RL 75 yX9_judge ∈ lw_tbl := kin6 _ (List.mem_of_getElem? (i := 30) (by decide +kernel))
theorem kw916 : Cond.instanceMethod yX9_judge ∈ lw_tbl := kin6 _ (List.mem_of_getElem? (i := 31) (by decide +kernel))
theorem kw917 : Cond.selects RX9 yX9_judge yX9_judge ∈ lw_tbl := kin6 _ (List.mem_of_getElem? (i := 32) (by decide +kernel))
theorem kw918 : Cond.code yX9_judge cX9_judge 6 (some .int) ∈ lw_tbl := kin6 _ (List.mem_of_getElem? (i := 33) rfl)
theorem qml_r187 : ∀ w ∈ qml_w (13, 75, 169, 2, 0), w ∈ lw_tbl := List.forall_mem_cons.mpr ⟨kw915, List.forall_mem_cons.mpr ⟨kw916, List.forall_mem_cons.mpr ⟨kw917, List.forall_mem_cons.mpr ⟨kw260, List.forall_mem_cons.mpr ⟨kw918, fun _ h => absurd h List.not_mem_nil⟩⟩⟩⟩⟩
theorem kw919 : Cond.methodLink RL 76 yX8_see ∈ lw_tbl := kin3 _ (List.mem_of_getElem? (i := 221) (by decide +kernel))
theorem kw920 : Cond.instanceMethod yX8_see ∈ lw_tbl := kin3 _ (List.mem_of_getElem? (i := 222) (by decide +kernel))
theorem kw921 : Cond.selects RX8 yX8_see yX8_see ∈ lw_tbl := kin3 _ (List.mem_of_getElem? (i := 223) (by decide +kernel))
theorem kw922 : Cond.code yX8_see cX8_see 3 (some .int) ∈ lw_tbl := kin3 _ (List.mem_of_getElem? (i := 224) rfl)
theorem qml_r188 : ∀ w ∈ qml_w (13, 76, 84, 2, 0), w ∈ lw_tbl := List.forall_mem_cons.mpr ⟨kw919, List.forall_mem_cons.mpr ⟨kw920, List.forall_mem_cons.mpr ⟨kw921, List.forall_mem_cons.mpr ⟨kw257, List.forall_mem_cons.mpr ⟨kw922, fun _ h => absurd h List.not_mem_nil⟩⟩⟩⟩⟩
theorem kw923 : Cond.methodLink RL 79 yX9_see ∈ lw_tbl := kin6 _ (List.mem_of_getElem? (i := 42) (by decide +kernel))
theorem kw924 : Cond.instanceMethod yX9_see ∈ lw_tbl := kin6 _ (List.mem_of_getElem? (i := 43) (by decide +kernel))
theorem kw925 : Cond.selects RX9 yX9_see yX9_see ∈ lw_tbl := kin6 _ (List.mem_of_getElem? (i := 44) (by decide +kernel))
theorem kw926 : Cond.code yX9_see cX9_see 3 (some .int) ∈ lw_tbl := kin6 _ (List.mem_of_getElem? (i := 45) rfl)
theorem qml_r189 : ∀ w ∈ qml_w (13, 79, 170, 2, 0), w ∈ lw_tbl := List.forall_mem_cons.mpr ⟨kw923, List.forall_mem_cons.mpr ⟨kw924, List.forall_mem_cons.mpr ⟨kw925, List.forall_mem_cons.mpr ⟨kw260, List.forall_mem_cons.mpr ⟨kw926, fun _ h => absurd h List.not_mem_nil⟩⟩⟩⟩⟩
theorem kw927 : Cond.methodLink RL 80 yX8_unsee ∈ lw_tbl := kin3 _ (List.mem_of_getElem? (i := 229) (by decide +kernel))
theorem kw928 : Cond.instanceMethod yX8_unsee ∈ lw_tbl := kin3 _ (List.mem_of_getElem? (i := 230) (by decide +kernel))
theorem kw929 : Cond.selects RX8 yX8_unsee yX8_unsee ∈ lw_tbl := kin3 _ (List.mem_of_getElem? (i := 231) (by decide +kernel))
theorem kw930 : Cond.code yX8_unsee cX8_unsee 2 (some .int) ∈ lw_tbl := kin3 _ (List.mem_of_getElem? (i := 232) rfl)
theorem qml_r190 : ∀ w ∈ qml_w (13, 80, 85, 0, 0), w ∈ lw_tbl := List.forall_mem_cons.mpr ⟨kw927, List.forall_mem_cons.mpr ⟨kw928, List.forall_mem_cons.mpr ⟨kw929, List.forall_mem_cons.mpr ⟨kw257, List.forall_mem_cons.mpr ⟨kw930, fun _ h => absurd h List.not_mem_nil⟩⟩⟩⟩⟩
theorem kw931 : Cond.methodLink RL 83 yX9_unsee ∈ lw_tbl := kin6 _ (List.mem_of_getElem? (i := 46) (by decide +kernel))
theorem kw932 : Cond.instanceMethod yX9_unsee ∈ lw_tbl := kin6 _ (List.mem_of_getElem? (i := 47) (by decide +kernel))
theorem kw933 : Cond.selects RX9 yX9_unsee yX9_unsee ∈ lw_tbl := kin6 _ (List.mem_of_getElem? (i := 48) (by decide +kernel))
theorem kw934 : Cond.code yX9_unsee cX9_unsee 2 (some .int) ∈ lw_tbl := kin6 _ (List.mem_of_getElem? (i := 49) rfl)
theorem qml_r191 : ∀ w ∈ qml_w (13, 83, 171, 0, 0), w ∈ lw_tbl := List.forall_mem_cons.mpr ⟨kw931, List.forall_mem_cons.mpr ⟨kw932, List.forall_mem_cons.mpr ⟨kw933, List.forall_mem_cons.mpr ⟨kw260, List.forall_mem_cons.mpr ⟨kw934, fun _ h => absurd h List.not_mem_nil⟩⟩⟩⟩⟩
theorem kw935 : Cond.methodLink RL 84 yX8_which ∈ lw_tbl := kin3 _ (List.mem_of_getElem? (i := 233) (by decide +kernel))
theorem kw936 : Cond.instanceMethod yX8_which ∈ lw_tbl := kin3 _ (List.mem_of_getElem? (i := 234) (by decide +kernel))
theorem kw937 : Cond.selects RX8 yX8_which yX8_which ∈ lw_tbl := kin3 _ (List.mem_of_getElem? (i := 235) (by decide +kernel))
theorem kw938 : Cond.code yX8_which cX8_which 3 (some .int) ∈ lw_tbl := kin3 _ (List.mem_of_getElem? (i := 236) rfl)
theorem qml_r192 : ∀ w ∈ qml_w (13, 84, 86, 0, 0), w ∈ lw_tbl := List.forall_mem_cons.mpr ⟨kw935, List.forall_mem_cons.mpr ⟨kw936, List.forall_mem_cons.mpr ⟨kw937, List.forall_mem_cons.mpr ⟨kw257, List.forall_mem_cons.mpr ⟨kw938, fun _ h => absurd h List.not_mem_nil⟩⟩⟩⟩⟩
theorem kw939 : Cond.methodLink RL 87 yX9_which ∈ lw_tbl := kin6 _ (List.mem_of_getElem? (i := 50) (by decide +kernel))
theorem kw940 : Cond.instanceMethod yX9_which ∈ lw_tbl := kin6 _ (List.mem_of_getElem? (i := 51) (by decide +kernel))
theorem kw941 : Cond.selects RX9 yX9_which yX9_which ∈ lw_tbl := kin6 _ (List.mem_of_getElem? (i := 52) (by decide +kernel))
theorem kw942 : Cond.code yX9_which cX9_which 6 (some .int) ∈ lw_tbl := kin6 _ (List.mem_of_getElem? (i := 53) rfl)
theorem qml_r193 : ∀ w ∈ qml_w (13, 87, 172, 0, 0), w ∈ lw_tbl := List.forall_mem_cons.mpr ⟨kw939, List.forall_mem_cons.mpr ⟨kw940, List.forall_mem_cons.mpr ⟨kw941, List.forall_mem_cons.mpr ⟨kw260, List.forall_mem_cons.mpr ⟨kw942, fun _ h => absurd h List.not_mem_nil⟩⟩⟩⟩⟩
theorem kw943 : Cond.methodLink RL 88 yX8_share ∈ lw_tbl := kin4 _ (List.mem_of_getElem? (i := 1) (by decide +kernel))
theorem kw944 : Cond.instanceMethod yX8_share ∈ lw_tbl := kin4 _ (List.mem_of_getElem? (i := 2) (by decide +kernel))
theorem kw945 : Cond.selects RX8 yX8_share yX8_share ∈ lw_tbl := kin4 _ (List.mem_of_getElem? (i := 3) (by decide +kernel))
theorem kw946 : Cond.code yX8_share cX8_share 8 (some .int) ∈ lw_tbl := kin4 _ (List.mem_of_getElem? (i := 4) rfl)
theorem qml_r194 : ∀ w ∈ qml_w (13, 88, 87, 2, 0), w ∈ lw_tbl := List.forall_mem_cons.mpr ⟨kw943, List.forall_mem_cons.mpr ⟨kw944, List.forall_mem_cons.mpr ⟨kw945, List.forall_mem_cons.mpr ⟨kw257, List.forall_mem_cons.mpr ⟨kw946, fun _ h => absurd h List.not_mem_nil⟩⟩⟩⟩⟩
theorem kw947 : Cond.methodLink RL 92 yX9_share ∈ lw_tbl := kin6 _ (List.mem_of_getElem? (i := 54) (by decide +kernel))
theorem kw948 : Cond.instanceMethod yX9_share ∈ lw_tbl := kin6 _ (List.mem_of_getElem? (i := 55) (by decide +kernel))
theorem kw949 : Cond.selects RX9 yX9_share yX9_share ∈ lw_tbl := kin6 _ (List.mem_of_getElem? (i := 56) (by decide +kernel))
theorem kw950 : Cond.code yX9_share cX9_share 8 (some .int) ∈ lw_tbl := kin6 _ (List.mem_of_getElem? (i := 57) rfl)
theorem qml_r195 : ∀ w ∈ qml_w (13, 92, 173, 2, 0), w ∈ lw_tbl := List.forall_mem_cons.mpr ⟨kw947, List.forall_mem_cons.mpr ⟨kw948, List.forall_mem_cons.mpr ⟨kw949, List.forall_mem_cons.mpr ⟨kw260, List.forall_mem_cons.mpr ⟨kw950, fun _ h => absurd h List.not_mem_nil⟩⟩⟩⟩⟩
theorem kw951 : Cond.methodLink RL 93 yX8_calm ∈ lw_tbl := kin4 _ (List.mem_of_getElem? (i := 18) (by decide +kernel))
theorem kw952 : Cond.instanceMethod yX8_calm ∈ lw_tbl := kin4 _ (List.mem_of_getElem? (i := 19) (by decide +kernel))
theorem kw953 : Cond.selects RX8 yX8_calm yX8_calm ∈ lw_tbl := kin4 _ (List.mem_of_getElem? (i := 20) (by decide +kernel))
theorem kw954 : Cond.code yX8_calm cX8_calm 8 (some .int) ∈ lw_tbl := kin4 _ (List.mem_of_getElem? (i := 21) rfl)
theorem qml_r196 : ∀ w ∈ qml_w (13, 93, 88, 2, 0), w ∈ lw_tbl := List.forall_mem_cons.mpr ⟨kw951, List.forall_mem_cons.mpr ⟨kw952, List.forall_mem_cons.mpr ⟨kw953, List.forall_mem_cons.mpr ⟨kw257, List.forall_mem_cons.mpr ⟨kw954, fun _ h => absurd h List.not_mem_nil⟩⟩⟩⟩⟩
theorem kw955 : Cond.methodLink RL 96 yX9_calm ∈ lw_tbl := kin6 _ (List.mem_of_getElem? (i := 67) (by decide +kernel))
theorem kw956 : Cond.instanceMethod yX9_calm ∈ lw_tbl := kin6 _ (List.mem_of_getElem? (i := 68) (by decide +kernel))
theorem kw957 : Cond.selects RX9 yX9_calm yX9_calm ∈ lw_tbl := kin6 _ (List.mem_of_getElem? (i := 69) (by decide +kernel))
theorem kw958 : Cond.code yX9_calm cX9_calm 5 (some .int) ∈ lw_tbl := kin6 _ (List.mem_of_getElem? (i := 70) rfl)
theorem qml_r197 : ∀ w ∈ qml_w (13, 96, 174, 2, 0), w ∈ lw_tbl := List.forall_mem_cons.mpr ⟨kw955, List.forall_mem_cons.mpr ⟨kw956, List.forall_mem_cons.mpr ⟨kw957, List.forall_mem_cons.mpr ⟨kw260, List.forall_mem_cons.mpr ⟨kw958, fun _ h => absurd h List.not_mem_nil⟩⟩⟩⟩⟩
theorem kw959 : Cond.methodLink RL 97 yX8_seed ∈ lw_tbl := kin4 _ (List.mem_of_getElem? (i := 26) (by decide +kernel))
theorem kw960 : Cond.instanceMethod yX8_seed ∈ lw_tbl := kin4 _ (List.mem_of_getElem? (i := 27) (by decide +kernel))
theorem kw961 : Cond.selects RX8 yX8_seed yX8_seed ∈ lw_tbl := kin4 _ (List.mem_of_getElem? (i := 28) (by decide +kernel))
theorem kw962 : Cond.code yX8_seed cX8_seed 5 (some .long) ∈ lw_tbl := kin4 _ (List.mem_of_getElem? (i := 29) rfl)
theorem qml_r198 : ∀ w ∈ qml_w (13, 97, 89, 1, 0), w ∈ lw_tbl := List.forall_mem_cons.mpr ⟨kw959, List.forall_mem_cons.mpr ⟨kw960, List.forall_mem_cons.mpr ⟨kw961, List.forall_mem_cons.mpr ⟨kw257, List.forall_mem_cons.mpr ⟨kw962, fun _ h => absurd h List.not_mem_nil⟩⟩⟩⟩⟩
theorem kw963 : Cond.methodLink RL 101 yX9_seed ∈ lw_tbl := kin6 _ (List.mem_of_getElem? (i := 75) (by decide +kernel))
theorem kw964 : Cond.instanceMethod yX9_seed ∈ lw_tbl := kin6 _ (List.mem_of_getElem? (i := 76) (by decide +kernel))
theorem kw965 : Cond.selects RX9 yX9_seed yX9_seed ∈ lw_tbl := kin6 _ (List.mem_of_getElem? (i := 77) (by decide +kernel))
theorem kw966 : Cond.code yX9_seed cX9_seed 5 (some .long) ∈ lw_tbl := kin6 _ (List.mem_of_getElem? (i := 78) rfl)
theorem qml_r199 : ∀ w ∈ qml_w (13, 101, 175, 1, 0), w ∈ lw_tbl := List.forall_mem_cons.mpr ⟨kw963, List.forall_mem_cons.mpr ⟨kw964, List.forall_mem_cons.mpr ⟨kw965, List.forall_mem_cons.mpr ⟨kw260, List.forall_mem_cons.mpr ⟨kw966, fun _ h => absurd h List.not_mem_nil⟩⟩⟩⟩⟩
theorem kw967 : Cond.methodLink RL 102 yX8_drawn ∈ lw_tbl := kin4 _ (List.mem_of_getElem? (i := 30) (by decide +kernel))
theorem kw968 : Cond.instanceMethod yX8_drawn ∈ lw_tbl := kin4 _ (List.mem_of_getElem? (i := 31) (by decide +kernel))
theorem kw969 : Cond.selects RX8 yX8_drawn yX8_drawn ∈ lw_tbl := kin4 _ (List.mem_of_getElem? (i := 32) (by decide +kernel))
theorem kw970 : Cond.code yX8_drawn cX8_drawn 5 (some .int) ∈ lw_tbl := kin4 _ (List.mem_of_getElem? (i := 33) rfl)
theorem qml_r200 : ∀ w ∈ qml_w (13, 102, 90, 1, 0), w ∈ lw_tbl := List.forall_mem_cons.mpr ⟨kw967, List.forall_mem_cons.mpr ⟨kw968, List.forall_mem_cons.mpr ⟨kw969, List.forall_mem_cons.mpr ⟨kw257, List.forall_mem_cons.mpr ⟨kw970, fun _ h => absurd h List.not_mem_nil⟩⟩⟩⟩⟩
theorem kw971 : Cond.methodLink RL 105 yX9_drawn ∈ lw_tbl := kin6 _ (List.mem_of_getElem? (i := 79) (by decide +kernel))
theorem kw972 : Cond.instanceMethod yX9_drawn ∈ lw_tbl := kin6 _ (List.mem_of_getElem? (i := 80) (by decide +kernel))
theorem kw973 : Cond.selects RX9 yX9_drawn yX9_drawn ∈ lw_tbl := kin6 _ (List.mem_of_getElem? (i := 81) (by decide +kernel))
theorem kw974 : Cond.code yX9_drawn cX9_drawn 5 (some .int) ∈ lw_tbl := kin6 _ (List.mem_of_getElem? (i := 82) rfl)
theorem qml_r201 : ∀ w ∈ qml_w (13, 105, 176, 1, 0), w ∈ lw_tbl := List.forall_mem_cons.mpr ⟨kw971, List.forall_mem_cons.mpr ⟨kw972, List.forall_mem_cons.mpr ⟨kw973, List.forall_mem_cons.mpr ⟨kw260, List.forall_mem_cons.mpr ⟨kw974, fun _ h => absurd h List.not_mem_nil⟩⟩⟩⟩⟩
theorem kw975 : Cond.methodLink RL 106 yX8_keep ∈ lw_tbl := kin4 _ (List.mem_of_getElem? (i := 40) (by decide +kernel))
theorem kw976 : Cond.instanceMethod yX8_keep ∈ lw_tbl := kin4 _ (List.mem_of_getElem? (i := 41) (by decide +kernel))
theorem kw977 : Cond.selects RX8 yX8_keep yX8_keep ∈ lw_tbl := kin4 _ (List.mem_of_getElem? (i := 42) (by decide +kernel))
theorem kw978 : Cond.code yX8_keep cX8_keep 2 (some .int) ∈ lw_tbl := kin4 _ (List.mem_of_getElem? (i := 43) rfl)
theorem qml_r202 : ∀ w ∈ qml_w (13, 106, 91, 1, 0), w ∈ lw_tbl := List.forall_mem_cons.mpr ⟨kw975, List.forall_mem_cons.mpr ⟨kw976, List.forall_mem_cons.mpr ⟨kw977, List.forall_mem_cons.mpr ⟨kw257, List.forall_mem_cons.mpr ⟨kw978, fun _ h => absurd h List.not_mem_nil⟩⟩⟩⟩⟩
theorem kw979 : Cond.methodLink RL 109 yX9_keep ∈ lw_tbl := kin6 _ (List.mem_of_getElem? (i := 86) (by decide +kernel))
theorem kw980 : Cond.instanceMethod yX9_keep ∈ lw_tbl := kin6 _ (List.mem_of_getElem? (i := 87) (by decide +kernel))
theorem kw981 : Cond.selects RX9 yX9_keep yX9_keep ∈ lw_tbl := kin6 _ (List.mem_of_getElem? (i := 88) (by decide +kernel))
theorem kw982 : Cond.code yX9_keep cX9_keep 3 (some .int) ∈ lw_tbl := kin6 _ (List.mem_of_getElem? (i := 89) rfl)
theorem qml_r203 : ∀ w ∈ qml_w (13, 109, 177, 1, 0), w ∈ lw_tbl := List.forall_mem_cons.mpr ⟨kw979, List.forall_mem_cons.mpr ⟨kw980, List.forall_mem_cons.mpr ⟨kw981, List.forall_mem_cons.mpr ⟨kw260, List.forall_mem_cons.mpr ⟨kw982, fun _ h => absurd h List.not_mem_nil⟩⟩⟩⟩⟩
theorem kw983 : Cond.methodLink RL 110 yX8_again ∈ lw_tbl := kin4 _ (List.mem_of_getElem? (i := 44) (by decide +kernel))
theorem kw984 : Cond.instanceMethod yX8_again ∈ lw_tbl := kin4 _ (List.mem_of_getElem? (i := 45) (by decide +kernel))
theorem kw985 : Cond.selects RX8 yX8_again yX8_again ∈ lw_tbl := kin4 _ (List.mem_of_getElem? (i := 46) (by decide +kernel))
theorem kw986 : Cond.code yX8_again cX8_again 2 (some .int) ∈ lw_tbl := kin4 _ (List.mem_of_getElem? (i := 47) rfl)
theorem qml_r204 : ∀ w ∈ qml_w (13, 110, 92, 1, 0), w ∈ lw_tbl := List.forall_mem_cons.mpr ⟨kw983, List.forall_mem_cons.mpr ⟨kw984, List.forall_mem_cons.mpr ⟨kw985, List.forall_mem_cons.mpr ⟨kw257, List.forall_mem_cons.mpr ⟨kw986, fun _ h => absurd h List.not_mem_nil⟩⟩⟩⟩⟩
theorem kw987 : Cond.methodLink RL 113 yX9_again ∈ lw_tbl := kin6 _ (List.mem_of_getElem? (i := 90) (by decide +kernel))
theorem kw988 : Cond.instanceMethod yX9_again ∈ lw_tbl := kin6 _ (List.mem_of_getElem? (i := 91) (by decide +kernel))
theorem kw989 : Cond.selects RX9 yX9_again yX9_again ∈ lw_tbl := kin6 _ (List.mem_of_getElem? (i := 92) (by decide +kernel))
theorem kw990 : Cond.code yX9_again cX9_again 3 (some .int) ∈ lw_tbl := kin6 _ (List.mem_of_getElem? (i := 93) rfl)
theorem qml_r205 : ∀ w ∈ qml_w (13, 113, 178, 1, 0), w ∈ lw_tbl := List.forall_mem_cons.mpr ⟨kw987, List.forall_mem_cons.mpr ⟨kw988, List.forall_mem_cons.mpr ⟨kw989, List.forall_mem_cons.mpr ⟨kw260, List.forall_mem_cons.mpr ⟨kw990, fun _ h => absurd h List.not_mem_nil⟩⟩⟩⟩⟩
theorem qml_ok6 : ∀ r ∈ qml_6, ∀ w ∈ qml_w r, w ∈ lw_tbl := List.forall_mem_cons.mpr ⟨qml_r180, List.forall_mem_cons.mpr ⟨qml_r181, List.forall_mem_cons.mpr ⟨qml_r182, List.forall_mem_cons.mpr ⟨qml_r183, List.forall_mem_cons.mpr ⟨qml_r184, List.forall_mem_cons.mpr ⟨qml_r185, List.forall_mem_cons.mpr ⟨qml_r186, List.forall_mem_cons.mpr ⟨qml_r187, List.forall_mem_cons.mpr ⟨qml_r188, List.forall_mem_cons.mpr ⟨qml_r189, List.forall_mem_cons.mpr ⟨qml_r190, List.forall_mem_cons.mpr ⟨qml_r191, List.forall_mem_cons.mpr ⟨qml_r192, List.forall_mem_cons.mpr ⟨qml_r193, List.forall_mem_cons.mpr ⟨qml_r194, List.forall_mem_cons.mpr ⟨qml_r195, List.forall_mem_cons.mpr ⟨qml_r196, List.forall_mem_cons.mpr ⟨qml_r197, List.forall_mem_cons.mpr ⟨qml_r198, List.forall_mem_cons.mpr ⟨qml_r199, List.forall_mem_cons.mpr ⟨qml_r200, List.forall_mem_cons.mpr ⟨qml_r201, List.forall_mem_cons.mpr ⟨qml_r202, List.forall_mem_cons.mpr ⟨qml_r203, List.forall_mem_cons.mpr ⟨qml_r204, List.forall_mem_cons.mpr ⟨qml_r205, fun _ h => absurd h List.not_mem_nil⟩⟩⟩⟩⟩⟩⟩⟩⟩⟩⟩⟩⟩⟩⟩⟩⟩⟩⟩⟩⟩⟩⟩⟩⟩⟩
theorem qml_ok : ∀ r ∈ qml, ∀ w ∈ qml_w r, w ∈ lw_tbl := List.forall_mem_append.mpr ⟨qml_ok0, List.forall_mem_append.mpr ⟨qml_ok1, List.forall_mem_append.mpr ⟨qml_ok2, List.forall_mem_append.mpr ⟨qml_ok3, List.forall_mem_append.mpr ⟨qml_ok4, List.forall_mem_append.mpr ⟨qml_ok5, qml_ok6⟩⟩⟩⟩⟩⟩
theorem kw991 : Cond.lays "SoftAsks$Breaker" "SoftAsks$Breaker" "openings" "I" ∈ lw_tbl := kin1 _ (List.mem_of_getElem? (i := 201) (by decide +kernel))
theorem kw992 : Cond.lays "SoftAsks$Breaker" "SoftAsks$Breaker" "rate" "F" ∈ lw_tbl := kin1 _ (List.mem_of_getElem? (i := 203) (by decide +kernel))
theorem kw993 : Cond.lays "SoftAsks$Breaker" "SoftAsks$Breaker" "openedAt" "I" ∈ lw_tbl := kin1 _ (List.mem_of_getElem? (i := 205) (by decide +kernel))
theorem kw994 : Cond.lays "SoftAsks$Breaker" "SoftAsks$Breaker" "badInRow" "I" ∈ lw_tbl := kin1 _ (List.mem_of_getElem? (i := 207) (by decide +kernel))
theorem kw995 : Cond.lays "SoftAsks$Breaker" "SoftAsks$Breaker" "lastEight" "I" ∈ lw_tbl := kin1 _ (List.mem_of_getElem? (i := 209) (by decide +kernel))
theorem kw996 : Cond.lays "SoftAsks$Breaker" "SoftAsks$Breaker" "noted" "I" ∈ lw_tbl := kin1 _ (List.mem_of_getElem? (i := 211) (by decide +kernel))
theorem qly0 : ∀ w ∈ wsX00, w ∈ lw_tbl := List.forall_mem_cons.mpr ⟨kw991, List.forall_mem_cons.mpr ⟨kw992, List.forall_mem_cons.mpr ⟨kw993, List.forall_mem_cons.mpr ⟨kw994, List.forall_mem_cons.mpr ⟨kw995, List.forall_mem_cons.mpr ⟨kw996, fun _ h => absurd h List.not_mem_nil⟩⟩⟩⟩⟩⟩
theorem kw997 : Cond.laysFinal "SoftAsks$DayRun" "SoftAsks$DayRun" "hosts" "[LSoftAsks$HostRun;" ∈ lw_tbl := kin2 _ (List.mem_of_getElem? (i := 38) (by decide +kernel))
theorem kw998 : Cond.laysFinal "SoftAsks$DayRun" "SoftAsks$DayRun" "state" "[I" ∈ lw_tbl := kin2 _ (List.mem_of_getElem? (i := 40) (by decide +kernel))
theorem kw999 : Cond.laysFinal "SoftAsks$DayRun" "SoftAsks$DayRun" "told" "LSoftAsks$Told;" ∈ lw_tbl := kin2 _ (List.mem_of_getElem? (i := 42) (by decide +kernel))
theorem kw1000 : Cond.laysFinal "SoftAsks$DayRun" "SoftAsks$DayRun" "endTick" "[I" ∈ lw_tbl := kin2 _ (List.mem_of_getElem? (i := 44) (by decide +kernel))
theorem kw1001 : Cond.laysFinal "SoftAsks$DayRun" "SoftAsks$DayRun" "endHost" "[I" ∈ lw_tbl := kin2 _ (List.mem_of_getElem? (i := 46) (by decide +kernel))
theorem kw1002 : Cond.laysFinal "SoftAsks$DayRun" "SoftAsks$DayRun" "tries" "[I" ∈ lw_tbl := kin2 _ (List.mem_of_getElem? (i := 48) (by decide +kernel))
theorem kw1003 : Cond.laysFinal "SoftAsks$DayRun" "SoftAsks$DayRun" "hedged" "[I" ∈ lw_tbl := kin2 _ (List.mem_of_getElem? (i := 50) (by decide +kernel))
theorem kw1004 : Cond.lays "SoftAsks$DayRun" "SoftAsks$DayRun" "policy" "LSoftAsks$Policy;" ∈ lw_tbl := kin2 _ (List.mem_of_getElem? (i := 52) (by decide +kernel))
theorem kw1005 : Cond.lays "SoftAsks$DayRun" "SoftAsks$DayRun" "hours" "[I" ∈ lw_tbl := kin2 _ (List.mem_of_getElem? (i := 54) (by decide +kernel))
theorem kw1006 : Cond.lays "SoftAsks$DayRun" "SoftAsks$DayRun" "spoilt" "I" ∈ lw_tbl := kin2 _ (List.mem_of_getElem? (i := 56) (by decide +kernel))
theorem kw1007 : Cond.lays "SoftAsks$DayRun" "SoftAsks$DayRun" "budget" "I" ∈ lw_tbl := kin2 _ (List.mem_of_getElem? (i := 58) (by decide +kernel))
theorem kw1008 : Cond.lays "SoftAsks$DayRun" "SoftAsks$DayRun" "learnt" "F" ∈ lw_tbl := kin2 _ (List.mem_of_getElem? (i := 60) (by decide +kernel))
theorem kw1009 : Cond.lays "SoftAsks$DayRun" "SoftAsks$DayRun" "sent" "I" ∈ lw_tbl := kin2 _ (List.mem_of_getElem? (i := 62) (by decide +kernel))
theorem kw1010 : Cond.lays "SoftAsks$DayRun" "SoftAsks$DayRun" "sentAgain" "I" ∈ lw_tbl := kin2 _ (List.mem_of_getElem? (i := 64) (by decide +kernel))
theorem kw1011 : Cond.lays "SoftAsks$DayRun" "SoftAsks$DayRun" "sentHedges" "I" ∈ lw_tbl := kin2 _ (List.mem_of_getElem? (i := 66) (by decide +kernel))
theorem kw1012 : Cond.lays "SoftAsks$DayRun" "SoftAsks$DayRun" "lost" "I" ∈ lw_tbl := kin2 _ (List.mem_of_getElem? (i := 68) (by decide +kernel))
theorem kw1013 : Cond.lays "SoftAsks$DayRun" "SoftAsks$DayRun" "askEnds" "I" ∈ lw_tbl := kin2 _ (List.mem_of_getElem? (i := 70) (by decide +kernel))
theorem kw1014 : Cond.lays "SoftAsks$DayRun" "SoftAsks$DayRun" "busy" "I" ∈ lw_tbl := kin2 _ (List.mem_of_getElem? (i := 72) (by decide +kernel))
theorem qly1 : ∀ w ∈ wsX10, w ∈ lw_tbl := List.forall_mem_cons.mpr ⟨kw997, List.forall_mem_cons.mpr ⟨kw998, List.forall_mem_cons.mpr ⟨kw999, List.forall_mem_cons.mpr ⟨kw1000, List.forall_mem_cons.mpr ⟨kw1001, List.forall_mem_cons.mpr ⟨kw1002, List.forall_mem_cons.mpr ⟨kw1003, List.forall_mem_cons.mpr ⟨kw1004, List.forall_mem_cons.mpr ⟨kw1005, List.forall_mem_cons.mpr ⟨kw1006, List.forall_mem_cons.mpr ⟨kw1007, List.forall_mem_cons.mpr ⟨kw1008, List.forall_mem_cons.mpr ⟨kw1009, List.forall_mem_cons.mpr ⟨kw1010, List.forall_mem_cons.mpr ⟨kw1011, List.forall_mem_cons.mpr ⟨kw1012, List.forall_mem_cons.mpr ⟨kw1013, List.forall_mem_cons.mpr ⟨kw1014, fun _ h => absurd h List.not_mem_nil⟩⟩⟩⟩⟩⟩⟩⟩⟩⟩⟩⟩⟩⟩⟩⟩⟩⟩
theorem kw1015 : Cond.lays "SoftAsks$Doings" "SoftAsks$Doings" "count" "I" ∈ lw_tbl := kin1 _ (List.mem_of_getElem? (i := 147) (by decide +kernel))
theorem kw1016 : Cond.laysFinal "SoftAsks$Doings" "SoftAsks$Doings" "what" "[I" ∈ lw_tbl := kin1 _ (List.mem_of_getElem? (i := 149) (by decide +kernel))
theorem kw1017 : Cond.laysFinal "SoftAsks$Doings" "SoftAsks$Doings" "was" "[I" ∈ lw_tbl := kin1 _ (List.mem_of_getElem? (i := 151) (by decide +kernel))
theorem qly2 : ∀ w ∈ wsX20, w ∈ lw_tbl := List.forall_mem_cons.mpr ⟨kw1015, List.forall_mem_cons.mpr ⟨kw1016, List.forall_mem_cons.mpr ⟨kw1017, fun _ h => absurd h List.not_mem_nil⟩⟩⟩
theorem kw1018 : Cond.laysFinal "SoftAsks$HostRun" "SoftAsks$HostRun" "breaker" "LSoftAsks$Breaker;" ∈ lw_tbl := kin1 _ (List.mem_of_getElem? (i := 234) (by decide +kernel))
theorem kw1019 : Cond.laysFinal "SoftAsks$HostRun" "SoftAsks$HostRun" "row" "[I" ∈ lw_tbl := kin1 _ (List.mem_of_getElem? (i := 236) (by decide +kernel))
theorem kw1020 : Cond.laysFinal "SoftAsks$HostRun" "SoftAsks$HostRun" "workAsk" "[I" ∈ lw_tbl := kin1 _ (List.mem_of_getElem? (i := 238) (by decide +kernel))
theorem kw1021 : Cond.laysFinal "SoftAsks$HostRun" "SoftAsks$HostRun" "workEnd" "[I" ∈ lw_tbl := kin2 _ (List.mem_of_getElem? (i := 0) (by decide +kernel))
theorem kw1022 : Cond.lays "SoftAsks$HostRun" "SoftAsks$HostRun" "waiting" "I" ∈ lw_tbl := kin2 _ (List.mem_of_getElem? (i := 2) (by decide +kernel))
theorem kw1023 : Cond.lays "SoftAsks$HostRun" "SoftAsks$HostRun" "works" "I" ∈ lw_tbl := kin2 _ (List.mem_of_getElem? (i := 4) (by decide +kernel))
theorem kw1024 : Cond.lays "SoftAsks$HostRun" "SoftAsks$HostRun" "held" "I" ∈ lw_tbl := kin2 _ (List.mem_of_getElem? (i := 6) (by decide +kernel))
theorem kw1025 : Cond.lays "SoftAsks$HostRun" "SoftAsks$HostRun" "ended" "I" ∈ lw_tbl := kin2 _ (List.mem_of_getElem? (i := 8) (by decide +kernel))
theorem kw1026 : Cond.lays "SoftAsks$HostRun" "SoftAsks$HostRun" "bad" "I" ∈ lw_tbl := kin2 _ (List.mem_of_getElem? (i := 10) (by decide +kernel))
theorem kw1027 : Cond.lays "SoftAsks$HostRun" "SoftAsks$HostRun" "wasted" "I" ∈ lw_tbl := kin2 _ (List.mem_of_getElem? (i := 12) (by decide +kernel))
theorem kw1028 : Cond.lays "SoftAsks$HostRun" "SoftAsks$HostRun" "shed" "I" ∈ lw_tbl := kin2 _ (List.mem_of_getElem? (i := 14) (by decide +kernel))
theorem qly3 : ∀ w ∈ wsX30, w ∈ lw_tbl := List.forall_mem_cons.mpr ⟨kw1018, List.forall_mem_cons.mpr ⟨kw1019, List.forall_mem_cons.mpr ⟨kw1020, List.forall_mem_cons.mpr ⟨kw1021, List.forall_mem_cons.mpr ⟨kw1022, List.forall_mem_cons.mpr ⟨kw1023, List.forall_mem_cons.mpr ⟨kw1024, List.forall_mem_cons.mpr ⟨kw1025, List.forall_mem_cons.mpr ⟨kw1026, List.forall_mem_cons.mpr ⟨kw1027, List.forall_mem_cons.mpr ⟨kw1028, fun _ h => absurd h List.not_mem_nil⟩⟩⟩⟩⟩⟩⟩⟩⟩⟩⟩
theorem kw1029 : Cond.laysFinal "SoftAsks$Parser" "SoftAsks$Parser" "letters" "[I" ∈ lw_tbl := kin1 _ (List.mem_of_getElem? (i := 33) (by decide +kernel))
theorem kw1030 : Cond.lays "SoftAsks$Parser" "SoftAsks$Parser" "length" "I" ∈ lw_tbl := kin1 _ (List.mem_of_getElem? (i := 35) (by decide +kernel))
theorem kw1031 : Cond.lays "SoftAsks$Parser" "SoftAsks$Parser" "place" "I" ∈ lw_tbl := kin1 _ (List.mem_of_getElem? (i := 37) (by decide +kernel))
theorem kw1032 : Cond.lays "SoftAsks$Parser" "SoftAsks$Parser" "fault" "I" ∈ lw_tbl := kin1 _ (List.mem_of_getElem? (i := 39) (by decide +kernel))
theorem qly4 : ∀ w ∈ wsX40, w ∈ lw_tbl := List.forall_mem_cons.mpr ⟨kw1029, List.forall_mem_cons.mpr ⟨kw1030, List.forall_mem_cons.mpr ⟨kw1031, List.forall_mem_cons.mpr ⟨kw1032, fun _ h => absurd h List.not_mem_nil⟩⟩⟩⟩
theorem kw1033 : Cond.laysFinal "SoftAsks$Policy" "SoftAsks$Policy" "settings" "[I" ∈ lw_tbl := kin1 _ (List.mem_of_getElem? (i := 132) (by decide +kernel))
theorem kw1034 : Cond.lays "SoftAsks$Policy" "SoftAsks$Policy" "out" "I" ∈ lw_tbl := kin1 _ (List.mem_of_getElem? (i := 134) (by decide +kernel))
theorem qly5 : ∀ w ∈ wsX50, w ∈ lw_tbl := List.forall_mem_cons.mpr ⟨kw1033, List.forall_mem_cons.mpr ⟨kw1034, fun _ h => absurd h List.not_mem_nil⟩⟩
theorem kw1035 : Cond.lays "SoftAsks$Seen" "SoftAsks$Seen" "count" "I" ∈ lw_tbl := kin1 _ (List.mem_of_getElem? (i := 164) (by decide +kernel))
theorem kw1036 : Cond.laysFinal "SoftAsks$Seen" "SoftAsks$Seen" "asks" "[I" ∈ lw_tbl := kin1 _ (List.mem_of_getElem? (i := 166) (by decide +kernel))
theorem kw1037 : Cond.laysFinal "SoftAsks$Seen" "SoftAsks$Seen" "was" "[I" ∈ lw_tbl := kin1 _ (List.mem_of_getElem? (i := 168) (by decide +kernel))
theorem qly6 : ∀ w ∈ wsX60, w ∈ lw_tbl := List.forall_mem_cons.mpr ⟨kw1035, List.forall_mem_cons.mpr ⟨kw1036, List.forall_mem_cons.mpr ⟨kw1037, fun _ h => absurd h List.not_mem_nil⟩⟩⟩
theorem kw1038 : Cond.lays "SoftAsks$Told" "SoftAsks$Told" "hosts" "I" ∈ lw_tbl := kin1 _ (List.mem_of_getElem? (i := 85) (by decide +kernel))
theorem kw1039 : Cond.lays "SoftAsks$Told" "SoftAsks$Told" "spans" "I" ∈ lw_tbl := kin1 _ (List.mem_of_getElem? (i := 87) (by decide +kernel))
theorem kw1040 : Cond.lays "SoftAsks$Told" "SoftAsks$Told" "asks" "I" ∈ lw_tbl := kin1 _ (List.mem_of_getElem? (i := 89) (by decide +kernel))
theorem kw1041 : Cond.laysFinal "SoftAsks$Told" "SoftAsks$Told" "workers" "[I" ∈ lw_tbl := kin1 _ (List.mem_of_getElem? (i := 91) (by decide +kernel))
theorem kw1042 : Cond.laysFinal "SoftAsks$Told" "SoftAsks$Told" "ticks" "[I" ∈ lw_tbl := kin1 _ (List.mem_of_getElem? (i := 93) (by decide +kernel))
theorem kw1043 : Cond.laysFinal "SoftAsks$Told" "SoftAsks$Told" "room" "[I" ∈ lw_tbl := kin1 _ (List.mem_of_getElem? (i := 95) (by decide +kernel))
theorem kw1044 : Cond.laysFinal "SoftAsks$Told" "SoftAsks$Told" "spanHost" "[I" ∈ lw_tbl := kin1 _ (List.mem_of_getElem? (i := 97) (by decide +kernel))
theorem kw1045 : Cond.laysFinal "SoftAsks$Told" "SoftAsks$Told" "spanFrom" "[I" ∈ lw_tbl := kin1 _ (List.mem_of_getElem? (i := 99) (by decide +kernel))
theorem kw1046 : Cond.laysFinal "SoftAsks$Told" "SoftAsks$Told" "spanTo" "[I" ∈ lw_tbl := kin1 _ (List.mem_of_getElem? (i := 101) (by decide +kernel))
theorem kw1047 : Cond.laysFinal "SoftAsks$Told" "SoftAsks$Told" "hour" "[I" ∈ lw_tbl := kin1 _ (List.mem_of_getElem? (i := 103) (by decide +kernel))
theorem kw1048 : Cond.laysFinal "SoftAsks$Told" "SoftAsks$Told" "rank" "[I" ∈ lw_tbl := kin1 _ (List.mem_of_getElem? (i := 105) (by decide +kernel))
theorem kw1049 : Cond.laysFinal "SoftAsks$Told" "SoftAsks$Told" "limit" "[I" ∈ lw_tbl := kin1 _ (List.mem_of_getElem? (i := 107) (by decide +kernel))
theorem qly7 : ∀ w ∈ wsX70, w ∈ lw_tbl := List.forall_mem_cons.mpr ⟨kw1038, List.forall_mem_cons.mpr ⟨kw1039, List.forall_mem_cons.mpr ⟨kw1040, List.forall_mem_cons.mpr ⟨kw1041, List.forall_mem_cons.mpr ⟨kw1042, List.forall_mem_cons.mpr ⟨kw1043, List.forall_mem_cons.mpr ⟨kw1044, List.forall_mem_cons.mpr ⟨kw1045, List.forall_mem_cons.mpr ⟨kw1046, List.forall_mem_cons.mpr ⟨kw1047, List.forall_mem_cons.mpr ⟨kw1048, List.forall_mem_cons.mpr ⟨kw1049, fun _ h => absurd h List.not_mem_nil⟩⟩⟩⟩⟩⟩⟩⟩⟩⟩⟩⟩
theorem kw1050 : Cond.laysFinal "SoftAsks" "SoftAsks" "letters" "[I" ∈ lw_tbl := kin2 _ (List.mem_of_getElem? (i := 89) (by decide +kernel))
theorem kw1051 : Cond.lays "SoftAsks" "SoftAsks" "length" "I" ∈ lw_tbl := kin2 _ (List.mem_of_getElem? (i := 91) (by decide +kernel))
theorem kw1052 : Cond.laysFinal "SoftAsks" "SoftAsks" "parser" "LSoftAsks$Parser;" ∈ lw_tbl := kin2 _ (List.mem_of_getElem? (i := 93) (by decide +kernel))
theorem kw1053 : Cond.laysFinal "SoftAsks" "SoftAsks" "told" "LSoftAsks$Told;" ∈ lw_tbl := kin2 _ (List.mem_of_getElem? (i := 95) (by decide +kernel))
theorem kw1054 : Cond.laysFinal "SoftAsks" "SoftAsks" "looked" "LSoftAsks$Told;" ∈ lw_tbl := kin2 _ (List.mem_of_getElem? (i := 97) (by decide +kernel))
theorem kw1055 : Cond.laysFinal "SoftAsks" "SoftAsks" "policy" "LSoftAsks$Policy;" ∈ lw_tbl := kin2 _ (List.mem_of_getElem? (i := 99) (by decide +kernel))
theorem kw1056 : Cond.laysFinal "SoftAsks" "SoftAsks" "trial" "LSoftAsks$Policy;" ∈ lw_tbl := kin2 _ (List.mem_of_getElem? (i := 101) (by decide +kernel))
theorem kw1057 : Cond.laysFinal "SoftAsks" "SoftAsks" "doings" "LSoftAsks$Doings;" ∈ lw_tbl := kin2 _ (List.mem_of_getElem? (i := 103) (by decide +kernel))
theorem kw1058 : Cond.laysFinal "SoftAsks" "SoftAsks" "seen" "LSoftAsks$Seen;" ∈ lw_tbl := kin2 _ (List.mem_of_getElem? (i := 105) (by decide +kernel))
theorem kw1059 : Cond.laysFinal "SoftAsks" "SoftAsks" "slots" "[LSoftAsks$Policy;" ∈ lw_tbl := kin2 _ (List.mem_of_getElem? (i := 107) (by decide +kernel))
theorem kw1060 : Cond.laysFinal "SoftAsks" "SoftAsks" "kept" "[Z" ∈ lw_tbl := kin2 _ (List.mem_of_getElem? (i := 109) (by decide +kernel))
theorem kw1061 : Cond.laysFinal "SoftAsks" "SoftAsks" "run" "LSoftAsks$DayRun;" ∈ lw_tbl := kin2 _ (List.mem_of_getElem? (i := 111) (by decide +kernel))
theorem kw1062 : Cond.laysFinal "SoftAsks" "SoftAsks" "drawnHours" "[I" ∈ lw_tbl := kin2 _ (List.mem_of_getElem? (i := 113) (by decide +kernel))
theorem kw1063 : Cond.lays "SoftAsks" "SoftAsks" "seedNow" "J" ∈ lw_tbl := kin2 _ (List.mem_of_getElem? (i := 115) (by decide +kernel))
theorem qly8 : ∀ w ∈ wsX80, w ∈ lw_tbl := List.forall_mem_cons.mpr ⟨kw1050, List.forall_mem_cons.mpr ⟨kw1051, List.forall_mem_cons.mpr ⟨kw1052, List.forall_mem_cons.mpr ⟨kw1053, List.forall_mem_cons.mpr ⟨kw1054, List.forall_mem_cons.mpr ⟨kw1055, List.forall_mem_cons.mpr ⟨kw1056, List.forall_mem_cons.mpr ⟨kw1057, List.forall_mem_cons.mpr ⟨kw1058, List.forall_mem_cons.mpr ⟨kw1059, List.forall_mem_cons.mpr ⟨kw1060, List.forall_mem_cons.mpr ⟨kw1061, List.forall_mem_cons.mpr ⟨kw1062, List.forall_mem_cons.mpr ⟨kw1063, fun _ h => absurd h List.not_mem_nil⟩⟩⟩⟩⟩⟩⟩⟩⟩⟩⟩⟩⟩⟩
theorem kw1064 : Cond.laysFinal "SoftAsksModel" "SoftAsksModel" "text" "[I" ∈ lw_tbl := kin4 _ (List.mem_of_getElem? (i := 127) (by decide +kernel))
theorem kw1065 : Cond.lays "SoftAsksModel" "SoftAsksModel" "length" "I" ∈ lw_tbl := kin4 _ (List.mem_of_getElem? (i := 129) (by decide +kernel))
theorem kw1066 : Cond.lays "SoftAsksModel" "SoftAsksModel" "hosts" "I" ∈ lw_tbl := kin4 _ (List.mem_of_getElem? (i := 131) (by decide +kernel))
theorem kw1067 : Cond.lays "SoftAsksModel" "SoftAsksModel" "asks" "I" ∈ lw_tbl := kin4 _ (List.mem_of_getElem? (i := 133) (by decide +kernel))
theorem kw1068 : Cond.lays "SoftAsksModel" "SoftAsksModel" "spans" "I" ∈ lw_tbl := kin4 _ (List.mem_of_getElem? (i := 135) (by decide +kernel))
theorem kw1069 : Cond.laysFinal "SoftAsksModel" "SoftAsksModel" "workers" "[I" ∈ lw_tbl := kin4 _ (List.mem_of_getElem? (i := 137) (by decide +kernel))
theorem kw1070 : Cond.laysFinal "SoftAsksModel" "SoftAsksModel" "ticks" "[I" ∈ lw_tbl := kin4 _ (List.mem_of_getElem? (i := 139) (by decide +kernel))
theorem kw1071 : Cond.laysFinal "SoftAsksModel" "SoftAsksModel" "room" "[I" ∈ lw_tbl := kin4 _ (List.mem_of_getElem? (i := 141) (by decide +kernel))
theorem kw1072 : Cond.laysFinal "SoftAsksModel" "SoftAsksModel" "spanHost" "[I" ∈ lw_tbl := kin4 _ (List.mem_of_getElem? (i := 143) (by decide +kernel))
theorem kw1073 : Cond.laysFinal "SoftAsksModel" "SoftAsksModel" "spanFrom" "[I" ∈ lw_tbl := kin4 _ (List.mem_of_getElem? (i := 145) (by decide +kernel))
theorem kw1074 : Cond.laysFinal "SoftAsksModel" "SoftAsksModel" "spanTo" "[I" ∈ lw_tbl := kin4 _ (List.mem_of_getElem? (i := 147) (by decide +kernel))
theorem kw1075 : Cond.laysFinal "SoftAsksModel" "SoftAsksModel" "told" "[I" ∈ lw_tbl := kin4 _ (List.mem_of_getElem? (i := 149) (by decide +kernel))
theorem kw1076 : Cond.laysFinal "SoftAsksModel" "SoftAsksModel" "rank" "[I" ∈ lw_tbl := kin4 _ (List.mem_of_getElem? (i := 151) (by decide +kernel))
theorem kw1077 : Cond.laysFinal "SoftAsksModel" "SoftAsksModel" "limit" "[I" ∈ lw_tbl := kin4 _ (List.mem_of_getElem? (i := 153) (by decide +kernel))
theorem kw1078 : Cond.lays "SoftAsksModel" "SoftAsksModel" "readHosts" "I" ∈ lw_tbl := kin4 _ (List.mem_of_getElem? (i := 155) (by decide +kernel))
theorem kw1079 : Cond.lays "SoftAsksModel" "SoftAsksModel" "readAsks" "I" ∈ lw_tbl := kin4 _ (List.mem_of_getElem? (i := 157) (by decide +kernel))
theorem kw1080 : Cond.lays "SoftAsksModel" "SoftAsksModel" "readSpans" "I" ∈ lw_tbl := kin4 _ (List.mem_of_getElem? (i := 159) (by decide +kernel))
theorem kw1081 : Cond.laysFinal "SoftAsksModel" "SoftAsksModel" "readWorkers" "[I" ∈ lw_tbl := kin4 _ (List.mem_of_getElem? (i := 161) (by decide +kernel))
theorem kw1082 : Cond.laysFinal "SoftAsksModel" "SoftAsksModel" "readTicks" "[I" ∈ lw_tbl := kin4 _ (List.mem_of_getElem? (i := 163) (by decide +kernel))
theorem kw1083 : Cond.laysFinal "SoftAsksModel" "SoftAsksModel" "readRoom" "[I" ∈ lw_tbl := kin4 _ (List.mem_of_getElem? (i := 165) (by decide +kernel))
theorem kw1084 : Cond.laysFinal "SoftAsksModel" "SoftAsksModel" "readSpanHost" "[I" ∈ lw_tbl := kin4 _ (List.mem_of_getElem? (i := 167) (by decide +kernel))
theorem kw1085 : Cond.laysFinal "SoftAsksModel" "SoftAsksModel" "readSpanFrom" "[I" ∈ lw_tbl := kin4 _ (List.mem_of_getElem? (i := 169) (by decide +kernel))
theorem kw1086 : Cond.laysFinal "SoftAsksModel" "SoftAsksModel" "readSpanTo" "[I" ∈ lw_tbl := kin4 _ (List.mem_of_getElem? (i := 171) (by decide +kernel))
theorem kw1087 : Cond.laysFinal "SoftAsksModel" "SoftAsksModel" "readHour" "[I" ∈ lw_tbl := kin4 _ (List.mem_of_getElem? (i := 173) (by decide +kernel))
theorem kw1088 : Cond.laysFinal "SoftAsksModel" "SoftAsksModel" "readRank" "[I" ∈ lw_tbl := kin4 _ (List.mem_of_getElem? (i := 175) (by decide +kernel))
theorem kw1089 : Cond.laysFinal "SoftAsksModel" "SoftAsksModel" "readLimit" "[I" ∈ lw_tbl := kin4 _ (List.mem_of_getElem? (i := 177) (by decide +kernel))
theorem kw1090 : Cond.lays "SoftAsksModel" "SoftAsksModel" "part" "I" ∈ lw_tbl := kin4 _ (List.mem_of_getElem? (i := 179) (by decide +kernel))
theorem kw1091 : Cond.lays "SoftAsksModel" "SoftAsksModel" "place" "I" ∈ lw_tbl := kin4 _ (List.mem_of_getElem? (i := 181) (by decide +kernel))
theorem kw1092 : Cond.laysFinal "SoftAsksModel" "SoftAsksModel" "now" "[I" ∈ lw_tbl := kin4 _ (List.mem_of_getElem? (i := 183) (by decide +kernel))
theorem kw1093 : Cond.laysFinal "SoftAsksModel" "SoftAsksModel" "trial" "[I" ∈ lw_tbl := kin4 _ (List.mem_of_getElem? (i := 185) (by decide +kernel))
theorem kw1094 : Cond.laysFinal "SoftAsksModel" "SoftAsksModel" "diary" "[I" ∈ lw_tbl := kin4 _ (List.mem_of_getElem? (i := 187) (by decide +kernel))
theorem kw1095 : Cond.lays "SoftAsksModel" "SoftAsksModel" "doings" "I" ∈ lw_tbl := kin4 _ (List.mem_of_getElem? (i := 189) (by decide +kernel))
theorem kw1096 : Cond.lays "SoftAsksModel" "SoftAsksModel" "next" "I" ∈ lw_tbl := kin4 _ (List.mem_of_getElem? (i := 191) (by decide +kernel))
theorem kw1097 : Cond.laysFinal "SoftAsksModel" "SoftAsksModel" "kept" "[I" ∈ lw_tbl := kin4 _ (List.mem_of_getElem? (i := 193) (by decide +kernel))
theorem kw1098 : Cond.laysFinal "SoftAsksModel" "SoftAsksModel" "isKept" "[Z" ∈ lw_tbl := kin4 _ (List.mem_of_getElem? (i := 195) (by decide +kernel))
theorem kw1099 : Cond.laysFinal "SoftAsksModel" "SoftAsksModel" "seenAsk" "[I" ∈ lw_tbl := kin4 _ (List.mem_of_getElem? (i := 197) (by decide +kernel))
theorem kw1100 : Cond.laysFinal "SoftAsksModel" "SoftAsksModel" "seenWas" "[I" ∈ lw_tbl := kin4 _ (List.mem_of_getElem? (i := 199) (by decide +kernel))
theorem kw1101 : Cond.lays "SoftAsksModel" "SoftAsksModel" "seen" "I" ∈ lw_tbl := kin4 _ (List.mem_of_getElem? (i := 201) (by decide +kernel))
theorem kw1102 : Cond.lays "SoftAsksModel" "SoftAsksModel" "seed" "J" ∈ lw_tbl := kin4 _ (List.mem_of_getElem? (i := 203) (by decide +kernel))
theorem kw1103 : Cond.laysFinal "SoftAsksModel" "SoftAsksModel" "hour" "[I" ∈ lw_tbl := kin4 _ (List.mem_of_getElem? (i := 205) (by decide +kernel))
theorem kw1104 : Cond.laysFinal "SoftAsksModel" "SoftAsksModel" "policy" "[I" ∈ lw_tbl := kin4 _ (List.mem_of_getElem? (i := 207) (by decide +kernel))
theorem kw1105 : Cond.lays "SoftAsksModel" "SoftAsksModel" "spoilt" "I" ∈ lw_tbl := kin4 _ (List.mem_of_getElem? (i := 209) (by decide +kernel))
theorem kw1106 : Cond.laysFinal "SoftAsksModel" "SoftAsksModel" "state" "[I" ∈ lw_tbl := kin4 _ (List.mem_of_getElem? (i := 211) (by decide +kernel))
theorem kw1107 : Cond.laysFinal "SoftAsksModel" "SoftAsksModel" "endedAt" "[I" ∈ lw_tbl := kin4 _ (List.mem_of_getElem? (i := 213) (by decide +kernel))
theorem kw1108 : Cond.laysFinal "SoftAsksModel" "SoftAsksModel" "doneBy" "[I" ∈ lw_tbl := kin4 _ (List.mem_of_getElem? (i := 215) (by decide +kernel))
theorem kw1109 : Cond.laysFinal "SoftAsksModel" "SoftAsksModel" "tries" "[I" ∈ lw_tbl := kin4 _ (List.mem_of_getElem? (i := 217) (by decide +kernel))
theorem kw1110 : Cond.laysFinal "SoftAsksModel" "SoftAsksModel" "hedged" "[Z" ∈ lw_tbl := kin4 _ (List.mem_of_getElem? (i := 219) (by decide +kernel))
theorem kw1111 : Cond.laysFinal "SoftAsksModel" "SoftAsksModel" "rows" "[I" ∈ lw_tbl := kin4 _ (List.mem_of_getElem? (i := 221) (by decide +kernel))
theorem kw1112 : Cond.laysFinal "SoftAsksModel" "SoftAsksModel" "waiting" "[I" ∈ lw_tbl := kin4 _ (List.mem_of_getElem? (i := 223) (by decide +kernel))
theorem kw1113 : Cond.laysFinal "SoftAsksModel" "SoftAsksModel" "workAsk" "[I" ∈ lw_tbl := kin4 _ (List.mem_of_getElem? (i := 225) (by decide +kernel))
theorem kw1114 : Cond.laysFinal "SoftAsksModel" "SoftAsksModel" "workEnd" "[I" ∈ lw_tbl := kin4 _ (List.mem_of_getElem? (i := 227) (by decide +kernel))
theorem kw1115 : Cond.laysFinal "SoftAsksModel" "SoftAsksModel" "works" "[I" ∈ lw_tbl := kin4 _ (List.mem_of_getElem? (i := 229) (by decide +kernel))
theorem kw1116 : Cond.laysFinal "SoftAsksModel" "SoftAsksModel" "openedAt" "[I" ∈ lw_tbl := kin4 _ (List.mem_of_getElem? (i := 231) (by decide +kernel))
theorem kw1117 : Cond.laysFinal "SoftAsksModel" "SoftAsksModel" "isShut" "[Z" ∈ lw_tbl := kin4 _ (List.mem_of_getElem? (i := 233) (by decide +kernel))
theorem kw1118 : Cond.laysFinal "SoftAsksModel" "SoftAsksModel" "noted" "[I" ∈ lw_tbl := kin4 _ (List.mem_of_getElem? (i := 235) (by decide +kernel))
theorem kw1119 : Cond.laysFinal "SoftAsksModel" "SoftAsksModel" "notedMany" "[I" ∈ lw_tbl := kin4 _ (List.mem_of_getElem? (i := 237) (by decide +kernel))
theorem kw1120 : Cond.laysFinal "SoftAsksModel" "SoftAsksModel" "rate" "[I" ∈ lw_tbl := kin4 _ (List.mem_of_getElem? (i := 239) (by decide +kernel))
theorem kw1121 : Cond.laysFinal "SoftAsksModel" "SoftAsksModel" "ended" "[I" ∈ lw_tbl := kin5 _ (List.mem_of_getElem? (i := 1) (by decide +kernel))
theorem kw1122 : Cond.laysFinal "SoftAsksModel" "SoftAsksModel" "bad" "[I" ∈ lw_tbl := kin5 _ (List.mem_of_getElem? (i := 3) (by decide +kernel))
theorem kw1123 : Cond.laysFinal "SoftAsksModel" "SoftAsksModel" "wasted" "[I" ∈ lw_tbl := kin5 _ (List.mem_of_getElem? (i := 5) (by decide +kernel))
theorem kw1124 : Cond.laysFinal "SoftAsksModel" "SoftAsksModel" "opened" "[I" ∈ lw_tbl := kin5 _ (List.mem_of_getElem? (i := 7) (by decide +kernel))
theorem kw1125 : Cond.laysFinal "SoftAsksModel" "SoftAsksModel" "shed" "[I" ∈ lw_tbl := kin5 _ (List.mem_of_getElem? (i := 9) (by decide +kernel))
theorem kw1126 : Cond.lays "SoftAsksModel" "SoftAsksModel" "budget" "I" ∈ lw_tbl := kin5 _ (List.mem_of_getElem? (i := 11) (by decide +kernel))
theorem kw1127 : Cond.lays "SoftAsksModel" "SoftAsksModel" "learnt" "I" ∈ lw_tbl := kin5 _ (List.mem_of_getElem? (i := 13) (by decide +kernel))
theorem kw1128 : Cond.lays "SoftAsksModel" "SoftAsksModel" "sent" "I" ∈ lw_tbl := kin5 _ (List.mem_of_getElem? (i := 15) (by decide +kernel))
theorem kw1129 : Cond.lays "SoftAsksModel" "SoftAsksModel" "sentAgain" "I" ∈ lw_tbl := kin5 _ (List.mem_of_getElem? (i := 17) (by decide +kernel))
theorem kw1130 : Cond.lays "SoftAsksModel" "SoftAsksModel" "sentHedges" "I" ∈ lw_tbl := kin5 _ (List.mem_of_getElem? (i := 19) (by decide +kernel))
theorem kw1131 : Cond.lays "SoftAsksModel" "SoftAsksModel" "lost" "I" ∈ lw_tbl := kin5 _ (List.mem_of_getElem? (i := 21) (by decide +kernel))
theorem kw1132 : Cond.laysFinal "SoftAsksModel" "SoftAsksModel" "worth" "[I" ∈ lw_tbl := kin5 _ (List.mem_of_getElem? (i := 23) (by decide +kernel))
theorem qly9 : ∀ w ∈ wsX90, w ∈ lw_tbl := List.forall_mem_cons.mpr ⟨kw1064, List.forall_mem_cons.mpr ⟨kw1065, List.forall_mem_cons.mpr ⟨kw1066, List.forall_mem_cons.mpr ⟨kw1067, List.forall_mem_cons.mpr ⟨kw1068, List.forall_mem_cons.mpr ⟨kw1069, List.forall_mem_cons.mpr ⟨kw1070, List.forall_mem_cons.mpr ⟨kw1071, List.forall_mem_cons.mpr ⟨kw1072, List.forall_mem_cons.mpr ⟨kw1073, List.forall_mem_cons.mpr ⟨kw1074, List.forall_mem_cons.mpr ⟨kw1075, List.forall_mem_cons.mpr ⟨kw1076, List.forall_mem_cons.mpr ⟨kw1077, List.forall_mem_cons.mpr ⟨kw1078, List.forall_mem_cons.mpr ⟨kw1079, List.forall_mem_cons.mpr ⟨kw1080, List.forall_mem_cons.mpr ⟨kw1081, List.forall_mem_cons.mpr ⟨kw1082, List.forall_mem_cons.mpr ⟨kw1083, List.forall_mem_cons.mpr ⟨kw1084, List.forall_mem_cons.mpr ⟨kw1085, List.forall_mem_cons.mpr ⟨kw1086, List.forall_mem_cons.mpr ⟨kw1087, List.forall_mem_cons.mpr ⟨kw1088, List.forall_mem_cons.mpr ⟨kw1089, List.forall_mem_cons.mpr ⟨kw1090, List.forall_mem_cons.mpr ⟨kw1091, List.forall_mem_cons.mpr ⟨kw1092, List.forall_mem_cons.mpr ⟨kw1093, List.forall_mem_cons.mpr ⟨kw1094, List.forall_mem_cons.mpr ⟨kw1095, List.forall_mem_cons.mpr ⟨kw1096, List.forall_mem_cons.mpr ⟨kw1097, List.forall_mem_cons.mpr ⟨kw1098, List.forall_mem_cons.mpr ⟨kw1099, List.forall_mem_cons.mpr ⟨kw1100, List.forall_mem_cons.mpr ⟨kw1101, List.forall_mem_cons.mpr ⟨kw1102, List.forall_mem_cons.mpr ⟨kw1103, List.forall_mem_cons.mpr ⟨kw1104, List.forall_mem_cons.mpr ⟨kw1105, List.forall_mem_cons.mpr ⟨kw1106, List.forall_mem_cons.mpr ⟨kw1107, List.forall_mem_cons.mpr ⟨kw1108, List.forall_mem_cons.mpr ⟨kw1109, List.forall_mem_cons.mpr ⟨kw1110, List.forall_mem_cons.mpr ⟨kw1111, List.forall_mem_cons.mpr ⟨kw1112, List.forall_mem_cons.mpr ⟨kw1113, List.forall_mem_cons.mpr ⟨kw1114, List.forall_mem_cons.mpr ⟨kw1115, List.forall_mem_cons.mpr ⟨kw1116, List.forall_mem_cons.mpr ⟨kw1117, List.forall_mem_cons.mpr ⟨kw1118, List.forall_mem_cons.mpr ⟨kw1119, List.forall_mem_cons.mpr ⟨kw1120, List.forall_mem_cons.mpr ⟨kw1121, List.forall_mem_cons.mpr ⟨kw1122, List.forall_mem_cons.mpr ⟨kw1123, List.forall_mem_cons.mpr ⟨kw1124, List.forall_mem_cons.mpr ⟨kw1125, List.forall_mem_cons.mpr ⟨kw1126, List.forall_mem_cons.mpr ⟨kw1127, List.forall_mem_cons.mpr ⟨kw1128, List.forall_mem_cons.mpr ⟨kw1129, List.forall_mem_cons.mpr ⟨kw1130, List.forall_mem_cons.mpr ⟨kw1131, List.forall_mem_cons.mpr ⟨kw1132, fun _ h => absurd h List.not_mem_nil⟩⟩⟩⟩⟩⟩⟩⟩⟩⟩⟩⟩⟩⟩⟩⟩⟩⟩⟩⟩⟩⟩⟩⟩⟩⟩⟩⟩⟩⟩⟩⟩⟩⟩⟩⟩⟩⟩⟩⟩⟩⟩⟩⟩⟩⟩⟩⟩⟩⟩⟩⟩⟩⟩⟩⟩⟩⟩⟩⟩⟩⟩⟩⟩⟩⟩⟩⟩⟩
theorem kw1133 : Cond.arrayClass .int ∈ lw_tbl := kin1 _ (List.mem_of_getElem? (i := 42) (by decide +kernel))
theorem kw1134 : Cond.arrayClass .boolean ∈ lw_tbl := kin1 _ (List.mem_of_getElem? (i := 214) (by decide +kernel))
theorem kw1135 : Cond.arrayOver (.object "SoftAsks$HostRun") ∈ lw_tbl := kin1 _ (List.mem_of_getElem? (i := 179) (by decide +kernel))
theorem kw1136 : Cond.arrayOver (.object "SoftAsks$Policy") ∈ lw_tbl := kin1 _ (List.mem_of_getElem? (i := 171) (by decide +kernel))
theorem qarr : ∀ w ∈ ([.arrayClass .int, .arrayClass .boolean, .arrayOver (.object RX3), .arrayOver (.object RX5)] : List Cond), w ∈ lw_tbl := List.forall_mem_cons.mpr ⟨kw1133, List.forall_mem_cons.mpr ⟨kw1134, List.forall_mem_cons.mpr ⟨kw1135, List.forall_mem_cons.mpr ⟨kw1136, fun _ h => absurd h List.not_mem_nil⟩⟩⟩⟩
theorem kw1137 : Cond.laysStatic "SoftAsks" "AT_FIRST" "[I" ∈ lw_tbl := kin1 _ (List.mem_of_getElem? (i := 121) (by decide +kernel))
theorem kw1138 : Cond.laysStatic "SoftAsks" "LEAST" "[I" ∈ lw_tbl := kin2 _ (List.mem_of_getElem? (i := 182) (by decide +kernel))
theorem kw1139 : Cond.laysStatic "SoftAsks" "MOST" "[I" ∈ lw_tbl := kin2 _ (List.mem_of_getElem? (i := 184) (by decide +kernel))
theorem kw1140 : Cond.laysStatic "SoftAsks" "FACTORIAL" "[I" ∈ lw_tbl := kin4 _ (List.mem_of_getElem? (i := 11) (by decide +kernel))
theorem kw1141 : Cond.laysStatic "SoftAsks" "FOUR_FIGURES" "[J" ∈ lw_tbl := kin3 _ (List.mem_of_getElem? (i := 207) (by decide +kernel))
theorem qlys : ∀ w ∈ ([0, 1, 2, 3, 4] : List Nat).map (fun k => Cond.laysStatic RX8 (qsn k) (qsd k)), w ∈ lw_tbl := List.forall_mem_cons.mpr ⟨kw1137, List.forall_mem_cons.mpr ⟨kw1138, List.forall_mem_cons.mpr ⟨kw1139, List.forall_mem_cons.mpr ⟨kw1140, List.forall_mem_cons.mpr ⟨kw1141, fun _ h => absurd h List.not_mem_nil⟩⟩⟩⟩⟩
def qinits : List Nat := [0, 7, 31, 34, 46, 54, 59, 62, 69, 102]
/-- the length of an instruction, where it is one for all -/
def qexl (i : Instr) : Nat := match i with
  | .bipush _ => 2
  | .sipush _ => 3
  | .ldc _ => 2
  | .ldc_w _ => 3
  | .ldc2_w _ => 3
  | .iload _ => 2
  | .lload _ => 2
  | .aload _ => 2
  | .istore _ => 2
  | .lstore _ => 2
  | .astore _ => 2
  | .iinc _ _ => 3
  | .ifCond _ _ => 3
  | .if_icmp _ _ => 3
  | .goto _ => 3
  | .getfield _ => 3
  | .putfield _ => 3
  | .getstatic _ => 3
  | .new _ => 3
  | .newarray _ => 2
  | .anewarray _ => 3
  | .invokevirtual _ => 3
  | .invokestatic _ => 3
  | .invokespecial _ => 3
  | .tableswitch _ _ _ _ => 0
  | .lookupswitch _ _ => 0
  | _ => 1
def qchk (y pc : Nat) (ins : Instr) (len a b : Nat) (v : Int) : Bool := (qexl ins == 0 || len == qexl ins) && (match ins with
  | .getfield idx => decide ((qow y, idx, a, b) ∈ qfl) && decide (b < qnf a)
  | .putfield idx => decide ((qow y, idx, a, b) ∈ qfl) && (decide (b < qnf a) && (!(qFT a b).2.2.2 || (decide (y ∈ qinits) && qow y == a)))
  | .getstatic idx => decide ((qow y, idx, a, v) ∈ qsl) && decide (a < 5)
  | .invokevirtual idx => decide ((qow y, idx, a, b, v) ∈ qml) && (v == 0)
  | .invokestatic idx => decide ((qow y, idx, a, b, v) ∈ qml) && (v == 1 || (v == 4 || (v == 7 || (v == 8 || v == 9))))
  | .invokespecial idx => decide ((qow y, idx, a, b, v) ∈ qml) && ((v == 2 || v == 5 || v == 6) && (v == 6 || decide (a ∈ qinits)))
  | .ldc idx => decide ((qow y, idx, a, v) ∈ qkl) && decide (a < 2)
  | .ldc_w idx => decide ((qow y, idx, a, v) ∈ qkl) && (a == 0)
  | .ldc2_w idx => decide ((qow y, idx, a, v) ∈ qkl) && (a == 2 || a == 3)
  | .new idx => decide ((qow y, idx, 0, a) ∈ qcll) && decide (a < 10)
  | .anewarray idx => decide ((qow y, idx, 1, a) ∈ qcll) && (a == 3 || a == 4)
  | .bipush n => decide (-128 ≤ n) && decide (n < 128)
  | .sipush n => decide (-32768 ≤ n) && decide (n < 32768)
  | .iconst n => decide (-128 ≤ n) && decide (n < 128)
  | .fconst n => decide ((n : Nat) < 2)
  | .ifCond _ off => decide (0 ≤ (pc : Int) + off)
  | .if_icmp _ off => decide (0 ≤ (pc : Int) + off)
  | .goto off => decide (0 ≤ (pc : Int) + off)
  | .tableswitch d lo hi offs => decide (0 ≤ (pc : Int) + d) && (decide (lo ≤ hi) && (decide ((offs.size : Int) = hi - lo + 1) && offs.toList.all (fun q => decide (0 ≤ (pc : Int) + q))))
  | .lookupswitch d ps => decide (0 ≤ (pc : Int) + d) && (ps.toList.all (fun q => decide (0 ≤ (pc : Int) + q.2)) && (ps.toList.zip (ps.toList.drop 1)).all (fun (a, next) => a.1 < next.1))
  | .ireturn => (a == 0 && decide (qrt y = some .int)) || (a == 1 && decide (qrt y = some .boolean))
  | .lreturn => decide (qrt y = some .long)
  | .return_ => decide (qrt y = none)
  | _ => true)
def qdec (c : ByteArray) (l : List qI) : Bool := l.all (fun e => decide (decode c e.1 = .ok (e.2.1, e.2.2.1)))
def qchks (y : Nat) (l : List qI) : Bool := l.all (fun e => qchk y e.1 e.2.1 e.2.2.1 e.2.2.2.1 e.2.2.2.2.1 e.2.2.2.2.2)
