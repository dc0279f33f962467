/-! A SMALL MACHINE over whole numbers: values are a tag and a number (0 int, 1 long, 2 float by its bits, 3 reference: the place of a cell, -1 null, -2 - k the table k, 4 double by its bits, 9 nothing); cells have kinds ((0, c) an object of class c, (1, n) int[n], (2, n) boolean[n], (3, n) HostRun[n], (4, n) Policy[n]); what a cell holds is a row of numbers -/
abbrev qV : Type := Nat × Int
abbrev qK : Type := Nat × Nat
abbrev qM : Type := List qK × (Nat → Nat → Int)
def qtag (t : FieldType) : Nat := match t with
  | .int => 0
  | .long => 1
  | .float => 2
  | .double => 4
  | .boolean => 0
  | _ => 3
def qtysL : List (Nat → FieldType) := [tyX0, tyX1, tyX2, tyX3, tyX4, tyX5, tyX6, tyX7, tyX8, tyX9]
def qtags : List (List Nat) := [[0, 2, 0, 0, 0, 0], [3, 3, 3, 3, 3, 3, 3, 3, 3, 0, 0, 2, 0, 0, 0, 0, 0, 0], [0, 3, 3], [3, 3, 3, 3, 0, 0, 0, 0, 0, 0, 0], [3, 0, 0, 0], [3, 0], [0, 3, 3], [0, 0, 0, 3, 3, 3, 3, 3, 3, 3, 3, 3], [3, 0, 3, 3, 3, 3, 3, 3, 3, 3, 3, 3, 3, 1], [3, 0, 0, 0, 0, 3, 3, 3, 3, 3, 3, 3, 3, 3, 0, 0, 0, 3, 3, 3, 3, 3, 3, 3, 3, 3, 0, 0, 3, 3, 3, 0, 0, 3, 3, 3, 3, 0, 1, 3, 3, 0, 3, 3, 3, 3, 3, 3, 3, 3, 3, 3, 3, 3, 3, 3, 3, 3, 3, 3, 3, 3, 0, 0, 0, 0, 0, 0, 3]]
def qtg (c j : Nat) : Nat := (qtags.getD c []).getD j 0
def qnf (c : Nat) : Nat := (qtags.getD c []).length
def qup (f : Nat → Nat → Int) (c j : Nat) (v : Int) : Nat → Nat → Int := va_up f c (va_up (f c) j v)
def qsz (l : List qK) : Nat := (l.map (fun k => if k.1 = 0 then qnf k.2 else k.2)).sum
abbrev i1 (x : Int) : Int32 := Int32.ofInt x
abbrev l1 (x : Int) : Int64 := Int64.ofInt x
abbrev f1 (x : Int) : UInt32 := UInt32.ofNat x.toNat
abbrev d1 (x : Int) : UInt64 := UInt64.ofNat x.toNat
def w32 (x : Int) : Int := (Int32.ofInt x).toInt
def w64 (x : Int) : Int := (Int64.ofInt x).toInt
/-- what one step comes to: a test that must hold, and the next place, or a call, or an answer -/
abbrev qO : Type := Option (Bool × ((Nat × List qV × List qV × qM) ⊕ (Nat × List qV × Nat × List qV × List qV × qM) ⊕ Option qV))
def qnx (g : Bool) (pc : Nat) (ls st : List qV) (M : qM) : qO := some (g, .inl (pc, ls, st, M))
def qpu (v : qV) (pc : Nat) (ls st : List qV) (M : qM) : qO := some (true, .inl (pc, ls, v :: st, M))
def qcat (t : Nat) : Nat := if t = 1 then 2 else if t = 4 then 2 else 1
def qcats (st : List qV) : Nat := (st.map (fun v => qcat v.1)).sum
/-- locals -/
def qlod (t i pc : Nat) (ls st : List qV) (M : qM) : qO := match ls[i]? with
  | some v => qnx (v.1 == t) pc ls (v :: st) M
  | none => none
def qfre (i : Nat) (ls : List qV) : Bool := i == 0 || (qcat ((ls.getD (i - 1) (9, 0)).1) == 1)
def qst1 (t i pc : Nat) (ls st : List qV) (M : qM) : qO := match st with
  | v :: r => qnx (v.1 == t && (decide (i < ls.length) && qfre i ls)) pc (ls.set i v) r M
  | [] => none
def qst2 (t i pc : Nat) (ls st : List qV) (M : qM) : qO := match st with
  | v :: r => qnx (v.1 == t && (decide (i + 1 < ls.length) && qfre i ls)) pc ((ls.set i v).set (i + 1) (9, 0)) r M
  | [] => none
/-- two ints, two longs, a long and an int, two floats, two doubles -/
def qii (f : Int → Int → Int) (pc : Nat) (ls st : List qV) (M : qM) : qO := match st with
  | y :: x :: r => qnx (y.1 == 0 && x.1 == 0) pc ls ((0, f x.2 y.2) :: r) M
  | _ => none
def qid (f : Int → Int → Int) (pc : Nat) (ls st : List qV) (M : qM) : qO := match st with
  | y :: x :: r => qnx (y.1 == 0 && (x.1 == 0 && !(y.2 == 0))) pc ls ((0, f x.2 y.2) :: r) M
  | _ => none
def qll (f : Int → Int → Int) (pc : Nat) (ls st : List qV) (M : qM) : qO := match st with
  | y :: x :: r => qnx (y.1 == 1 && x.1 == 1) pc ls ((1, f x.2 y.2) :: r) M
  | _ => none
def qldv (f : Int → Int → Int) (pc : Nat) (ls st : List qV) (M : qM) : qO := match st with
  | y :: x :: r => qnx (y.1 == 1 && (x.1 == 1 && !(y.2 == 0))) pc ls ((1, f x.2 y.2) :: r) M
  | _ => none
def qli (f : Int → Int → Int) (pc : Nat) (ls st : List qV) (M : qM) : qO := match st with
  | y :: x :: r => qnx (y.1 == 0 && x.1 == 1) pc ls ((1, f x.2 y.2) :: r) M
  | _ => none
def qff (f : UInt32 → UInt32 → UInt32) (pc : Nat) (ls st : List qV) (M : qM) : qO := match st with
  | y :: x :: r => qnx (y.1 == 2 && (x.1 == 2 && decide (f (f1 x.2) (f1 y.2) &&& 0x7fffffff ≤ 0x7f800000))) pc ls ((2, ((f (f1 x.2) (f1 y.2)).toNat : Int)) :: r) M
  | _ => none
def qdd (f : UInt64 → UInt64 → UInt64) (pc : Nat) (ls st : List qV) (M : qM) : qO := match st with
  | y :: x :: r => qnx (y.1 == 4 && (x.1 == 4 && decide (f (d1 x.2) (d1 y.2) &&& 0x7fffffffffffffff ≤ 0x7ff0000000000000))) pc ls ((4, ((f (d1 x.2) (d1 y.2)).toNat : Int)) :: r) M
  | _ => none
/-- two of a tag, to an int -/
def qcmp (t : Nat) (f : Int → Int → Int) (pc : Nat) (ls st : List qV) (M : qM) : qO := match st with
  | y :: x :: r => qnx (y.1 == t && x.1 == t) pc ls ((0, f x.2 y.2) :: r) M
  | _ => none
/-- one of a tag to one of a tag -/
def qun (t u : Nat) (f : Int → Int) (pc : Nat) (ls st : List qV) (M : qM) : qO := match st with
  | x :: r => qnx (x.1 == t) pc ls ((u, f x.2) :: r) M
  | _ => none
def qtgt (pc : Nat) (off : Int) : Nat := ((pc : Int) + off).toNat
def qifc (c : ClassFile.Cond) (x y : Int) (a b : Nat) : Nat := match c with
  | .eq => if x = y then a else b
  | .ne => if x = y then b else a
  | .lt => if x < y then a else b
  | .ge => if x < y then b else a
  | .gt => if y < x then a else b
  | .le => if y < x then b else a
def qif1 (c : ClassFile.Cond) (a b : Nat) (ls st : List qV) (M : qM) : qO := match st with
  | x :: r => qnx (x.1 == 0) (qifc c x.2 0 a b) ls r M
  | _ => none
def qif2 (c : ClassFile.Cond) (a b : Nat) (ls st : List qV) (M : qM) : qO := match st with
  | y :: x :: r => qnx (y.1 == 0 && x.1 == 0) (qifc c x.2 y.2 a b) ls r M
  | _ => none
/-- the length of an array of a kind; what is none has none -/
def qln (k : Nat) (l : List qK) (c : Int) : Int := if c < 0 then 0 else match l[c.toNat]? with
  | some q => if q.1 = k then (q.2 : Int) else 0
  | none => 0
def qis (l : List qK) (c : Int) (a : Nat) : Bool := decide (0 ≤ c) && (l[c.toNat]? == some (0, a))
def qget (a b pc : Nat) (ls st : List qV) (M : qM) : qO := match st with
  | x :: r => qnx (x.1 == 3 && qis M.1 x.2 a) pc ls ((qtg a b, M.2 x.2.toNat b) :: r) M
  | _ => none
def qput (a b pc : Nat) (ls st : List qV) (M : qM) : qO := match st with
  | v :: x :: r => qnx (v.1 == qtg a b && (x.1 == 3 && qis M.1 x.2 a)) pc ls r (M.1, qup M.2 x.2.toNat b v.2)
  | _ => none
def qald (tb : Nat → Nat × (Nat → Int)) (k t pc : Nat) (ls st : List qV) (M : qM) : qO := match st with
  | i :: x :: r =>
    if x.2 < 0 then qnx (i.1 == 0 && (x.1 == 3 && (decide (x.2 ≤ -2) && (k == 1 && (!(x.2 == -6) && (decide (-8 < x.2) && (decide (0 ≤ i.2) && decide (i.2 < ((tb (-x.2 - 2).toNat).1 : Int))))))))) pc ls ((0, (tb (-x.2 - 2).toNat).2 i.2.toNat) :: r) M
    else qnx (i.1 == 0 && (x.1 == 3 && (decide (0 ≤ i.2) && decide (i.2 < qln k M.1 x.2)))) pc ls ((t, M.2 x.2.toNat i.2.toNat) :: r) M
  | _ => none
def qlal (tb : Nat → Nat × (Nat → Int)) (pc : Nat) (ls st : List qV) (M : qM) : qO := match st with
  | i :: x :: r => qnx (i.1 == 0 && (x.1 == 3 && (x.2 == -6 && (decide (0 ≤ i.2) && decide (i.2 < ((tb 4).1 : Int)))))) pc ls ((1, (tb 4).2 i.2.toNat) :: r) M
  | _ => none
/-- the array that a reference names is of kind 3 or 4 -/
def qrk (l : List qK) (c : Int) : Nat := match l[c.toNat]? with
  | some q => q.1
  | none => 0
def qaal (pc : Nat) (ls st : List qV) (M : qM) : qO := match st with
  | i :: x :: r => qnx (i.1 == 0 && (x.1 == 3 && (decide (0 ≤ x.2) && ((qrk M.1 x.2 == 3 || qrk M.1 x.2 == 4) && (decide (0 ≤ i.2) && decide (i.2 < qln (qrk M.1 x.2) M.1 x.2)))))) pc ls ((3, M.2 x.2.toNat i.2.toNat) :: r) M
  | _ => none
def qias (k pc : Nat) (ls st : List qV) (M : qM) : qO := match st with
  | v :: i :: x :: r => qnx (v.1 == 0 && (i.1 == 0 && (x.1 == 3 && ((k == 1 || (v.2 == 0 || v.2 == 1)) && (decide (0 ≤ i.2) && decide (i.2 < qln k M.1 x.2)))))) pc ls r (M.1, qup M.2 x.2.toNat i.2.toNat v.2)
  | _ => none
def qaas (pc : Nat) (ls st : List qV) (M : qM) : qO := match st with
  | v :: i :: x :: r => qnx (v.1 == 3 && (i.1 == 0 && (x.1 == 3 && (decide (0 ≤ x.2) && (((qrk M.1 x.2 == 3 && qis M.1 v.2 3) || (qrk M.1 x.2 == 4 && qis M.1 v.2 5)) && (decide (0 ≤ i.2) && decide (i.2 < qln (qrk M.1 x.2) M.1 x.2))))))) pc ls r (M.1, qup M.2 x.2.toNat i.2.toNat v.2)
  | _ => none
def qlen (tb : Nat → Nat × (Nat → Int)) (pc : Nat) (ls st : List qV) (M : qM) : qO := match st with
  | x :: r =>
    if x.2 < 0 then qnx (x.1 == 3 && (decide (x.2 ≤ -2) && decide (-8 < x.2))) pc ls ((0, ((tb (-x.2 - 2).toNat).1 : Int)) :: r) M
    else qnx (x.1 == 3 && (decide (x.2.toNat < M.1.length) && (decide (0 < qrk M.1 x.2) && decide (qrk M.1 x.2 < 5)))) pc ls ((0, qln (qrk M.1 x.2) M.1 x.2) :: r) M
  | _ => none
def qnew (lim : Nat × Nat) (a pc : Nat) (ls st : List qV) (M : qM) : qO :=
  qnx (decide (M.1.length + 1 ≤ lim.1) && decide (qsz M.1 + qnf a ≤ lim.2)) pc ls ((3, (M.1.length : Int)) :: st) (M.1 ++ [(0, a)], va_up M.2 M.1.length (fun j => if qtg a j = 3 then -1 else 0))
def qnar (lim : Nat × Nat) (k : Nat) (d : Int) (pc : Nat) (ls st : List qV) (M : qM) : qO := match st with
  | n :: r => qnx (n.1 == 0 && (decide (0 ≤ n.2) && (decide (n.2 ≤ 1000) && (decide (M.1.length + 1 ≤ lim.1) && decide (qsz M.1 + n.2.toNat ≤ lim.2))))) pc ls ((3, (M.1.length : Int)) :: r) (M.1 ++ [(k, n.2.toNat)], va_up M.2 M.1.length (fun _ => d))
  | _ => none
/-- System.arraycopy over ints, from a table or a cell -/
def qcpy (tb : Nat → Nat × (Nat → Int)) (pc : Nat) (ls st : List qV) (M : qM) : qO := match st with
  | n :: dp :: y :: sp :: x :: r =>
    if x.2 < 0 then qnx (n.1 == 0 && (dp.1 == 0 && (y.1 == 3 && (sp.1 == 0 && (x.1 == 3 && (decide (x.2 ≤ -2) && (!(x.2 == -6) && (decide (-8 < x.2) && (decide (0 ≤ n.2) && (decide (0 ≤ dp.2) && (decide (0 ≤ sp.2) && (decide (sp.2 + n.2 ≤ ((tb (-x.2 - 2).toNat).1 : Int)) && (decide (0 ≤ y.2) && (decide (y.2.toNat < M.1.length) && (decide (qrk M.1 y.2 = 1) && (decide (dp.2 + n.2 ≤ qln 1 M.1 y.2) && decide (qcats r ≤ 8))))))))))))))))) pc ls r (M.1, va_up M.2 y.2.toNat (va_cpy (tb (-x.2 - 2).toNat).2 (M.2 y.2.toNat) sp.2.toNat dp.2.toNat n.2.toNat))
    else qnx (n.1 == 0 && (dp.1 == 0 && (y.1 == 3 && (sp.1 == 0 && (x.1 == 3 && (decide (0 ≤ n.2) && (decide (0 ≤ dp.2) && (decide (0 ≤ sp.2) && (decide (x.2.toNat < M.1.length) && (decide (qrk M.1 x.2 = 1) && (decide (sp.2 + n.2 ≤ qln 1 M.1 x.2) && (decide (0 ≤ y.2) && (decide (y.2.toNat < M.1.length) && (decide (qrk M.1 y.2 = 1) && (decide (dp.2 + n.2 ≤ qln 1 M.1 y.2) && decide (qcats r ≤ 8)))))))))))))))) pc ls r (M.1, va_up M.2 y.2.toNat (va_cpy (M.2 x.2.toNat) (M.2 y.2.toNat) sp.2.toNat dp.2.toNat n.2.toNat))
  | _ => none
/-- a method by its number -/
def qnm (y : Nat) : MethodName := qnames.getD y ⟨"", "", ""⟩
def qby (y : Nat) : ByteArray := qbytes.getD y ⟨#[]⟩
def qmx (y : Nat) : Nat := qmaxL.getD y 0
def qrt (y : Nat) : Option FieldType := qrets.getD y none
def qfr (y : Nat) : Nat := qframes.getD y 0
def qlo (y : Nat) : Nat := qlocs.getD y 0
def qmc (y : Nat) : Nat := (qmade.getD y (0, 0)).1
def qms (y : Nat) : Nat := (qmade.getD y (0, 0)).2
def qow (y : Nat) : Nat := qowner.getD y 0
def qfind (pc : Nat) : List qI → Option qI
  | [] => none
  | e :: r => if e.1 = pc then some e else qfind pc r
def qcd (y pc : Nat) : Option qI := qfind pc (qcodes.getD y [])
/-- the locals with which a method begins -/
def qargs : List qV → List qV
  | [] => []
  | v :: r => if qcat v.1 = 2 then v :: (9, 0) :: qargs r else v :: qargs r
def qent (n : Nat) (as : List qV) : List qV := qargs as ++ List.replicate (n - (qargs as).length) (9, 0)
def qcal (lim : Nat × Nat) (y pc : Nat) (as ls r : List qV) (M : qM) (g : Bool) : qO :=
  some (g && (decide (M.1.length + qmc y ≤ lim.1) && (decide (qsz M.1 + qms y ≤ lim.2) && (decide (qcats r ≤ 8) && decide ((qargs as).length ≤ qmx y)))), .inr (.inl (y, as, pc, ls, r, M)))
/-- Math.min, Math.abs over ints -/
def qmin (lim : Nat × Nat) (pc : Nat) (ls st : List qV) (M : qM) : qO := match st with
  | y :: x :: r => qnx (y.1 == 0 && (x.1 == 0 && (decide (qcats r ≤ 8) && (decide (M.1.length ≤ lim.1) && decide (qsz M.1 ≤ lim.2))))) pc ls ((0, if y.2 < x.2 then y.2 else x.2) :: r) M
  | _ => none
def qabs (lim : Nat × Nat) (pc : Nat) (ls st : List qV) (M : qM) : qO := match st with
  | x :: r => qnx (x.1 == 0 && (decide (qcats r ≤ 8) && (decide (M.1.length ≤ lim.1) && decide (qsz M.1 ≤ lim.2)))) pc ls ((0, if 0 ≤ x.2 then x.2 else w32 (0 - x.2)) :: r) M
  | _ => none
def qinv (tb : Nat → Nat × (Nat → Int)) (lim : Nat × Nat) (a b : Nat) (v : Int) (pc : Nat) (ls st : List qV) (M : qM) : qO :=
  if v = 7 then qcpy tb pc ls st M
  else if v = 8 then qmin lim pc ls st M
  else if v = 9 then qabs lim pc ls st M
  else if v = 6 then match st with
    | x :: r => qnx (x.1 == 3 && (decide (0 ≤ x.2) && decide (qcats r ≤ 8))) pc ls r M
    | _ => none
  else if v = 1 ∨ v = 4 then qcal lim a pc (st.take b).reverse ls (st.drop b) M (decide (b ≤ st.length))
  else match st.drop b with
    | x :: r => qcal lim a pc (x :: (st.take b).reverse) ls r M (x.1 == 3 && (decide (0 ≤ x.2) && (v == 2 || (v == 5 || qis M.1 x.2 (qow a)))))
    | _ => none
def qcst (a : Nat) (v : Int) : qV := match a with
  | 0 => (0, v)
  | 1 => (2, v)
  | 2 => (1, v)
  | _ => (4, v)
def qret (t a : Nat) (st : List qV) : qO := match st with
  | [x] => some (x.1 == t && (a == 0 || (x.2 == 0 || x.2 == 1)), .inr (.inr (some x)))
  | _ => none
def qstp (tb : Nat → Nat × (Nat → Int)) (lim : Nat × Nat) (pc : Nat) (ins : Instr) (len a b : Nat) (v : Int) (ls st : List qV) (M : qM) : qO := match ins with
  | .iconst n => qpu (0, n) (pc + len) ls st M
  | .bipush n => qpu (0, n) (pc + len) ls st M
  | .sipush n => qpu (0, n) (pc + len) ls st M
  | .lconst n => qpu (1, ((n : Nat) : Int)) (pc + len) ls st M
  | .fconst n => qpu (2, if (n : Nat) = 0 then 0 else 1065353216) (pc + len) ls st M
  | .dconst n => qpu (4, if (n : Nat) = 0 then 0 else 4607182418800017408) (pc + len) ls st M
  | .ldc _ => qpu (qcst a v) (pc + len) ls st M
  | .ldc_w _ => qpu (qcst a v) (pc + len) ls st M
  | .ldc2_w _ => qpu (qcst a v) (pc + len) ls st M
  | .iload i => qlod 0 i (pc + len) ls st M
  | .iload_n i => qlod 0 i (pc + len) ls st M
  | .lload i => qlod 1 i (pc + len) ls st M
  | .lload_n i => qlod 1 i (pc + len) ls st M
  | .fload_n i => qlod 2 i (pc + len) ls st M
  | .dload_n i => qlod 4 i (pc + len) ls st M
  | .aload i => qlod 3 i (pc + len) ls st M
  | .aload_n i => qlod 3 i (pc + len) ls st M
  | .istore i => qst1 0 i (pc + len) ls st M
  | .istore_n i => qst1 0 i (pc + len) ls st M
  | .astore i => qst1 3 i (pc + len) ls st M
  | .astore_n i => qst1 3 i (pc + len) ls st M
  | .lstore i => qst2 1 i (pc + len) ls st M
  | .lstore_n i => qst2 1 i (pc + len) ls st M
  | .dstore_n i => qst2 4 i (pc + len) ls st M
  | .iinc i n => match ls[i]? with
    | some x => qnx (x.1 == 0 && qfre i ls) (pc + len) (ls.set i (0, w32 (x.2 + n))) st M
    | none => none
  | .iadd => qii (fun x y => w32 (x + y)) (pc + len) ls st M
  | .isub => qii (fun x y => w32 (x - y)) (pc + len) ls st M
  | .imul => qii (fun x y => w32 (x * y)) (pc + len) ls st M
  | .iand => qii (fun x y => (i1 x &&& i1 y).toInt) (pc + len) ls st M
  | .ior => qii (fun x y => (i1 x ||| i1 y).toInt) (pc + len) ls st M
  | .ixor => qii (fun x y => (i1 x ^^^ i1 y).toInt) (pc + len) ls st M
  | .ishl => qii (fun x y => (i1 x <<< (i1 y &&& 31)).toInt) (pc + len) ls st M
  | .ishr => qii (fun x y => (i1 x >>> (i1 y &&& 31)).toInt) (pc + len) ls st M
  | .iushr => qii (fun x y => ((i1 x).toUInt32 >>> ((i1 y).toUInt32 &&& Int32.toUInt32 31)).toInt32.toInt) (pc + len) ls st M
  | .idiv => qid (fun x y => w32 (x.tdiv y)) (pc + len) ls st M
  | .irem => qid (fun x y => w32 (x.tmod y)) (pc + len) ls st M
  | .ineg => qun 0 0 (fun x => w32 (-x)) (pc + len) ls st M
  | .ladd => qll (fun x y => w64 (x + y)) (pc + len) ls st M
  | .lsub => qll (fun x y => w64 (x - y)) (pc + len) ls st M
  | .lmul => qll (fun x y => w64 (x * y)) (pc + len) ls st M
  | .land => qll (fun x y => (l1 x &&& l1 y).toInt) (pc + len) ls st M
  | .lor => qll (fun x y => (l1 x ||| l1 y).toInt) (pc + len) ls st M
  | .ldiv => qldv (fun x y => w64 (x.tdiv y)) (pc + len) ls st M
  | .lrem => qldv (fun x y => w64 (x.tmod y)) (pc + len) ls st M
  | .lneg => qun 1 1 (fun x => w64 (-x)) (pc + len) ls st M
  | .lshl => qli (fun x y => (l1 x <<< ((i1 y).toInt64 &&& 63)).toInt) (pc + len) ls st M
  | .lshr => qli (fun x y => (l1 x >>> ((i1 y).toInt64 &&& 63)).toInt) (pc + len) ls st M
  | .lushr => qli (fun x y => ((l1 x).toUInt64 >>> ((i1 y).toInt64.toUInt64 &&& Int64.toUInt64 63)).toInt64.toInt) (pc + len) ls st M
  | .i2l => qun 0 1 (fun x => x) (pc + len) ls st M
  | .l2i => qun 1 0 (fun x => w32 x) (pc + len) ls st M
  | .i2f => qun 0 2 (fun x => ((FP.i2f (i1 x)).toNat : Int)) (pc + len) ls st M
  | .d2i => qun 4 0 (fun x => (FP.d2i (d1 x)).toInt) (pc + len) ls st M
  | .f2d => match st with
    | x :: r => qnx (x.1 == 2 && decide (FP.f2d (f1 x.2) &&& 0x7fffffffffffffff ≤ 0x7ff0000000000000)) (pc + len) ls ((4, ((FP.f2d (f1 x.2)).toNat : Int)) :: r) M
    | _ => none
  | .fadd => qff FP.fadd (pc + len) ls st M
  | .fsub => qff FP.fsub (pc + len) ls st M
  | .fmul => qff FP.fmul (pc + len) ls st M
  | .dmul => qdd FP.dmul (pc + len) ls st M
  | .ddiv => qdd FP.ddiv (pc + len) ls st M
  | .lcmp => qcmp 1 (fun x y => if y < x then 1 else if x = y then 0 else -1) (pc + len) ls st M
  | .fcmp o => qcmp 2 (fun x y => (Op.cmpValue (FP.fcmp (f1 x) (f1 y)) o).toInt) (pc + len) ls st M
  | .dcmp o => qcmp 4 (fun x y => (Op.cmpValue (FP.dcmp (d1 x) (d1 y)) o).toInt) (pc + len) ls st M
  | .dup => match st with
    | x :: r => qnx (qcat x.1 == 1) (pc + len) ls (x :: x :: r) M
    | _ => none
  | .pop => match st with
    | x :: r => qnx (qcat x.1 == 1) (pc + len) ls r M
    | _ => none
  | .dup2 => match st with
    | x :: r => if qcat x.1 = 2 then qnx true (pc + len) ls (x :: x :: r) M else match r with
      | y :: r2 => qnx (qcat y.1 == 1) (pc + len) ls (x :: y :: x :: y :: r2) M
      | _ => none
    | _ => none
  | .ifCond c off => qif1 c (qtgt pc off) (pc + len) ls st M
  | .if_icmp c off => qif2 c (qtgt pc off) (pc + len) ls st M
  | .goto off => qnx true (qtgt pc off) ls st M
  | .tableswitch d lo hi offs => match st with
    | x :: r => qnx (x.1 == 0) (if x.2 < lo then qtgt pc d else if hi < x.2 then qtgt pc d else qtgt pc (offs.toList.getD (x.2 - lo).toNat d)) ls r M
    | _ => none
  | .lookupswitch d ps => match st with
    | x :: r => qnx (x.1 == 0) (qtgt pc (Op.lookupswitch.offset ps.toList d x.2)) ls r M
    | _ => none
  | .getfield _ => qget a b (pc + len) ls st M
  | .putfield _ => qput a b (pc + len) ls st M
  | .getstatic _ => qpu (3, -2 - (a : Int)) (pc + len) ls st M
  | .iaload => qald tb 1 0 (pc + len) ls st M
  | .baload => qald tb 2 0 (pc + len) ls st M
  | .laload => qlal tb (pc + len) ls st M
  | .aaload => qaal (pc + len) ls st M
  | .iastore => qias 1 (pc + len) ls st M
  | .bastore => qias 2 (pc + len) ls st M
  | .aastore => qaas (pc + len) ls st M
  | .arraylength => qlen tb (pc + len) ls st M
  | .new _ => qnew lim a (pc + len) ls st M
  | .newarray t => match t with
    | .int => qnar lim 1 0 (pc + len) ls st M
    | .boolean => qnar lim 2 0 (pc + len) ls st M
    | _ => none
  | .anewarray _ => qnar lim a (-1) (pc + len) ls st M
  | .invokevirtual _ => qinv tb lim a b v (pc + len) ls st M
  | .invokestatic _ => qinv tb lim a b v (pc + len) ls st M
  | .invokespecial _ => qinv tb lim a b v (pc + len) ls st M
  | .ireturn => qret 0 a st
  | .lreturn => qret 1 a st
  | .return_ => match st with
    | [] => some (true, .inr (.inr none))
    | _ => none
  | _ => none
abbrev qP : Type := Nat → Nat × Nat → Nat → List qV → List qV → qM → (Option qV → qM → Prop) → Prop
def qmono (P : qP) : Prop := ∀ y lim pc ls st M R R', (∀ r M2, R r M2 → R' r M2) → P y lim pc ls st M R → P y lim pc ls st M R'
/-- one step, then P -/
def qgo (P : qP) (y : Nat) (lim : Nat × Nat) (M : qM) (R : Option qV → qM → Prop) (o : qO) : Prop := match o with
  | none => False
  | some (g, .inl (pc, ls, st, M2)) => g = true ∧ P y lim pc ls st M2 R
  | some (g, .inr (.inl (y2, as, pc, ls, st, M2))) => g = true ∧ P y2 (M2.1.length + qmc y2, qsz M2.1 + qms y2) 0 (qent (qmx y2) as) [] M2 (fun r M3 => (M3.1.length = M2.1.length + qmc y2 ∧ qsz M3.1 = qsz M2.1 + qms y2) ∧ P y lim pc ls (r.toList ++ st) M3 R)
  | some (g, .inr (.inr r)) => g = true ∧ R r M
def qcl (tb : Nat → Nat × (Nat → Int)) (P : qP) : qP := fun y lim pc ls st M R => match qcd y pc with
  | none => False
  | some e => qgo P y lim M R (qstp tb lim e.1 e.2.1 e.2.2.1 e.2.2.2.1 e.2.2.2.2.1 e.2.2.2.2.2 ls st M)
/-- THE RUN: from this place the machine comes to an end with R -/
def qW (tb : Nat → Nat × (Nat → Int)) : qP := fun y lim pc ls st M R => ∀ P : qP, qmono P → (∀ y lim pc ls st M R, qcl tb P y lim pc ls st M R → P y lim pc ls st M R) → P y lim pc ls st M R
theorem qgo_mono {P Q : qP} (hP : ∀ y lim pc ls st M R, P y lim pc ls st M R → Q y lim pc ls st M R) (hQ : qmono Q) {y : Nat} {lim : Nat × Nat} {M : qM} {R R' : Option qV → qM → Prop} (hR : ∀ r M2, R r M2 → R' r M2) {o : qO} (h : qgo P y lim M R o) : qgo Q y lim M R' o := by
  unfold qgo at h ⊢
  split at h
  · exact h
  · exact ⟨h.1, hQ _ _ _ _ _ _ _ _ hR (hP _ _ _ _ _ _ _ h.2)⟩
  · refine ⟨h.1, hQ _ _ _ _ _ _ _ _ (fun r M3 h3 => ⟨h3.1, hQ _ _ _ _ _ _ _ _ hR (hP _ _ _ _ _ _ _ h3.2)⟩) (hP _ _ _ _ _ _ _ h.2)⟩
  · exact ⟨h.1, hR _ _ h.2⟩
theorem qW_mono (tb : Nat → Nat × (Nat → Int)) : qmono (qW tb) := fun y lim pc ls st M R R' hR h P hm hc => hm _ _ _ _ _ _ _ _ hR (h P hm hc)
theorem qW_step {tb : Nat → Nat × (Nat → Int)} {y : Nat} {lim : Nat × Nat} {pc : Nat} {ls st : List qV} {M : qM} {R : Option qV → qM → Prop} (h : qcl tb (qW tb) y lim pc ls st M R) : qW tb y lim pc ls st M R := by
  intro P hm hc
  apply hc
  unfold qcl at h ⊢
  split at h
  · exact h
  · next e he => exact qgo_mono (fun _ _ _ _ _ _ _ h => h P hm hc) hm (fun _ _ h => h) h
