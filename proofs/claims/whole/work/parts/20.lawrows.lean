theorem kw_402 : (Jvm.Cond.static ({ cls := "PagewrightLaw", name := "space", desc := "(LPagewright;I[J)I" } : Jvm.MethodName)) ∈ gB := gB_mem 402 (by decide +kernel) (by decide)
theorem kw_403 : (Jvm.Cond.codeWith ({ cls := "PagewrightLaw", name := "space", desc := "(LPagewright;I[J)I" } : Jvm.MethodName) method_3_code (4 : Nat) (Option.some Jvm.ClassFile.FieldType.int) [((0 : Nat), (9 : Nat), (12 : Nat), (13 : Nat)), ((0 : Nat), (9 : Nat), (15 : Nat), (15 : Nat))]) ∈ gB := gB_mem 403 (by decide +kernel) (by decide)
theorem kw_508 : (Jvm.Cond.static ({ cls := "PagewrightLaw", name := "map", desc := "(LPagewright;IIIIIIZZ[J)I" } : Jvm.MethodName)) ∈ gB := gB_mem 508 (by decide +kernel) (by decide)
theorem kw_509 : (Jvm.Cond.codeWith ({ cls := "PagewrightLaw", name := "map", desc := "(LPagewright;IIIIIIZZ[J)I" } : Jvm.MethodName) method_4_code (11 : Nat) (Option.some Jvm.ClassFile.FieldType.int) [((0 : Nat), (22 : Nat), (25 : Nat), (21 : Nat)), ((0 : Nat), (22 : Nat), (29 : Nat), (13 : Nat)), ((0 : Nat), (22 : Nat), (33 : Nat), (15 : Nat))]) ∈ gB := gB_mem 509 (by decide +kernel) (by decide)
theorem kw_555 : (Jvm.Cond.static ({ cls := "PagewrightLaw", name := "unmap", desc := "(LPagewright;III[J)I" } : Jvm.MethodName)) ∈ gB := gB_mem 555 (by decide +kernel) (by decide)
theorem kw_556 : (Jvm.Cond.codeWith ({ cls := "PagewrightLaw", name := "unmap", desc := "(LPagewright;III[J)I" } : Jvm.MethodName) method_5_code (6 : Nat) (Option.some Jvm.ClassFile.FieldType.int) [((0 : Nat), (12 : Nat), (15 : Nat), (21 : Nat)), ((0 : Nat), (12 : Nat), (19 : Nat), (13 : Nat)), ((0 : Nat), (12 : Nat), (23 : Nat), (15 : Nat))]) ∈ gB := gB_mem 556 (by decide +kernel) (by decide)
theorem kw_591 : (Jvm.Cond.static ({ cls := "PagewrightLaw", name := "protect", desc := "(LPagewright;IIII[J)I" } : Jvm.MethodName)) ∈ gB := gB_mem 591 (by decide +kernel) (by decide)
theorem kw_592 : (Jvm.Cond.codeWith ({ cls := "PagewrightLaw", name := "protect", desc := "(LPagewright;IIII[J)I" } : Jvm.MethodName) method_6_code (7 : Nat) (Option.some Jvm.ClassFile.FieldType.int) [((0 : Nat), (14 : Nat), (17 : Nat), (21 : Nat)), ((0 : Nat), (14 : Nat), (21 : Nat), (13 : Nat)), ((0 : Nat), (14 : Nat), (25 : Nat), (15 : Nat))]) ∈ gB := gB_mem 592 (by decide +kernel) (by decide)
theorem kw_603 : (Jvm.Cond.static ({ cls := "PagewrightLaw", name := "move", desc := "(LPagewright;IIII[J)I" } : Jvm.MethodName)) ∈ gB := gB_mem 603 (by decide +kernel) (by decide)
theorem kw_604 : (Jvm.Cond.codeWith ({ cls := "PagewrightLaw", name := "move", desc := "(LPagewright;IIII[J)I" } : Jvm.MethodName) method_7_code (7 : Nat) (Option.some Jvm.ClassFile.FieldType.int) [((0 : Nat), (14 : Nat), (17 : Nat), (21 : Nat)), ((0 : Nat), (14 : Nat), (21 : Nat), (13 : Nat)), ((0 : Nat), (14 : Nat), (25 : Nat), (15 : Nat))]) ∈ gB := gB_mem 604 (by decide +kernel) (by decide)
theorem kw_616 : (Jvm.Cond.static ({ cls := "PagewrightLaw", name := "fork", desc := "(LPagewright;I[J)I" } : Jvm.MethodName)) ∈ gB := gB_mem 616 (by decide +kernel) (by decide)
theorem kw_617 : (Jvm.Cond.codeWith ({ cls := "PagewrightLaw", name := "fork", desc := "(LPagewright;I[J)I" } : Jvm.MethodName) method_8_code (4 : Nat) (Option.some Jvm.ClassFile.FieldType.int) [((0 : Nat), (9 : Nat), (12 : Nat), (21 : Nat)), ((0 : Nat), (9 : Nat), (15 : Nat), (15 : Nat))]) ∈ gB := gB_mem 617 (by decide +kernel) (by decide)
theorem kw_627 : (Jvm.Cond.static ({ cls := "PagewrightLaw", name := "end", desc := "(LPagewright;I[J)I" } : Jvm.MethodName)) ∈ gB := gB_mem 627 (by decide +kernel) (by decide)
theorem kw_628 : (Jvm.Cond.codeWith ({ cls := "PagewrightLaw", name := "end", desc := "(LPagewright;I[J)I" } : Jvm.MethodName) method_9_code (4 : Nat) (Option.some Jvm.ClassFile.FieldType.int) [((0 : Nat), (9 : Nat), (12 : Nat), (21 : Nat)), ((0 : Nat), (9 : Nat), (15 : Nat), (15 : Nat))]) ∈ gB := gB_mem 628 (by decide +kernel) (by decide)
theorem kw_642 : (Jvm.Cond.static ({ cls := "PagewrightLaw", name := "adjust", desc := "(LPagewright;II[J)I" } : Jvm.MethodName)) ∈ gB := gB_mem 642 (by decide +kernel) (by decide)
theorem kw_643 : (Jvm.Cond.codeWith ({ cls := "PagewrightLaw", name := "adjust", desc := "(LPagewright;II[J)I" } : Jvm.MethodName) method_10_code (5 : Nat) (Option.some Jvm.ClassFile.FieldType.int) [((0 : Nat), (10 : Nat), (13 : Nat), (21 : Nat)), ((0 : Nat), (10 : Nat), (17 : Nat), (13 : Nat))]) ∈ gB := gB_mem 643 (by decide +kernel) (by decide)
theorem kw_649 : (Jvm.Cond.static ({ cls := "PagewrightLaw", name := "limit", desc := "(LPagewright;II[J)I" } : Jvm.MethodName)) ∈ gB := gB_mem 649 (by decide +kernel) (by decide)
theorem kw_650 : (Jvm.Cond.codeWith ({ cls := "PagewrightLaw", name := "limit", desc := "(LPagewright;II[J)I" } : Jvm.MethodName) method_11_code (5 : Nat) (Option.some Jvm.ClassFile.FieldType.int) [((0 : Nat), (10 : Nat), (13 : Nat), (13 : Nat))]) ∈ gB := gB_mem 650 (by decide +kernel) (by decide)
theorem kw_668 : (Jvm.Cond.static ({ cls := "PagewrightLaw", name := "load", desc := "(LPagewright;III[J)I" } : Jvm.MethodName)) ∈ gB := gB_mem 668 (by decide +kernel) (by decide)
theorem kw_669 : (Jvm.Cond.codeWith ({ cls := "PagewrightLaw", name := "load", desc := "(LPagewright;III[J)I" } : Jvm.MethodName) method_12_code (6 : Nat) (Option.some Jvm.ClassFile.FieldType.int) [((0 : Nat), (12 : Nat), (15 : Nat), (21 : Nat)), ((0 : Nat), (12 : Nat), (19 : Nat), (13 : Nat)), ((0 : Nat), (12 : Nat), (23 : Nat), (15 : Nat))]) ∈ gB := gB_mem 669 (by decide +kernel) (by decide)
theorem kw_820 : (Jvm.Cond.static ({ cls := "PagewrightLaw", name := "store", desc := "(LPagewright;IIII[J)I" } : Jvm.MethodName)) ∈ gB := gB_mem 820 (by decide +kernel) (by decide)
theorem kw_821 : (Jvm.Cond.codeWith ({ cls := "PagewrightLaw", name := "store", desc := "(LPagewright;IIII[J)I" } : Jvm.MethodName) method_13_code (7 : Nat) (Option.some Jvm.ClassFile.FieldType.int) [((0 : Nat), (14 : Nat), (17 : Nat), (21 : Nat)), ((0 : Nat), (14 : Nat), (21 : Nat), (13 : Nat)), ((0 : Nat), (14 : Nat), (25 : Nat), (15 : Nat))]) ∈ gB := gB_mem 821 (by decide +kernel) (by decide)
theorem kw_828 : (Jvm.Cond.static ({ cls := "PagewrightLaw", name := "read", desc := "(LPagewright;II[J)I" } : Jvm.MethodName)) ∈ gB := gB_mem 828 (by decide +kernel) (by decide)
theorem kw_829 : (Jvm.Cond.codeWith ({ cls := "PagewrightLaw", name := "read", desc := "(LPagewright;II[J)I" } : Jvm.MethodName) method_14_code (5 : Nat) (Option.some Jvm.ClassFile.FieldType.int) [((0 : Nat), (10 : Nat), (13 : Nat), (13 : Nat))]) ∈ gB := gB_mem 829 (by decide +kernel) (by decide)
theorem kw_842 : (Jvm.Cond.static ({ cls := "PagewrightLaw", name := "write", desc := "(LPagewright;III[J)I" } : Jvm.MethodName)) ∈ gB := gB_mem 842 (by decide +kernel) (by decide)
theorem kw_843 : (Jvm.Cond.codeWith ({ cls := "PagewrightLaw", name := "write", desc := "(LPagewright;III[J)I" } : Jvm.MethodName) method_15_code (6 : Nat) (Option.some Jvm.ClassFile.FieldType.int) [((0 : Nat), (12 : Nat), (15 : Nat), (13 : Nat))]) ∈ gB := gB_mem 843 (by decide +kernel) (by decide)
theorem kw_849 : (Jvm.Cond.static ({ cls := "PagewrightLaw", name := "sync", desc := "(LPagewright;I[J)I" } : Jvm.MethodName)) ∈ gB := gB_mem 849 (by decide +kernel) (by decide)
theorem kw_850 : (Jvm.Cond.codeWith ({ cls := "PagewrightLaw", name := "sync", desc := "(LPagewright;I[J)I" } : Jvm.MethodName) method_16_code (4 : Nat) (Option.some Jvm.ClassFile.FieldType.int) [((0 : Nat), (9 : Nat), (12 : Nat), (13 : Nat))]) ∈ gB := gB_mem 850 (by decide +kernel) (by decide)
theorem kw_860 : (Jvm.Cond.static ({ cls := "PagewrightLaw", name := "disk", desc := "(LPagewright;II[J)I" } : Jvm.MethodName)) ∈ gB := gB_mem 860 (by decide +kernel) (by decide)
theorem kw_861 : (Jvm.Cond.codeWith ({ cls := "PagewrightLaw", name := "disk", desc := "(LPagewright;II[J)I" } : Jvm.MethodName) method_17_code (5 : Nat) (Option.some Jvm.ClassFile.FieldType.int) [((0 : Nat), (10 : Nat), (13 : Nat), (13 : Nat))]) ∈ gB := gB_mem 861 (by decide +kernel) (by decide)
theorem kw_867 : (Jvm.Cond.static ({ cls := "PagewrightLaw", name := "reclaim", desc := "(LPagewright;I[J)I" } : Jvm.MethodName)) ∈ gB := gB_mem 867 (by decide +kernel) (by decide)
theorem kw_868 : (Jvm.Cond.codeWith ({ cls := "PagewrightLaw", name := "reclaim", desc := "(LPagewright;I[J)I" } : Jvm.MethodName) method_18_code (4 : Nat) (Option.some Jvm.ClassFile.FieldType.int) [((0 : Nat), (9 : Nat), (12 : Nat), (13 : Nat))]) ∈ gB := gB_mem 868 (by decide +kernel) (by decide)
theorem kw_874 : (Jvm.Cond.static ({ cls := "PagewrightLaw", name := "handle", desc := "(LPagewright;I[J)I" } : Jvm.MethodName)) ∈ gB := gB_mem 874 (by decide +kernel) (by decide)
theorem kw_875 : (Jvm.Cond.codeWith ({ cls := "PagewrightLaw", name := "handle", desc := "(LPagewright;I[J)I" } : Jvm.MethodName) method_19_code (4 : Nat) (Option.some Jvm.ClassFile.FieldType.int) [((0 : Nat), (9 : Nat), (12 : Nat), (21 : Nat))]) ∈ gB := gB_mem 875 (by decide +kernel) (by decide)
theorem kw_881 : (Jvm.Cond.static ({ cls := "PagewrightLaw", name := "join", desc := "(LPagewright;II[J)I" } : Jvm.MethodName)) ∈ gB := gB_mem 881 (by decide +kernel) (by decide)
theorem kw_882 : (Jvm.Cond.codeWith ({ cls := "PagewrightLaw", name := "join", desc := "(LPagewright;II[J)I" } : Jvm.MethodName) method_20_code (5 : Nat) (Option.some Jvm.ClassFile.FieldType.int) [((0 : Nat), (10 : Nat), (13 : Nat), (21 : Nat)), ((0 : Nat), (10 : Nat), (17 : Nat), (13 : Nat)), ((0 : Nat), (10 : Nat), (21 : Nat), (15 : Nat))]) ∈ gB := gB_mem 882 (by decide +kernel) (by decide)
theorem kw_904 : (Jvm.Cond.static ({ cls := "PagewrightLaw", name := "merge", desc := "(LPagewright;IZ)I" } : Jvm.MethodName)) ∈ gB := gB_mem 904 (by decide +kernel) (by decide)
theorem kw_905 : (Jvm.Cond.codeWith ({ cls := "PagewrightLaw", name := "merge", desc := "(LPagewright;IZ)I" } : Jvm.MethodName) method_21_code (4 : Nat) (Option.some Jvm.ClassFile.FieldType.int) [((0 : Nat), (6 : Nat), (9 : Nat), (21 : Nat))]) ∈ gB := gB_mem 905 (by decide +kernel) (by decide)
theorem kw_911 : (Jvm.Cond.static ({ cls := "PagewrightLaw", name := "scan", desc := "(LPagewright;I[J)I" } : Jvm.MethodName)) ∈ gB := gB_mem 911 (by decide +kernel) (by decide)
theorem kw_912 : (Jvm.Cond.codeWith ({ cls := "PagewrightLaw", name := "scan", desc := "(LPagewright;I[J)I" } : Jvm.MethodName) method_22_code (4 : Nat) (Option.some Jvm.ClassFile.FieldType.int) [((0 : Nat), (9 : Nat), (12 : Nat), (13 : Nat))]) ∈ gB := gB_mem 912 (by decide +kernel) (by decide)
theorem kw_942 : (Jvm.Cond.static ({ cls := "PagewrightLaw", name := "entry", desc := "(LPagewright;III[J)I" } : Jvm.MethodName)) ∈ gB := gB_mem 942 (by decide +kernel) (by decide)
theorem kw_943 : (Jvm.Cond.codeWith ({ cls := "PagewrightLaw", name := "entry", desc := "(LPagewright;III[J)I" } : Jvm.MethodName) method_23_code (6 : Nat) (Option.some Jvm.ClassFile.FieldType.int) [((0 : Nat), (12 : Nat), (15 : Nat), (21 : Nat)), ((0 : Nat), (12 : Nat), (19 : Nat), (13 : Nat))]) ∈ gB := gB_mem 943 (by decide +kernel) (by decide)
theorem kw_952 : (Jvm.Cond.static ({ cls := "PagewrightLaw", name := "frame", desc := "(LPagewright;II[J)I" } : Jvm.MethodName)) ∈ gB := gB_mem 952 (by decide +kernel) (by decide)
theorem kw_953 : (Jvm.Cond.codeWith ({ cls := "PagewrightLaw", name := "frame", desc := "(LPagewright;II[J)I" } : Jvm.MethodName) method_24_code (5 : Nat) (Option.some Jvm.ClassFile.FieldType.int) [((0 : Nat), (10 : Nat), (13 : Nat), (13 : Nat))]) ∈ gB := gB_mem 953 (by decide +kernel) (by decide)
theorem kw_964 : (Jvm.Cond.static ({ cls := "PagewrightLaw", name := "list", desc := "(LPagewright;II[J)I" } : Jvm.MethodName)) ∈ gB := gB_mem 964 (by decide +kernel) (by decide)
theorem kw_965 : (Jvm.Cond.codeWith ({ cls := "PagewrightLaw", name := "list", desc := "(LPagewright;II[J)I" } : Jvm.MethodName) method_25_code (5 : Nat) (Option.some Jvm.ClassFile.FieldType.int) [((0 : Nat), (10 : Nat), (13 : Nat), (13 : Nat))]) ∈ gB := gB_mem 965 (by decide +kernel) (by decide)
theorem kw_979 : (Jvm.Cond.static ({ cls := "PagewrightLaw", name := "about", desc := "(LPagewright;II[J)I" } : Jvm.MethodName)) ∈ gB := gB_mem 979 (by decide +kernel) (by decide)
theorem kw_980 : (Jvm.Cond.codeWith ({ cls := "PagewrightLaw", name := "about", desc := "(LPagewright;II[J)I" } : Jvm.MethodName) method_26_code (5 : Nat) (Option.some Jvm.ClassFile.FieldType.int) [((0 : Nat), (10 : Nat), (13 : Nat), (21 : Nat)), ((0 : Nat), (10 : Nat), (17 : Nat), (13 : Nat))]) ∈ gB := gB_mem 980 (by decide +kernel) (by decide)
theorem kw_986 : (Jvm.Cond.static ({ cls := "PagewrightLaw", name := "count", desc := "(LPagewright;I[J)I" } : Jvm.MethodName)) ∈ gB := gB_mem 986 (by decide +kernel) (by decide)
theorem kw_987 : (Jvm.Cond.codeWith ({ cls := "PagewrightLaw", name := "count", desc := "(LPagewright;I[J)I" } : Jvm.MethodName) method_27_code (4 : Nat) (Option.some Jvm.ClassFile.FieldType.int) [((0 : Nat), (9 : Nat), (12 : Nat), (13 : Nat))]) ∈ gB := gB_mem 987 (by decide +kernel) (by decide)
/-! the law's own body: the script, longs, calls with nothing to catch, its end -/
def gAtX : gX → Launch → gW → Nat → Prop := fun (p, l, e, R, s, m, args, below, meth, c, Q, w, bs) l0 w0 bs0 => l = l0 ∧ w = w0 ∧ bs = bs0
/-- the script: L ints xs, at the address of kind 58 -/
def gScr : gX → Nat → (Nat → Int32) → Prop := fun (p, l, e, R, s, m, args, below, meth, c, Q, w, bs) Ln xs => va_X (w.2.1 58 0) Ln xs s s.heap ∧ w.2.1 58 0 < s.heap.size ∧ ¬ bs ≤ w.2.1 58 0
section GL
variable {X : gX} {own : String} {cc : ByteArray} {nL lev rc rs kc ks : Nat} {L st : List (Nat × Int)} {S S' : gS} {l : Launch} {w : gW} {bs mc : Nat} {ret : Option FieldType}
theorem G_widen {pc kc' ks' : Nat} (h1 : kc ≤ kc') (h2 : ks ≤ ks') (k : G X kc' ks' pc L st S) : G X kc ks pc L st S := by
  obtain ⟨p, l, e, R, s, m, args, below, meth, c, Q, w, bs⟩ := X
  intro H locs ls hW hS hL
  exact W.widen h1 h2 (k H locs ls hW hS hL)
theorem g_scrld (h : gOk X own cc nL lev rc rs) (pc : Nat) {Ln : Nat} {xs : Nat → Int32} {i : Int} (hd : decode cc pc = .ok (.iaload, 1)) (hX : gScr X Ln xs) (hi : 0 ≤ i ∧ i < Ln) (hL9 : Ln ≤ 4608) (K : G X kc ks (pc + 1) L ((0, (xs i.toNat).toInt) :: st) S) : G X kc ks pc L ((0, i) :: (61, 0) :: st) S := by
  obtain ⟨p, l, e, R, s, m, args, below, meth, c, Q, w, bs⟩ := X
  obtain ⟨hx, hb, hml, hown, hts, hlk, hEn, hfr, hlo, hrc, hrs, hst⟩ := h
  obtain ⟨x1, x2, x3⟩ := hX
  intro H locs ls hW hS hL
  rw [List.map_cons, List.map_cons, show gvl w (61, 0) = .ref (w.2.1 58 0) from gvl_ref (Int.le_refl 0)]
  refine va_sld hx hb x1 x2 x3 hS (gi_in hi.1 hi.2 (by omega)) hd ?_
  rw [gi_cl ⟨by omega, by omega⟩]
  have kk := K H locs ls hW hS hL
  rw [List.map_cons, show gvl w (0, (xs i.toNat).toInt) = .int (gi (xs i.toNat).toInt) from rfl, gi_of] at kk
  exact kk
theorem g_scrlen (h : gOk X own cc nL lev rc rs) (pc : Nat) {Ln : Nat} {xs : Nat → Int32} (hd : decode cc pc = .ok (.arraylength, 1)) (hX : gScr X Ln xs) (K : G X kc ks (pc + 1) L ((0, (Ln : Int)) :: st) S) : G X kc ks pc L ((61, 0) :: st) S := by
  obtain ⟨p, l, e, R, s, m, args, below, meth, c, Q, w, bs⟩ := X
  obtain ⟨hx, hb, hml, hown, hts, hlk, hEn, hfr, hlo, hrc, hrs, hst⟩ := h
  obtain ⟨x1, x2, x3⟩ := hX
  intro H locs ls hW hS hL
  rw [List.map_cons, show gvl w (61, 0) = .ref (w.2.1 58 0) from gvl_ref (Int.le_refl 0)]
  refine va_slen hx hb x1 x2 x3 hS hd ?_
  have e : Int32.ofNat Ln = gi Ln := (Int32.ofInt_eq_ofNat).symm
  rw [e]
  exact K H locs ls hW hS hL
theorem g_lcmp (h : gOk X own cc nL lev rc rs) (pc : Nat) {a b : Int} (hd : decode cc pc = .ok (.lcmp, 1)) (ha : gR a) (hb2 : gR b) (K : G X kc ks (pc + 1) L ((0, (if b < a then 1 else if a = b then 0 else -1 : Int)) :: st) S) : G X kc ks pc L ((2, b) :: (2, a) :: st) S := by
  obtain ⟨p, l, e, R, s, m, args, below, meth, c, Q, w, bs⟩ := X
  obtain ⟨hx, hb, hml, hown, hts, hlk, hEn, hfr, hlo, hrc, hrs, hst⟩ := h
  obtain ⟨a1, a2⟩ := ha
  obtain ⟨b1, b2⟩ := hb2
  have ea : (Int64.ofInt a).toInt = a := Int64.toInt_ofInt_of_le (by omega) (by omega)
  have eb : (Int64.ofInt b).toInt = b := Int64.toInt_ofInt_of_le (by omega) (by omega)
  intro H locs ls hW hS hL
  refine W.lcmp hx hb (x := Int64.ofInt a) (y := Int64.ofInt b) hd ?_
  have kk := K H locs ls hW hS hL
  rw [List.map_cons] at kk
  have e : gvl w (0, (if b < a then 1 else if a = b then 0 else -1 : Int)) = .int (lg_cmp (Int64.ofInt a) (Int64.ofInt b)) := by
    show Value.int (gi _) = _
    congr 1
    unfold lg_cmp
    have h1 : Int64.ofInt a > Int64.ofInt b ↔ b < a := by rw [gt_iff_lt, Int64.lt_iff_toInt_lt, ea, eb]
    have h2 : Int64.ofInt a = Int64.ofInt b ↔ a = b := ⟨fun q => by rw [← ea, ← eb, q], fun q => by rw [q]⟩
    show gi (if b < a then 1 else if a = b then 0 else -1 : Int) = _
    by_cases c1 : b < a
    · rw [if_pos c1, if_pos (h1.mpr c1)]; rfl
    · rw [if_neg c1, if_neg (fun q => c1 (h1.mp q))]
      by_cases c2 : a = b
      · rw [if_pos c2, if_pos (h2.mpr c2)]; rfl
      · rw [if_neg c2, if_neg (fun q => c2 (h2.mp q))]; rfl
  rw [e] at kk
  exact kk
theorem g_callV0 (h : gOk X own cc nL lev rc rs) (hE : gAtX X l w bs) (pc : Nat) {idx k n nLy levy mcy : Nat} {y : MethodName} {cy : ByteArray} {rety : Option FieldType} {z : Int} {as stk : List (Nat × Int)} {rv : Option (Nat × Int)}
    (hd : decode cc pc = .ok (.invokevirtual idx, 3)) (hM : gMet l w bs y cy nLy rety levy mcy ((k + 3, z) :: as) S 0 rv S') (hw : gMw y cy nLy rety n true) (hl : Cond.methodLink own idx y ∈ gB) (k9 : k < 9) (hz : 0 ≤ z ∧ z < gN k) (hC : (vwCl[k]?).map (fun q => q.1) = some y.cls) (hlev : levy + 1 ≤ lev) (hn : as.length = n) (hst4 : st.length ≤ 4) (hcell : kc + mcy ≤ rc ∧ ks + 6 * mcy ≤ rs) (hstk : as.reverse ++ (k + 3, z) :: st = stk) (hnL : L.length = nL)
    (K : G X (kc + mcy) (ks + 6 * mcy) (pc + 3) L (rv.toList ++ st) S') : G X kc ks pc L stk S := by
  subst hstk
  obtain ⟨p, l', e, R, s, m, args, below, meth, c, Q, w', bs'⟩ := X
  obtain ⟨hx, hb, hml, hown, hts, hlk, hEn, hfr, hlo, hrc, hrs, hst⟩ := h
  obtain ⟨rfl, rfl, rfl⟩ := hE
  obtain ⟨w1, w2, w3, w4, w5⟩ := hw
  rw [if_pos rfl] at w5
  intro H locs ls hW hS hL T hT X9
  have hzi : gIn k z := ⟨by omega, hz⟩
  obtain ⟨qC, hqC⟩ : ∃ qC, vwCl[k]? = some qC := by
    cases hh : vwCl[k]? with
    | none => rw [hh] at hC; cases hC
    | some qC => exact ⟨qC, rfl⟩
  have hCe : qC.1 = y.cls := by rw [hqC] at hC; exact Option.some.inj hC
  have hrecv := va_recv (ws := [(w'.2.1 k z, _)]) hEn.1 (gP1 hW hzi (gCell_o k9)) (ci := k) (q0 := 0) hqC rfl
  rw [hCe] at hrecv
  have hG : GoodIn gB (wsV own idx y.cls y (gWs y cy nLy rety)) := gB_in (by
    intro v hv
    simp only [wsV, gWs, List.cons_append, List.nil_append, List.mem_cons] at hv
    rcases hv with rfl | rfl | rfl | rfl | rfl | hv
    · exact hl
    · exact w5.1
    · exact w5.2
    · exact w2
    · exact w1
    · exact hv)
  have hr := vx_runV (As := as.map (gvl w')) (rest := st.map (gvl w')) (b := w'.2.1 k z) (g := F0 m pc ls ((as.reverse ++ (k + 3, z) :: st).map (gvl w'))) (cells := kc) (slots := ks) (R := R) (l := l') (e := e) (below := below) (meth := meth) (H := H) (locs := locs) ⟨hx, hb, hml, hown, hts⟩ hM (cwV n hts hG rfl rfl rfl ⟨rfl, w3⟩ ⟨by show levy + 1 ≤ R.frames; omega, by
      show 8 + (nLy + 11) + 40 * levy ≤ R.locals
      omega⟩)
    ⟨gP_blind, hrecv, fun U hU hWm => ⟨by rw [List.map_cons, gvl_ref hz.1], by rw [hU]; exact hW, gEnv_at hEn hS hU hWm, hst.2.warm hWm⟩⟩ rfl (by rw [List.length_map]; exact hn) (gSz hL hnL) (by
      show (as.reverse ++ (k + 3, z) :: st).map (gvl w') = _
      rw [List.map_append, List.map_reverse, List.map_cons, gvl_ref hz.1]) (lv_room (by have := gvl_sum w' st; omega)) hd ⟨by rw [hrc]; exact hcell.1, by rw [hrs]; exact hcell.2⟩
  rcases hr T hT X9 with ⟨v, st₀, t, T', L', h0, X', hLf, e1, e2, ⟨hx0, hv, hw', hF⟩, stp⟩ | ⟨q, st₀, t, T', L', E, ce, h0, X', hLf, e1, e2, ⟨hx0, hEx, hw', hF⟩, hce, hcv, hcl, stp⟩
  · cases hv
    obtain ⟨k1, k2, k3⟩ := vx_keep h0 e1 hS (fun q _ h => h) (fun q h => h) hLf hF
    obtain ⟨t2, a1, b1⟩ := K T'.heap (locs ++ L') ls (by rw [e1]; exact hw') k3 hL T' rfl X'
    refine ⟨t2, stp t2 ?_, b1⟩
    rw [List.map_append] at a1
    cases rv <;> exact a1
  · exact absurd rfl hx0
theorem g_callSH (h : gOk X own cc nL lev rc rs) (hE : gAtX X l w bs) (pc : Nat) {idx n nLy levy mcy : Nat} {y : MethodName} {cy : ByteArray} {rety : Option FieldType} {hh : List (Nat × Nat × Nat × Nat)} {as stk : List (Nat × Int)} {rv : Option (Nat × Int)}
    (hd : decode cc pc = .ok (.invokestatic idx, 3)) (hM : gMetH l w bs y cy nLy rety hh levy mcy as S rv S') (w1 : Cond.codeWith y cy nLy rety hh ∈ gB) (w2 : Cond.initialized y.cls ∈ gB) (w5 : Cond.static y ∈ gB) (w3 : y.cls ≠ "java/lang/invoke/MethodHandle" ∧ y.cls ≠ "java/lang/invoke/VarHandle" ∧ (parseMethodDescriptor y.desc).map (fun d => d.parameters.length) = some n) (hnL21 : nLy ≤ 21) (hl : Cond.methodLink own idx y ∈ gB) (hlev : levy + 1 ≤ lev) (hn : as.length = n) (hst4 : st.length ≤ 4) (hcell : kc + mcy ≤ rc ∧ ks + 6 * mcy ≤ rs) (hstk : as.reverse ++ st = stk) (hnL : L.length = nL)
    (K : G X (kc + mcy) (ks + 6 * mcy) (pc + 3) L (rv.toList ++ st) S') : G X kc ks pc L stk S := by
  subst hstk
  obtain ⟨p, l', e, R, s, m, args, below, meth, c, Q, w', bs'⟩ := X
  obtain ⟨hx, hb, hml, hown, hts, hlk, hEn, hfr, hlo, hrc, hrs, hst⟩ := h
  obtain ⟨rfl, rfl, rfl⟩ := hE
  intro H locs ls hW hS hL T hT X9
  have hG : GoodIn gB (Cond.codeWith y cy nLy rety hh :: gB) := gB_in (by
    intro v hv
    rcases List.mem_cons.mp hv with rfl | hv
    · exact w1
    · exact hv)
  have hr := vx_runSX (hh := hh) (As := as.map (gvl w')) (rest := st.map (gvl w')) (g := F0 m pc ls ((as.reverse ++ st).map (gvl w'))) (cells := kc) (slots := ks) (R := R) (l := l') (e := e) (below := below) (meth := meth) (H := H) (locs := locs) ⟨hx, hb, hml, hown, hts⟩ hM
    ⟨⟨rfl, rfl, by show levy + 1 ≤ R.frames; omega, by
      show 8 + (nLy + 11) + 40 * levy ≤ R.locals
      omega, pay_in hts hG, List.mem_cons_self⟩, hts _ w1, hts _ w2, ⟨w3.1, w3.2.1⟩, fun sig hs => by
        have h2 := w3.2.2
        rw [hs] at h2
        exact (Option.some.inj h2).symm, hts _ hl, hts _ w5⟩
    ⟨gP_blind, fun U hU hWm => ⟨rfl, by rw [hU]; exact hW, gEnv_at hEn hS hU hWm, hst.2.warm hWm⟩⟩ rfl (by rw [List.length_map]; exact hn) (gSz hL hnL) (by
      show (as.reverse ++ st).map (gvl w') = _
      rw [List.map_append, List.map_reverse]) (lv_room (by have := gvl_sum w' st; omega)) hd ⟨by rw [hrc]; exact hcell.1, by rw [hrs]; exact hcell.2⟩
  rcases hr T hT X9 with ⟨v, st₀, t, T', L', h0, X', hLf, e1, e2, ⟨hx0, hv, hw', hF⟩, stp⟩ | ⟨q, st₀, t, T', L', E, ce, h0, X', hLf, e1, e2, ⟨hx0, hEx, hw', hF⟩, hce, hcv, hcl, stp⟩
  · cases hv
    obtain ⟨k1, k2, k3⟩ := vx_keep h0 e1 hS (fun q _ h => h) (fun q h => h) hLf hF
    obtain ⟨t2, a1, b1⟩ := K T'.heap (locs ++ L') ls (by rw [e1]; exact hw') k3 hL T' rfl X'
    refine ⟨t2, stp t2 ?_, b1⟩
    rw [List.map_append] at a1
    cases rv <;> exact a1
  · exact absurd rfl hx0
end GL
