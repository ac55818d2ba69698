/-! a heap while it is built: the cells from bs on, in the order in which they come -/
def kU (f : Nat → va_E) (i : Nat) (e : va_E) : Nat → va_E := fun j => if j = i then e else f j
theorem kU_s {f : Nat → va_E} {i : Nat} {e : va_E} : kU f i e i = e := if_pos rfl
theorem kU_n {f : Nat → va_E} {i j : Nat} {e : va_E} (h : j ≠ i) : kU f i e j = f j := if_neg h
def kH (w : gW) (bs n : Nat) (f : Nat → va_E) (H : Heap) : Prop := H.size = bs + n ∧ ∀ i, i < n → va_at w.1 vwCl (bs + i, f i) H
def KJ : gX → Nat → Nat → Nat → List (Nat × Int) → List (Nat × Int) → Nat → (Nat → va_E) → Prop := fun (p, l, e, R, s, m, args, below, meth, c, Q, w, bs) kc ks pc L st n f =>
  ∀ (H : Heap) (locs : List Loc) (ls : Array Slot), kH w bs n f H → va_S (fun q => bs ≤ q) s.heap H locs → gHas w ls L → W p l e R s m args below meth c H locs kc ks Q (F0 m pc ls (st.map (gvl w)))
section KR
variable {X : gX} {own : String} {cc : ByteArray} {nL lev rc rs kc ks : Nat} {L st : List (Nat × Int)} {nn : Nat} {ff : Nat → va_E}
theorem k_astore_n (h : gOk X own cc nL lev rc rs) (pc : Nat) {i : Fin 4} {L' : List (Nat × Int)} {z : Int} {t : Nat} (hd : decode cc pc = .ok (.astore_n i, 1)) (hn : (i : Nat) < L.length) (h2 : gNo2 L = true) (hl : L.set (i : Nat) (t + 3, z) = L') (k : KJ X kc ks (pc + 1) L' st nn ff) : KJ X kc ks pc L ((t + 3, z) :: st) nn ff := by
  obtain ⟨p, l, e, R, s, m, args, below, meth, c, Q, w, bs⟩ := X
  obtain ⟨hx, hb, hml, hown, hts, hlk, hE, hfr, hlo, hrc, hrs, hst⟩ := h
  intro H locs ls hW hS hL
  obtain ⟨ls', e', h'⟩ := gHas_store (q := (t + 3, z)) hL (by show t + 3 ≠ 2; omega) (gNo2_of h2) hn
  rw [hl] at h'
  have kk := k H locs ls' hW hS h'
  intro T hT X
  obtain ⟨t9, a, b⟩ := kk T hT X
  refine ⟨t9, ?_, b⟩
  rw [List.map_cons]
  by_cases hz : z < 0
  · rw [gvl_null hz] at e' ⊢
    jvm_step X.here [X.here.top, ↓top_set X.here.top, hx, hb, hd, e', Value.isRef]
    exact a
  · rw [gvl_ref (Int.not_lt.mp hz)] at e' ⊢
    jvm_step X.here [X.here.top, ↓top_set X.here.top, hx, hb, hd, e', Value.isRef]
    exact a
theorem k_istore (h : gOk X own cc nL lev rc rs) (pc : Nat) {i : Nat} {L' : List (Nat × Int)} {z : Int} (hd : decode cc pc = .ok (.istore i, 2)) (hn : i < L.length) (h2 : gNo2 L = true) (hl : L.set i (0, z) = L') (k : KJ X kc ks (pc + 2) L' st nn ff) : KJ X kc ks pc L ((0, z) :: st) nn ff := by
  obtain ⟨p, l, e, R, s, m, args, below, meth, c, Q, w, bs⟩ := X
  obtain ⟨hx, hb, hml, hown, hts, hlk, hE, hfr, hlo, hrc, hrs, hst⟩ := h
  intro H locs ls hW hS hL
  obtain ⟨ls', e', h'⟩ := gHas_store (q := (0, z)) hL (by show 0 ≠ 2; omega) (gNo2_of h2) hn
  rw [hl] at h'
  have kk := k H locs ls' hW hS h'
  intro T hT X
  obtain ⟨t9, a, b⟩ := kk T hT X
  refine ⟨t9, ?_, b⟩
  jvm_step X.here [X.here.top, ↓top_set X.here.top, hx, hb, hd, List.map_cons, show gvl w (0, z) = .int (gi z) from rfl, show storeLocals ls _ (.int (gi z)) = some ls' from e']
  exact a
theorem k_iload_n (h : gOk X own cc nL lev rc rs) (pc : Nat) {i : Fin 4} (hd : decode cc pc = .ok (.iload_n i, 1)) {z : Int} (hl : L[(i : Nat)]? = some (0, z)) (k : KJ X kc ks (pc + 1) L ((0, z) :: st) nn ff) : KJ X kc ks pc L st nn ff := by
  obtain ⟨p, l, e, R, s, m, args, below, meth, c, Q, w, bs⟩ := X
  obtain ⟨hx, hb, hml, hown, hts, hlk, hE, hfr, hlo, hrc, hrs, hst⟩ := h
  intro H locs ls hW hS hL
  exact lv_iload_n hx hb hd rfl (hL.2.2 _ _ hl (by show (0 : Nat) ≠ 1; decide)) (k H locs ls hW hS hL)
theorem k_aload_n (h : gOk X own cc nL lev rc rs) (pc : Nat) {i : Fin 4} (hd : decode cc pc = .ok (.aload_n i, 1)) {t : Nat} {z : Int} (hl : L[(i : Nat)]? = some (t + 3, z)) (k : KJ X kc ks (pc + 1) L ((t + 3, z) :: st) nn ff) : KJ X kc ks pc L st nn ff := by
  obtain ⟨p, l, e, R, s, m, args, below, meth, c, Q, w, bs⟩ := X
  obtain ⟨hx, hb, hml, hown, hts, hlk, hE, hfr, hlo, hrc, hrs, hst⟩ := h
  intro H locs ls hW hS hL
  have hv := hL.2.2 _ _ hl (by show t + 3 ≠ 1; omega)
  have kk := k H locs ls hW hS hL
  rw [List.map_cons] at kk
  by_cases hz : z < 0
  · rw [gvl_null hz] at hv kk
    exact lv_aload_nN hx hb hd rfl hv kk
  · rw [gvl_ref (Int.not_lt.mp hz)] at hv kk
    exact lv_aload_n hx hb hd rfl hv kk
theorem k_istore_n (h : gOk X own cc nL lev rc rs) (pc : Nat) {i : Fin 4} {L' : List (Nat × Int)} {z : Int} (hd : decode cc pc = .ok (.istore_n i, 1)) (hn : (i : Nat) < L.length) (h2 : gNo2 L = true) (hl : L.set (i : Nat) (0, z) = L') (k : KJ X kc ks (pc + 1) L' st nn ff) : KJ X kc ks pc L ((0, z) :: st) nn ff := by
  obtain ⟨p, l, e, R, s, m, args, below, meth, c, Q, w, bs⟩ := X
  obtain ⟨hx, hb, hml, hown, hts, hlk, hE, hfr, hlo, hrc, hrs, hst⟩ := h
  intro H locs ls hW hS hL
  obtain ⟨ls', e', h'⟩ := gHas_store (q := (0, z)) hL (by show 0 ≠ 2; omega) (gNo2_of h2) hn
  rw [hl] at h'
  have kk := k H locs ls' hW hS h'
  intro T hT X
  obtain ⟨t9, a, b⟩ := kk T hT X
  refine ⟨t9, ?_, b⟩
  jvm_step X.here [X.here.top, ↓top_set X.here.top, hx, hb, hd, List.map_cons, show gvl w (0, z) = .int (gi z) from rfl, show storeLocals ls _ (.int (gi z)) = some ls' from e']
  exact a
theorem k_iinc (h : gOk X own cc nL lev rc rs) (pc : Nat) {i : Nat} {n z : Int} {L' : List (Nat × Int)} (hd : decode cc pc = .ok (.iinc i n, 3)) (hg : L[i]? = some (0, z)) (h2 : gNo2 L = true) (hl : L.set i (0, z + n) = L') (k : KJ X kc ks (pc + 3) L' st nn ff) : KJ X kc ks pc L st nn ff := by
  obtain ⟨p, l, e, R, s, m, args, below, meth, c, Q, w, bs⟩ := X
  obtain ⟨hx, hb, hml, hown, hts, hlk, hE, hfr, hlo, hrc, hrs, hst⟩ := h
  intro H locs ls hW hS hL
  obtain ⟨ls', e', h'⟩ := gHas_store (q := (0, z + n)) hL (by show (0 : Nat) ≠ 2; decide) (gNo2_of h2) ((List.getElem?_eq_some_iff.mp hg).1)
  rw [hl] at h'
  have hv := hL.2.2 _ _ hg (by show (0 : Nat) ≠ 1; decide)
  have kk := k H locs ls' hW hS h'
  have e2 : storeLocals ls i (.int (gi z + Int32.ofInt n)) = some ls' := by
    have : gi z + Int32.ofInt n = gi (z + n) := gi_add z n
    rw [this]
    exact e'
  have hv2 : ls[i]? = some (.val (.int (gi z))) := hv
  intro T hT X
  obtain ⟨t9, a, b⟩ := kk T hT X
  refine ⟨t9, ?_, b⟩
  jvm_step X.here [X.here.top, ↓top_set X.here.top, hx, hb, hd, hv2, e2]
  exact a
theorem k_iconst (h : gOk X own cc nL lev rc rs) (pc : Nat) {n : Int} (hd : decode cc pc = .ok (.iconst n, 1)) (k : KJ X kc ks (pc + 1) L ((0, n) :: st) nn ff) : KJ X kc ks pc L st nn ff := by
  obtain ⟨p, l, e, R, s, m, args, below, meth, c, Q, w, bs⟩ := X
  obtain ⟨hx, hb, hml, hown, hts, hlk, hE, hfr, hlo, hrc, hrs, hst⟩ := h
  intro H locs ls hW hS hL
  exact lv_iconst hx hb hd rfl (k H locs ls hW hS hL)
theorem k_bipush (h : gOk X own cc nL lev rc rs) (pc : Nat) {n : Int} (hd : decode cc pc = .ok (.bipush n, 2)) (hn : (Int8.ofInt n).toInt32 = gi n) (k : KJ X kc ks (pc + 2) L ((0, n) :: st) nn ff) : KJ X kc ks pc L st nn ff := by
  obtain ⟨p, l, e, R, s, m, args, below, meth, c, Q, w, bs⟩ := X
  obtain ⟨hx, hb, hml, hown, hts, hlk, hE, hfr, hlo, hrc, hrs, hst⟩ := h
  intro H locs ls hW hS hL
  exact lv_bipush hx hb hd hn (k H locs ls hW hS hL)
theorem k_sipush (h : gOk X own cc nL lev rc rs) (pc : Nat) {n : Int} (hd : decode cc pc = .ok (.sipush n, 3)) (hn : (Int16.ofInt n).toInt32 = gi n) (k : KJ X kc ks (pc + 3) L ((0, n) :: st) nn ff) : KJ X kc ks pc L st nn ff := by
  obtain ⟨p, l, e, R, s, m, args, below, meth, c, Q, w, bs⟩ := X
  obtain ⟨hx, hb, hml, hown, hts, hlk, hE, hfr, hlo, hrc, hrs, hst⟩ := h
  intro H locs ls hW hS hL
  exact lv_sipush hx hb hd hn (k H locs ls hW hS hL)
theorem k_iadd (h : gOk X own cc nL lev rc rs) (pc : Nat) {a b : Int} (hd : decode cc pc = .ok (.iadd, 1)) (k : KJ X kc ks (pc + 1) L ((0, a + b) :: st) nn ff) : KJ X kc ks pc L ((0, b) :: (0, a) :: st) nn ff := by
  obtain ⟨p, l, e, R, s, m, args, below, meth, c, Q, w, bs⟩ := X
  obtain ⟨hx, hb, hml, hown, hts, hlk, hE, hfr, hlo, hrc, hrs, hst⟩ := h
  intro H locs ls hW hS hL
  refine lv_iadd hx hb hd ?_
  rw [gi_add]
  exact k H locs ls hW hS hL
theorem k_imul (h : gOk X own cc nL lev rc rs) (pc : Nat) {a b : Int} (hd : decode cc pc = .ok (.imul, 1)) (k : KJ X kc ks (pc + 1) L ((0, a * b) :: st) nn ff) : KJ X kc ks pc L ((0, b) :: (0, a) :: st) nn ff := by
  obtain ⟨p, l, e, R, s, m, args, below, meth, c, Q, w, bs⟩ := X
  obtain ⟨hx, hb, hml, hown, hts, hlk, hE, hfr, hlo, hrc, hrs, hst⟩ := h
  intro H locs ls hW hS hL
  refine lv_imul hx hb hd ?_
  rw [gi_mul]
  exact k H locs ls hW hS hL
theorem k_idiv (h : gOk X own cc nL lev rc rs) (pc : Nat) {a b : Int} (hd : decode cc pc = .ok (.idiv, 1)) (h1 : 0 ≤ a ∧ a ≤ 2147483647) (h2 : 0 < b ∧ b ≤ 2147483647) (k : KJ X kc ks (pc + 1) L ((0, a / b) :: st) nn ff) : KJ X kc ks pc L ((0, b) :: (0, a) :: st) nn ff := by
  obtain ⟨p, l, e, R, s, m, args, below, meth, c, Q, w, bs⟩ := X
  obtain ⟨hx, hb, hml, hown, hts, hlk, hE, hfr, hlo, hrc, hrs, hst⟩ := h
  intro H locs ls hW hS hL
  refine lv_idiv hx hb hd (by
    intro e
    have := congrArg Int32.toInt e
    rw [gi_toInt ⟨by omega, by omega⟩, show (0 : Int32).toInt = 0 from rfl] at this
    omega) ?_
  rw [gi_div h1.1 h1.2 h2.1 h2.2]
  exact k H locs ls hW hS hL
theorem k_ishl (h : gOk X own cc nL lev rc rs) (pc : Nat) {a b : Int} (hd : decode cc pc = .ok (.ishl, 1)) (k : KJ X kc ks (pc + 1) L ((0, gShl a b) :: st) nn ff) : KJ X kc ks pc L ((0, b) :: (0, a) :: st) nn ff := by
  obtain ⟨p, l, e, R, s, m, args, below, meth, c, Q, w, bs⟩ := X
  obtain ⟨hx, hb, hml, hown, hts, hlk, hE, hfr, hlo, hrc, hrs, hst⟩ := h
  intro H locs ls hW hS hL
  refine lv_ishl hx hb hd ?_
  have kk := k H locs ls hW hS hL
  rw [List.map_cons] at kk
  rw [show gvl w (0, gShl a b) = .int (gi (gShl a b)) from rfl, gShl, gi_of] at kk
  exact kk
theorem k_dup (h : gOk X own cc nL lev rc rs) (pc : Nat) {q : Nat × Int} (hd : decode cc pc = .ok (.dup, 1)) (hq : q.1 ≠ 2) (k : KJ X kc ks (pc + 1) L (q :: q :: st) nn ff) : KJ X kc ks pc L (q :: st) nn ff := by
  obtain ⟨p, l, e, R, s, m, args, below, meth, c, Q, w, bs⟩ := X
  obtain ⟨hx, hb, hml, hown, hts, hlk, hE, hfr, hlo, hrc, hrs, hst⟩ := h
  intro H locs ls hW hS hL
  exact lv_dup hx hb hd (gvl_c1 w hq) (k H locs ls hW hS hL)
theorem k_goto (h : gOk X own cc nL lev rc rs) (pc : Nat) {off : Int} (tgt : Nat) (hd : decode cc pc = .ok (.goto off, 3)) (ht : (pc : Int) + off = (tgt : Int)) (k : KJ X kc ks tgt L st nn ff) : KJ X kc ks pc L st nn ff := by
  obtain ⟨p, l, e, R, s, m, args, below, meth, c, Q, w, bs⟩ := X
  obtain ⟨hx, hb, hml, hown, hts, hlk, hE, hfr, hlo, hrc, hrs, hst⟩ := h
  intro H locs ls hW hS hL
  exact lv_goto hx hb hd ht (k H locs ls hW hS hL)
theorem k_icmp_ge (h : gOk X own cc nL lev rc rs) (pc : Nat) {off : Int} (tgt : Nat) {a b : Int} (ha : gR a) (hb2 : gR b) (hd : decode cc pc = .ok (.if_icmp .ge off, 3)) (ht : (pc : Int) + off = (tgt : Int)) (kt : b ≤ a → KJ X kc ks tgt L st nn ff) (kf : a < b → KJ X kc ks (pc + 3) L st nn ff) : KJ X kc ks pc L ((0, b) :: (0, a) :: st) nn ff := by
  obtain ⟨p, l, e, R, s, m, args, below, meth, c, Q, w, bs⟩ := X
  obtain ⟨hx, hb, hml, hown, hts, hlk, hE, hfr, hlo, hrc, hrs, hst⟩ := h
  intro H locs ls hW hS hL
  refine lv_icmp_ge (x := gi a) (y := gi b) hx hb hd ht (fun q => kt ?_ H locs ls hW hS hL) (fun q => kf ?_ H locs ls hW hS hL)
  · try rw [← gi_0] at q
    simp only [gi_eq ha hb2, gi_lt ha hb2, gi_le ha hb2, gi_lt hb2 ha, gi_le hb2 ha, ge_iff_le, gt_iff_lt, ne_eq, Decidable.not_not, Int.not_lt, Int.not_le] at q
    try omega
    try exact q
  · try rw [← gi_0] at q
    simp only [gi_eq ha hb2, gi_lt ha hb2, gi_le ha hb2, gi_lt hb2 ha, gi_le hb2 ha, ge_iff_le, gt_iff_lt, ne_eq, Decidable.not_not, Int.not_lt, Int.not_le] at q
    try omega
    try exact q
end KR
