/-! methods with handlers: the law's wrappers; the script; longs -/
theorem gHas_junk {w : gW} {ls : Array Slot} {L : List (Nat × Int)} (h : gHas w ls L) {i : Nat} {v : Value} (hv : v.category = 1) (h1 : ∀ p ∈ L, p.1 ≠ 2) (hi : i < L.length) : ∃ ls', storeLocals ls i v = some ls' ∧ gHas w ls' (L.set i (1, 0)) := by
  obtain ⟨hs, hwf, hl⟩ := h
  obtain ⟨ls', e, h2⟩ := lv_store1 (ls := ls) (nL := L.length) (l := (L.zipIdx.filter fun (p : (Nat × Int) × Nat) => decide (p.1.1 ≠ 1)).map fun (p : (Nat × Int) × Nat) => (p.2, gvl w p.1)) (i := i) (v := v) ⟨hs, hwf, fun p hp => by
    obtain ⟨⟨⟨t, z⟩, j⟩, h3, rfl⟩ := List.mem_map.mp hp
    obtain ⟨h4, h5⟩ := List.mem_filter.mp h3
    have h6 := List.mem_zipIdx' h4
    refine hl j (t, z) ?_ (by simpa using h5)
    rw [List.getElem?_eq_getElem h6.1]
    exact congrArg some h6.2.symm⟩ hi hv
  obtain ⟨k1, k2, k3⟩ := h2
  refine ⟨ls', e, by rw [k1, List.length_set], k2, fun j p hj hp => ?_⟩
  by_cases hij : j = i
  · subst hij
    rw [List.getElem?_set_self hi] at hj
    cases hj
    exact absurd rfl hp
  · rw [List.getElem?_set_ne (Ne.symm hij)] at hj
    refine k3 (j, gvl w p) (List.mem_cons_of_mem _ (List.mem_filter.mpr ⟨List.mem_map.mpr ⟨(p, j), List.mem_filter.mpr ⟨?_, by simpa using hp⟩, rfl⟩, ?_⟩))
    · exact List.mem_zipIdx_iff_getElem?.mpr hj
    · have : (gvl w p).category = 1 := gvl_c1 w (h1 p (List.mem_of_getElem? hj))
      simp [hij, this]
def gMetH (l : Launch) (w : gW) (bs : Nat) (y : MethodName) (cy : ByteArray) (nL : Nat) (ret : Option FieldType) (hh : List (Nat × Nat × Nat × Nat)) (lev mc : Nat) (av : List (Nat × Int)) (S : gS) (rv : Option (Nat × Int)) (S' : gS) : Prop :=
  vx_Met l y (.codeWith y cy nL ret hh :: gB) (gRm lev mc) (gP w bs S av) (gQ w bs 0 rv S') (gXc w bs 0 S') mc (6 * mc) (fun q => bs ≤ q)
def gEndH : gX → Launch → gW → Nat → Nat → Option FieldType → List (Nat × Nat × Nat × Nat) → Option (Nat × Int) → gS → Prop := fun (p, l, e, R, s, m, args, below, meth, c, Q, w, bs) l0 w0 bs0 mc ret hh rv S' =>
  l = l0 ∧ w = w0 ∧ bs = bs0 ∧ meth.sig.returnType = ret ∧ c.exceptionTable.toList = tableOf hh ∧ Q = vx_MQ below (gQ w bs 0 rv S') (gXc w bs 0 S') args s mc (6 * mc) (fun q => bs ≤ q)
theorem g_startH {l : Launch} {w : gW} {bs : Nat} {y : MethodName} {cy : ByteArray} {nL : Nat} {ret : Option FieldType} {hh : List (Nat × Nat × Nat × Nat)} {lev mc : Nat} {av : List (Nat × Int)} {S : gS} {rv : Option (Nat × Int)} {S' : gS} (hl : l.stackTraces = false) (hy : plainName y.cls = true) (hn : av.length ≤ nL) (hc : gNo2 av = true)
    (body : ∀ X : gX, gOk X y.cls cy nL lev mc (6 * mc) → gEndH X l w bs mc ret hh rv S' → G X 0 0 0 (av ++ List.replicate (nL - av.length) (1, 0)) [] S) : gMetH l w bs y cy nL ret hh lev mc av S rv S' := by
  refine vx_ofWH (cc := cy) (maxL := nL) (ret := ret) (hh := hh) hy rfl ?_
  intro p e s m args below meth c s₁ B hml hv
  obtain ⟨rfl, hW, hE, hSt⟩ := hv
  have hts := atoms_spec (ws := Cond.codeWith y cy nL ret hh :: gB) B.pre
  have htab : c.exceptionTable.toList = tableOf hh := vx_table (x := y) B (hts _ List.mem_cons_self)
  have h := body (p, l, e, gRm lev mc, s, m, ((av.map (gvl w)).toArray), below, meth, c, _, w, bs)
    ⟨B.exec, B.bytes, hml, findClass_of_methodNamed B.named, fun w hw => hts w (List.mem_cons_of_mem _ hw), B.notSynchronized, hE, Nat.le_refl _, Nat.le_refl _, rfl, rfl, hl, hSt⟩
    ⟨rfl, rfl, rfl, B.returns, htab, rfl⟩
  rw [lg_entry_eq]
  exact h s.heap [] _ hW va_S.rf (g_entry hn (gNo2_of hc))
/-- an exception of class gXn x is on its way, at pc -/
def gXW : gX → Nat → Nat → Nat → List (Nat × Int) → gS → Nat → Prop := fun (p, l, e, R, s, m, args, below, meth, c, Q, w, bs) kc ks pc L S x =>
  ∀ (H : Heap) (locs : List Loc) (ls : Array Slot) (rest : List Value) (ce : Cell) (q : Addr), gWd w S H → va_S (fun q => bs ≤ q) s.heap H locs → gHas w ls L → H[q]? = some ce → ce.vm = .none → s.vm.findClass (gXn x) = some ce.cls → vx_W p l e R s m args below meth c H locs kc ks Q (F0 m pc ls rest) q
section GH
variable {X : gX} {own : String} {cc : ByteArray} {nL lev rc rs kc ks : Nat} {L st : List (Nat × Int)} {S S' : gS} {l : Launch} {w : gW} {bs mc : Nat} {ret : Option FieldType} {hh : List (Nat × Nat × Nat × Nat)} {rv0 : Option (Nat × Int)} {S0 : gS}
theorem g_iretH (h : gOk X own cc nL lev rc rs) (pc : Nat) {z : Int} (hd : decode cc pc = .ok (.ireturn, 1)) (hE : gEndH X l w bs mc ret hh (some (0, z)) S) (hr : ret = some .int) (hk : kc ≤ mc ∧ ks ≤ 6 * mc) : G X kc ks pc L [(0, z)] S := by
  obtain ⟨p, l, e, R, s, m, args, below, meth, c, Q, w, bs⟩ := X
  obtain ⟨hx, hb, hml, hown, hts, hlk, hEn, hfr, hlo, hrc, hrs, hst⟩ := h
  obtain ⟨rfl, rfl, rfl, hret, htab, rfl⟩ := hE
  intro H locs ls hW hS hL
  refine W.widen hk.1 hk.2 (vx_ret ?_)
  exact W.zret (ty := .int) hx hb (hret.trans hr) rfl (fun t ht hWm => ⟨rfl, rfl, by rw [ht]; exact hW, hS.F ht⟩) hS.2.2 hd hlk
theorem g_callVH (h : gOk X own cc nL lev rc rs) (hE : gEndH X l w bs mc ret hh rv0 S0) (pc : Nat) {idx k n nLy levy mcy x : Nat} {y : MethodName} {cy : ByteArray} {rety : Option FieldType} {z : Int} {as stk : List (Nat × Int)} {rv : Option (Nat × Int)}
    (hd : decode cc pc = .ok (.invokevirtual idx, 3)) (hM : gMet l w bs y cy nLy rety levy mcy ((k + 3, z) :: as) S x rv S') (hw : gMw y cy nLy rety n true) (hl : Cond.methodLink own idx y ∈ gB) (k9 : k < 9) (hz : 0 ≤ z ∧ z < gN k) (hC : (vwCl[k]?).map (fun q => q.1) = some y.cls) (hlev : levy + 1 ≤ lev) (hn : as.length = n) (hst4 : st.length ≤ 4) (hcell : kc + mcy ≤ rc ∧ ks + 6 * mcy ≤ rs) (hstk : as.reverse ++ (k + 3, z) :: st = stk) (hnL : L.length = nL)
    (Kx : x ≠ 0 → gXW X (kc + mcy) (ks + 6 * mcy) pc L S' x)
    (K : x = 0 → G X (kc + mcy) (ks + 6 * mcy) (pc + 3) L (rv.toList ++ st) S') : G X kc ks pc L stk S := by
  subst hstk
  obtain ⟨p, l', e, R, s, m, args, below, meth, c, Q, w', bs'⟩ := X
  obtain ⟨hx, hb, hml, hown, hts, hlk, hEn, hfr, hlo, hrc, hrs, hst⟩ := h
  obtain ⟨rfl, rfl, rfl, hret, htab, rfl⟩ := hE
  obtain ⟨w1, w2, w3, w4, w5⟩ := hw
  rw [if_pos rfl] at w5
  intro H locs ls hW hS hL T hT X9
  have hzi : gIn k z := ⟨by omega, hz⟩
  obtain ⟨qC, hqC⟩ : ∃ qC, vwCl[k]? = some qC := by
    cases hh : vwCl[k]? with
    | none => rw [hh] at hC; cases hC
    | some qC => exact ⟨qC, rfl⟩
  have hCe : qC.1 = y.cls := by rw [hqC] at hC; exact Option.some.inj hC
  have hrecv := va_recv (ws := [(w'.2.1 k z, _)]) hEn.1 (gP1 hW hzi (gCell_o k9)) (ci := k) (q0 := 0) hqC rfl
  rw [hCe] at hrecv
  have hG : GoodIn gB (wsV own idx y.cls y (gWs y cy nLy rety)) := gB_in (by
    intro v hv
    simp only [wsV, gWs, List.cons_append, List.nil_append, List.mem_cons] at hv
    rcases hv with rfl | rfl | rfl | rfl | rfl | hv
    · exact hl
    · exact w5.1
    · exact w5.2
    · exact w2
    · exact w1
    · exact hv)
  have hr := vx_runV (As := as.map (gvl w')) (rest := st.map (gvl w')) (b := w'.2.1 k z) (g := F0 m pc ls ((as.reverse ++ (k + 3, z) :: st).map (gvl w'))) (cells := kc) (slots := ks) (R := R) (l := l') (e := e) (below := below) (meth := meth) (H := H) (locs := locs) ⟨hx, hb, hml, hown, hts⟩ hM (cwV n hts hG rfl rfl rfl ⟨rfl, w3⟩ ⟨by show levy + 1 ≤ R.frames; omega, by
      show 8 + (nLy + 11) + 40 * levy ≤ R.locals
      omega⟩)
    ⟨gP_blind, hrecv, fun U hU hWm => ⟨by rw [List.map_cons, gvl_ref hz.1], by rw [hU]; exact hW, gEnv_at hEn hS hU hWm, hst.2.warm hWm⟩⟩ rfl (by rw [List.length_map]; exact hn) (gSz hL hnL) (by
      show (as.reverse ++ (k + 3, z) :: st).map (gvl w') = _
      rw [List.map_append, List.map_reverse, List.map_cons, gvl_ref hz.1]) (lv_room (by have := gvl_sum w' st; omega)) hd ⟨by rw [hrc]; exact hcell.1, by rw [hrs]; exact hcell.2⟩
  rcases hr T hT X9 with ⟨v, st₀, t, T', L', h0, X', hLf, e1, e2, ⟨hx0, hv, hw', hF⟩, stp⟩ | ⟨q, st₀, t, T', L', E, ce, h0, X', hLf, e1, e2, ⟨hx0, hEx, hw', hF⟩, hce, hcv, hcl, stp⟩
  · cases hv
    obtain ⟨k1, k2, k3⟩ := vx_keep h0 e1 hS (fun q _ h => h) (fun q h => h) hLf hF
    obtain ⟨t2, a1, b1⟩ := K hx0 T'.heap (locs ++ L') ls (by rw [e1]; exact hw') k3 hL T' rfl X'
    refine ⟨t2, stp t2 ?_, b1⟩
    rw [List.map_append] at a1
    cases rv <;> exact a1
  · obtain ⟨k1, k2, k3⟩ := vx_keep h0 e1 hS (fun q _ h => h) (fun q h => h) hLf hF
    subst hEx
    obtain ⟨t2, a1, b1⟩ := Kx hx0 T'.heap (locs ++ L') ls (st.map (gvl w')) ce q (by rw [e1]; exact hw') k3 hL (by rw [e1]; exact hce) hcv hcl T' rfl X'
    exact ⟨t2, stp.trans a1, b1⟩
/-- a handler takes it: what it stores is not looked at any more -/
theorem g_catch (h : gOk X own cc nL lev rc rs) (hE : gEndH X l w bs mc ret hh rv0 S0) (pc x n : Nat) (hxn : x = n) (pre : List ExceptionTableEntry) (x9 : ExceptionTableEntry) (suf : List ExceptionTableEntry) (hsplit : tableOf hh = pre ++ x9 :: suf) (hpass : ∀ z ∈ pre, z.catchType ≠ 0 ∧ ∃ nm : String, Cond.classLink own z.catchType nm ∈ gB ∧ (gXn n, nm) ∈ gNots) (hcov : covers x9 pc = true) (h0 : x9.catchType ≠ 0) (hlink : Cond.classLink own x9.catchType (gXn n) ∈ gB) (hcast : (gXn n, gXn n) ∈ gCasts)
    {i len : Nat} (hd : (∃ k : Fin 4, (k : Nat) = i ∧ len = 1 ∧ decode cc x9.handlerPc = .ok (.astore_n k, 1)) ∨ (len = 2 ∧ decode cc x9.handlerPc = .ok (.astore i, 2))) (hn : i < L.length) (h2 : gNo2 L = true) {L' : List (Nat × Int)} (hl : L.set i (1, 0) = L') (K : G X kc ks (x9.handlerPc + len) L' [] S) : gXW X kc ks pc L S x := by
  subst hxn
  obtain ⟨p, l', e, R, s, m, args, below, meth, c, Q, w', bs'⟩ := X
  obtain ⟨hx, hb, hml, hown, hts, hlk, hEn, hfr, hlo, hrc, hrs, hst⟩ := h
  obtain ⟨rfl, rfl, rfl, hret, htab, rfl⟩ := hE
  intro H locs ls rest ce q hW hS hL hce hcv hcl
  refine vx_catch hown pre x9 suf (htab.trans hsplit) (fun z hz => Or.inr ?_) hcov h0 (hts _ hlink) (va_tabs rfl rfl (hst.2.2.2.2.1 _ hcast)) hce hcv hcl ?_
  · obtain ⟨a, nm, b, c9⟩ := hpass z hz
    exact ⟨a, nm, hts _ b, hst.2.2.2.2.2 _ c9⟩
  · obtain ⟨ls', e', h'⟩ := gHas_junk (v := .ref q) hL rfl (gNo2_of h2) hn
    rw [hl] at h'
    have kk := K H locs ls' hW hS h'
    intro T hT X
    obtain ⟨t9, a, b⟩ := kk T hT X
    refine ⟨t9, ?_, b⟩
    rcases hd with ⟨k, hk, rfl, hd⟩ | ⟨rfl, hd⟩
    · subst hk
      jvm_step X.here [X.here.top, ↓top_set X.here.top, hx, hb, hd, e', Value.isRef]
      exact a
    · jvm_step X.here [X.here.top, ↓top_set X.here.top, hx, hb, hd, e', Value.isRef]
      exact a
theorem g_i2l (h : gOk X own cc nL lev rc rs) (pc : Nat) {z : Int} (hd : decode cc pc = .ok (.i2l, 1)) (hz : gR z) (k : G X kc ks (pc + 1) L ((2, z) :: st) S) : G X kc ks pc L ((0, z) :: st) S := by
  obtain ⟨p, l, e, R, s, m, args, below, meth, c, Q, w, bs⟩ := X
  obtain ⟨hx, hb, hml, hown, hts, hlk, hEn, hfr, hlo, hrc, hrs, hst⟩ := h
  intro H locs ls hW hS hL
  refine lv_i2l hx hb hd ?_ (k H locs ls hW hS hL)
  have e1 : Int32.minValue.toInt = -2147483648 := by decide
  have e2 : Int32.maxValue.toInt = 2147483647 := by decide
  obtain ⟨h1, h2⟩ := hz
  exact Int32.toInt64_ofInt (n := z) (by omega) (by omega)
end GH
