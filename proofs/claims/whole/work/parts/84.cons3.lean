/-! constructors: their contracts, their calls -/
def kMw (y : MethodName) (cy : ByteArray) (nL n : Nat) : Prop :=
  Cond.code y cy nL none ∈ gB ∧ Cond.initialized y.cls ∈ gB ∧ (y.cls ≠ "java/lang/invoke/MethodHandle" ∧ y.cls ≠ "java/lang/invoke/VarHandle" ∧ (parseMethodDescriptor y.desc).map (fun d => d.parameters.length) = some n) ∧ nL ≤ 21 ∧ Cond.instanceMethod y ∈ gB ∧ y.name = "<init>"
def kP (w : gW) (bs n : Nat) (f : Nat → va_E) (av : List (Nat × Int)) : Array Value → State → Prop := va_Pc (av.map (gvl w)) (fun U => kH w bs n f U.heap ∧ gEnv w bs U U.heap ∧ gStr U ∧ ∀ C ∈ kObj, va_AO C U)
def kQ (w : gW) (bs n : Nat) (f : Nat → va_E) : Array Value → State → Outcome → State → Prop := va_Qv (fun _ : Unit => True) (fun _ t => kH w bs n f t.heap) (fun q => bs ≤ q)
def kRm (lev mc ms : Nat) : Room := { frames := lev, cells := mc, slots := ms, locals := 40 * lev }
def kMet (l : Launch) (w : gW) (bs : Nat) (y : MethodName) (cy : ByteArray) (nL lev mc ms n : Nat) (f : Nat → va_E) (av : List (Nat × Int)) (n' : Nat) (f' : Nat → va_E) : Prop :=
  Met l y (gWs y cy nL none) (kRm lev mc ms) (kP w bs n f av) (kQ w bs n' f') mc ms (fun q => bs ≤ q)
def kEnd : gX → Launch → gW → Nat → Nat → Nat → Nat → (Nat → va_E) → Prop := fun (p, l, e, R, s, m, args, below, meth, c, Q, w, bs) l0 w0 bs0 mc ms n f =>
  l = l0 ∧ w = w0 ∧ bs = bs0 ∧ meth.sig.returnType = none ∧ meth.name = "<init>" ∧ Q = MQ below (kQ w bs n f) args s mc ms (fun q => bs ≤ q) ∧ ∀ C ∈ kObj, va_AO C s
theorem kP_blind {w : gW} {bs n : Nat} {f : Nat → va_E} {av : List (Nat × Int)} : FrameBlind (kP w bs n f av) := fun a U g mk h => ⟨h.1, h.2.1, h.2.2.1.moved (Vm.Alike.refl U.vm) (Nat.le_refl _) (fun _ _ _ => rfl), h.2.2.2.1.same rfl, fun C hC => (h.2.2.2.2 C hC).moved (Vm.Alike.refl U.vm)⟩
theorem kEnd.at {X : gX} {l : Launch} {w : gW} {bs mc ms n : Nat} {f : Nat → va_E} (h : kEnd X l w bs mc ms n f) : kAt X w bs := by
  obtain ⟨p, l', e, R, s, m, args, below, meth, c, Q, w', bs'⟩ := X
  exact ⟨h.2.1, h.2.2.1⟩
theorem kEnd.x {X : gX} {l : Launch} {w : gW} {bs mc ms n : Nat} {f : Nat → va_E} (h : kEnd X l w bs mc ms n f) : gAtX X l w bs := by
  obtain ⟨p, l', e, R, s, m, args, below, meth, c, Q, w', bs'⟩ := X
  exact ⟨h.1, h.2.1, h.2.2.1⟩
theorem kEnd.i {X : gX} {l : Launch} {w : gW} {bs mc ms n : Nat} {f : Nat → va_E} (h : kEnd X l w bs mc ms n f) : kIn X := by
  obtain ⟨p, l', e, R, s, m, args, below, meth, c, Q, w', bs'⟩ := X
  exact h.2.2.2.2.1
theorem kEnd.o {X : gX} {l : Launch} {w : gW} {bs mc ms n : Nat} {f : Nat → va_E} (h : kEnd X l w bs mc ms n f) : kAO X := by
  obtain ⟨p, l', e, R, s, m, args, below, meth, c, Q, w', bs'⟩ := X
  exact h.2.2.2.2.2.2
section KC
variable {X : gX} {own : String} {cc : ByteArray} {nL lev rc rs kc ks : Nat} {L st : List (Nat × Int)} {nn : Nat} {ff : Nat → va_E} {l : Launch} {w : gW} {bs : Nat}
theorem k_call (h : gOk X own cc nL lev rc rs) (hE : gAtX X l w bs) (hO : kAO X) (pc : Nat) {idx k n nLy levy mcy msy n' : Nat} {y : MethodName} {cy : ByteArray} {z : Int} {as stk : List (Nat × Int)} {f' : Nat → va_E}
    (hd : decode cc pc = .ok (.invokespecial idx, 3)) (hM : kMet l w bs y cy nLy levy mcy msy nn ff ((k + 3, z) :: as) n' f') (hw : kMw y cy nLy n) (hl : Cond.methodLink own idx y ∈ gB) (hz : 0 ≤ z) (hlev : levy + 1 ≤ lev) (hn : as.length = n) (hst4 : st.length ≤ 4) (hcell : kc + mcy ≤ rc ∧ ks + msy ≤ rs) (hstk : as.reverse ++ (k + 3, z) :: st = stk) (hnL : L.length = nL)
    (K : KJ X (kc + mcy) (ks + msy) (pc + 3) L st n' f') : KJ X kc ks pc L stk nn ff := by
  subst hstk
  obtain ⟨p, l', e, R, s, m, args, below, meth, c, Q, w', bs'⟩ := X
  obtain ⟨hx, hb, hml, hown, hts, hlk, hEn, hfr, hlo, hrc, hrs, hst⟩ := h
  obtain ⟨rfl, rfl, rfl⟩ := hE
  obtain ⟨w1, w2, w3, w4, w5, w6⟩ := hw
  intro H locs ls hW hS hL
  have hG : GoodIn gB (gWs y cy nLy none) := gB_in (by
    intro v hv
    rcases List.mem_cons.mp hv with rfl | hv
    · exact w1
    · exact hv)
  refine va_callv (va_runI (As := as.map (gvl w')) (rest := st.map (gvl w')) (b := w'.2.1 k z) ⟨hx, hb, hml, hown, hts⟩ hM (cwI n hts hG rfl rfl rfl (hts _ w2) (hts _ hl) (hts _ w5) w6 w3 ⟨by show levy + 1 ≤ R.frames; omega, by
      show 8 + (nLy + 11) + 40 * levy ≤ R.locals
      omega⟩)
    ⟨kP_blind, fun U hU hWm => ⟨by rw [List.map_cons, gvl_ref hz], by rw [hU]; exact hW, gEnv_at hEn hS hU hWm, hst.2.warm hWm, fun C hC => (hO C hC).moved hWm.alike⟩⟩ rfl (by rw [List.length_map]; exact hn) (gSz hL hnL) (by
      show (as.reverse ++ (k + 3, z) :: st).map (gvl w') = _
      rw [List.map_append, List.map_reverse, List.map_cons, gvl_ref hz]) (lv_room (by have := gvl_sum w' st; omega)) hd ⟨by rw [hrc]; exact hcell.1, by rw [hrs]; exact hcell.2⟩) hS (fun q _ h => h) (fun q h => h) (fun u t H1 locs1 ht hvm hp hB hz1 hk1 hS1 => ?_)
  rw [ht] at hB
  exact K H1 locs1 ls hB hS1 hL
theorem k_callN (h : gOk X own cc nL lev rc rs) (hE : gAtX X l w bs) (hO : kAO X) (pc : Nat) {idx k n nLy levy mcy msy n' : Nat} {y : MethodName} {cy : ByteArray} {z : Int} {as stk : List (Nat × Int)} {f' : Nat → va_E} {host : String}
    (hd : decode cc pc = .ok (.invokespecial idx, 3)) (hM : kMet l w bs y cy nLy levy mcy msy nn ff ((k + 3, z) :: as) n' f') (hw : kMw y cy nLy n) (hl : (own, idx, y, host) ∈ gNests) (hz : 0 ≤ z) (hlev : levy + 1 ≤ lev) (hn : as.length = n) (hst4 : st.length ≤ 4) (hcell : kc + mcy ≤ rc ∧ ks + msy ≤ rs) (hstk : as.reverse ++ (k + 3, z) :: st = stk) (hnL : L.length = nL)
    (K : KJ X (kc + mcy) (ks + msy) (pc + 3) L st n' f') : KJ X kc ks pc L stk nn ff := by
  subst hstk
  obtain ⟨p, l', e, R, s, m, args, below, meth, c, Q, w', bs'⟩ := X
  obtain ⟨hx, hb, hml, hown, hts, hlk, hEn, hfr, hlo, hrc, hrs, hst⟩ := h
  obtain ⟨rfl, rfl, rfl⟩ := hE
  obtain ⟨w1, w2, w3, w4, w5, w6⟩ := hw
  intro H locs ls hW hS hL
  have hG : GoodIn gB (gWs y cy nLy none) := gB_in (by
    intro v hv
    rcases List.mem_cons.mp hv with rfl | hv
    · exact w1
    · exact hv)
  refine va_callv (va_runIN (As := as.map (gvl w')) (rest := st.map (gvl w')) (b := w'.2.1 k z) ⟨hx, hb, hml, hown, hts⟩ hM ⟨va_cnB n hts hG rfl rfl rfl (hst.2.2.1 _ hl) (hts _ w2) w3 ⟨by show levy + 1 ≤ R.frames; omega, by
      show 8 + (nLy + 11) + 40 * levy ≤ R.locals
      omega⟩, w6, hts _ w5⟩
    ⟨kP_blind, fun U hU hWm => ⟨by rw [List.map_cons, gvl_ref hz], by rw [hU]; exact hW, gEnv_at hEn hS hU hWm, hst.2.warm hWm, fun C hC => (hO C hC).moved hWm.alike⟩⟩ rfl (by rw [List.length_map]; exact hn) (gSz hL hnL) (by
      show (as.reverse ++ (k + 3, z) :: st).map (gvl w') = _
      rw [List.map_append, List.map_reverse, List.map_cons, gvl_ref hz]) (lv_room (by have := gvl_sum w' st; omega)) hd ⟨by rw [hrc]; exact hcell.1, by rw [hrs]; exact hcell.2⟩) hS (fun q _ h => h) (fun q h => h) (fun u t H1 locs1 ht hvm hp hB hz1 hk1 hS1 => ?_)
  rw [ht] at hB
  exact K H1 locs1 ls hB hS1 hL
theorem k_vret (h : gOk X own cc nL lev rc rs) {mc ms : Nat} (hE : kEnd X l w bs mc ms nn ff) (pc : Nat) (hd : decode cc pc = .ok (.return_, 1)) (hk : kc ≤ mc ∧ ks ≤ ms) : KJ X kc ks pc L [] nn ff := by
  obtain ⟨p, l', e, R, s, m, args, below, meth, c, Q, w', bs'⟩ := X
  obtain ⟨hx, hb, hml, hown, hts, hlk, hEn, hfr, hlo, hrc, hrs, hst⟩ := h
  obtain ⟨rfl, rfl, rfl, hret, -, rfl, -⟩ := hE
  intro H locs ls hW hS hL
  refine W.widen hk.1 hk.2 ?_
  exact W.vret hx hb hret (fun t ht hWm => ⟨⟨(), rfl, trivial, by show kH w' bs' nn ff t.heap; rw [ht]; exact hW⟩, hS.F ht⟩) hS.2.2 hd hlk
end KC
theorem k_start {l : Launch} {w : gW} {bs : Nat} {y : MethodName} {cy : ByteArray} {nL lev mc ms n n' : Nat} {f f' : Nat → va_E} {av : List (Nat × Int)} (hl : l.stackTraces = false) (hy : plainName y.cls = true) (hyn : y.name = "<init>") (hn : av.length ≤ nL) (hc : gNo2 av = true)
    (body : ∀ X : gX, gOk X y.cls cy nL lev mc ms → kEnd X l w bs mc ms n' f' → KJ X 0 0 0 (av ++ List.replicate (nL - av.length) (1, 0)) [] n f) : kMet l w bs y cy nL lev mc ms n f av n' f' := by
  refine Met.ofW (cc := cy) (maxL := nL) (ret := none) hy rfl ?_
  intro p e s m args below meth c s₁ B hml hv
  obtain ⟨rfl, hW, hE, hSt, hAO⟩ := hv
  have hts := atoms_spec (ws := gWs y cy nL none) B.pre
  have h := body (p, l, e, kRm lev mc ms, s, m, ((av.map (gvl w)).toArray), below, meth, c, _, w, bs)
    ⟨B.exec, B.bytes, hml, findClass_of_methodNamed B.named, fun w hw => hts w (List.mem_cons_of_mem _ hw), B.notSynchronized, hE, Nat.le_refl _, Nat.le_refl _, rfl, rfl, hl, hSt⟩
    ⟨rfl, rfl, rfl, B.returns, (name_of_methodNamed B.named B.method).1.trans hyn, rfl, hAO⟩
  rw [lg_entry_eq]
  exact h s.heap [] _ hW va_S.rf (g_entry hn (gNo2_of hc))
/-! where all lies -/
def gOff (k : Nat) (z : Int) : Nat := match k with
  | 0 => 258 + 6 * z.toNat
  | 1 => 32 + 34 * (z.toNat / 32) + z.toNat % 32
  | 2 => 234 + z.toNat
  | 3 => 7 + z.toNat
  | 4 => 4
  | 5 => 30 + 34 * z.toNat
  | 6 => 260 + 6 * (z.toNat / 4) + z.toNat % 4
  | 7 => 0
  | 8 => 270
  | 9 => 1
  | 10 => 2
  | 11 => 3
  | 17 => 31 + 34 * z.toNat
  | 18 => 5
  | 19 => 6
  | 20 => 259 + 6 * z.toNat
  | k => if k ≤ 16 then k + 13 else k + 250
def gInv (j : Nat) : Nat × Int :=
  if j = 0 then (7, 0) else if j < 4 then (j + 8, 0) else if j = 4 then (4, 0) else if j < 7 then (j + 13, 0) else if j < 25 then (3, (j : Int) - 7) else if j < 30 then (j - 13, 0)
  else if j < 234 then (if (j - 30) % 34 = 0 then (5, ((j - 30) / 34 : Nat)) else if (j - 30) % 34 = 1 then (17, ((j - 30) / 34 : Nat)) else (1, ((32 * ((j - 30) / 34) + ((j - 30) % 34 - 2) : Nat) : Int)))
  else if j < 258 then (2, (j : Int) - 234) else if j < 270 then (if (j - 258) % 6 = 0 then (0, ((j - 258) / 6 : Nat)) else if (j - 258) % 6 = 1 then (20, ((j - 258) / 6 : Nat)) else (6, ((4 * ((j - 258) / 6) + ((j - 258) % 6 - 2) : Nat) : Int)))
  else if j = 270 then (8, 0) else (j - 250, 0)
theorem gInv_off {k : Nat} {z : Int} (h : gIn k z) : gInv (gOff k z) = (k, z) ∧ gOff k z < 308 := by
  have hh : (List.range 58).all (fun k => (List.range (gN k).toNat).all (fun z => decide (gInv (gOff k (z : Int)) = (k, (z : Int)) ∧ gOff k (z : Int) < 308))) = true := by decide +kernel
  have h2 := of_decide_eq_true (List.all_eq_true.mp (List.all_eq_true.mp hh k (List.mem_range.mpr h.1)) z.toNat (List.mem_range.mpr (by have := h.2; omega)))
  rw [Int.toNat_of_nonneg h.2.1] at h2
  exact h2
/-- the store of the class and the store of the reference, when made -/
def s0 : S2 := fun f i => match f with
  | 4 => -1
  | 9 => -1
  | 11 => -1
  | 37 => -1
  | 45 => -1
  | 47 => -1
  | 50 => if 0 ≤ i ∧ i ≤ 7 then i else 0
  | _ => 0
def m0 : S2 := fun f i => match f with
  | 110 => -1
  | 132 => -1
  | _ => 0
theorem gTyp_0 : gTyp (s0, m0) := by
  refine ⟨fun f i => ?_, fun f i => ?_⟩
  · show gTy f (s0 f i)
    unfold gTy
    split <;> first | exact trivial | (simp [s0]; done) | (simp only [s0]; split <;> omega)
  · show gTy f (m0 f i)
    unfold gTy
    split <;> first | exact trivial | (simp [m0]; done)
def kLay (w : gW) (bs : Nat) : Prop := ∀ k z, k < 58 → w.2.1 k z = bs + gOff k z
def kF (w : gW) : Nat → va_E := fun j => gCell w (s0, m0) (gInv j).1 (gInv j).2
theorem kF_at {w : gW} {k : Nat} {z : Int} (h : gIn k z) : kF w (gOff k z) = gCell w (s0, m0) k z := by
  unfold kF
  rw [(gInv_off h).1]
theorem kH_end {w : gW} {bs : Nat} {H : Heap} (hl : kLay w bs) (h : kH w bs 308 (kF w) H) : gWd w (s0, m0) H := by
  refine ⟨fun k z hz => ?_, gTyp_0⟩
  have h1 := h.2 _ (gInv_off hz).2
  rw [kF_at hz, ← hl k z hz.1] at h1
  exact h1
theorem kLay.apart {w : gW} {bs : Nat} (hl : kLay w bs) (k : Nat) (z : Int) (k' : Nat) (z' : Int) (h : gIn k z) (h' : gIn k' z') (e : w.2.1 k z = w.2.1 k' z') : k = k' ∧ z = z' := by
  rw [hl k z h.1, hl k' z' h'.1] at e
  have e2 : gOff k z = gOff k' z' := by omega
  have h1 := (gInv_off h).1
  rw [e2, (gInv_off h').1] at h1
  cases h1
  exact ⟨rfl, rfl⟩
