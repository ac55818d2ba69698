/-! calls -/
/-- what the tables say of a method that is called: of an object (vi = true), or static -/
def gMw (y : MethodName) (cy : ByteArray) (nL : Nat) (ret : Option FieldType) (n : Nat) (vi : Bool) : Prop :=
  Cond.code y cy nL ret ∈ gB ∧ Cond.initialized y.cls ∈ gB ∧ (y.cls ≠ "java/lang/invoke/MethodHandle" ∧ y.cls ≠ "java/lang/invoke/VarHandle" ∧ (parseMethodDescriptor y.desc).map (fun d => d.parameters.length) = some n) ∧ nL ≤ 21 ∧
  (if vi then Cond.instanceMethod y ∈ gB ∧ Cond.selects y.cls y y ∈ gB else Cond.static y ∈ gB)
theorem gSz {w : gW} {ls : Array Slot} {L : List (Nat × Int)} {nL : Nat} (h : gHas w ls L) (hn : L.length = nL) : ls.size = nL := h.1.trans hn
section GC
variable {X : gX} {own : String} {cc : ByteArray} {nL lev rc rs kc ks : Nat} {L st : List (Nat × Int)} {S S' : gS} {l : Launch} {w : gW} {bs mc : Nat} {ret : Option FieldType} {x0 : Nat} {rv0 : Option (Nat × Int)} {S0 : gS}
/-- where an exception that a callee throws goes on, with nothing here to catch it -/
theorem g_out {p : Program} {l : Launch} {e : Env} {R : Room} {s : State} {m : MethodId} {args : Array Value} {below : List Frame} {meth : Method} {c : Code} {H : Heap} {locs : List Loc} {w : gW} {bs x mc kc ks pc : Nat} {ls : Array Slot} {st : List Value} {rv : Option (Nat × Int)} {S' : gS} {E : String} {ce : Cell} {q : Addr}
    (htab : ∀ z ∈ c.exceptionTable.toList, False) (hlk : meth.locks = false) (hx0 : x ≠ 0) (hEx : E = gXn x) (hW : gWd w S' H) (hS : va_S (fun q => bs ≤ q) s.heap H locs) (hce : H[q]? = some ce) (hcv : ce.vm = .none) (hcl : s.vm.findClass E = some ce.cls) (hk : kc ≤ mc ∧ ks ≤ 6 * mc) :
    vx_W p l e R s m args below meth c H locs kc ks (vx_MQ below (gQ w bs x rv S') (gXc w bs x S') args s mc (6 * mc) (fun q => bs ≤ q)) (F0 m pc ls st) q :=
  vx_out (fun z hz => (htab z hz).elim) hlk hce hcv hcl (fun t ht hvm => ⟨hx0, hEx, by rw [ht]; exact hW, hS.F ht⟩) hS.2.2 hk.1 hk.2
theorem gEnv_at {w : gW} {bs : Nat} {s U : State} {H : Heap} {locs : List Loc} (hE : gEnv w bs s s.heap) (hS : va_S (fun q => bs ≤ q) s.heap H locs) (hU : U.heap = H) (hW : s.WarmedH U.vm) : gEnv w bs U U.heap := by
  rw [hU]
  exact hE.moved hW.alike hS.1 (fun a h1 h2 => hS.2.1 a h1 h2)
theorem g_callVX (h : gOk X own cc nL lev rc rs) (hE : gEnd X l w bs mc ret x0 rv0 S0) (pc : Nat) {idx k n nLy levy mcy x : Nat} {y : MethodName} {cy : ByteArray} {rety : Option FieldType} {z : Int} {as stk : List (Nat × Int)} {rv : Option (Nat × Int)}
    (hd : decode cc pc = .ok (.invokevirtual idx, 3)) (hM : gMet l w bs y cy nLy rety levy mcy ((k + 3, z) :: as) S x rv S') (hw : gMw y cy nLy rety n true) (hl : Cond.methodLink own idx y ∈ gB) (k9 : k < 9) (hz : 0 ≤ z ∧ z < gN k) (hC : (vwCl[k]?).map (fun q => q.1) = some y.cls) (hlev : levy + 1 ≤ lev) (hn : as.length = n) (hst4 : st.length ≤ 4) (hcell : kc + mcy ≤ rc ∧ ks + 6 * mcy ≤ rs) (hstk : as.reverse ++ (k + 3, z) :: st = stk) (hnL : L.length = nL)
    (Kx : x ≠ 0 → x = x0 ∧ S' = S0 ∧ kc + mcy ≤ mc ∧ ks + 6 * mcy ≤ 6 * mc)
    (K : x = 0 → G X (kc + mcy) (ks + 6 * mcy) (pc + 3) L (rv.toList ++ st) S') : G X kc ks pc L stk S := by
  subst hstk
  obtain ⟨p, l', e, R, s, m, args, below, meth, c, Q, w', bs'⟩ := X
  obtain ⟨hx, hb, hml, hown, hts, hlk, hEn, hfr, hlo, hrc, hrs, hst⟩ := h
  obtain ⟨rfl, rfl, rfl, hret, htab, rfl⟩ := hE
  obtain ⟨w1, w2, w3, w4, w5⟩ := hw
  rw [if_pos rfl] at w5
  intro H locs ls hW hS hL T hT X9
  have hzi : gIn k z := ⟨by omega, hz⟩
  obtain ⟨qC, hqC⟩ : ∃ qC, vwCl[k]? = some qC := by
    cases hh : vwCl[k]? with
    | none => rw [hh] at hC; cases hC
    | some qC => exact ⟨qC, rfl⟩
  have hCe : qC.1 = y.cls := by rw [hqC] at hC; exact Option.some.inj hC
  have hrecv := va_recv (ws := [(w'.2.1 k z, _)]) hEn.1 (gP1 hW hzi (gCell_o k9)) (ci := k) (q0 := 0) hqC rfl
  rw [hCe] at hrecv
  have hG : GoodIn gB (wsV own idx y.cls y (gWs y cy nLy rety)) := gB_in (by
    intro v hv
    simp only [wsV, gWs, List.cons_append, List.nil_append, List.mem_cons] at hv
    rcases hv with rfl | rfl | rfl | rfl | rfl | hv
    · exact hl
    · exact w5.1
    · exact w5.2
    · exact w2
    · exact w1
    · exact hv)
  have hr := vx_runV (As := as.map (gvl w')) (rest := st.map (gvl w')) (b := w'.2.1 k z) (g := F0 m pc ls ((as.reverse ++ (k + 3, z) :: st).map (gvl w'))) (cells := kc) (slots := ks) (R := R) (l := l') (e := e) (below := below) (meth := meth) (H := H) (locs := locs) ⟨hx, hb, hml, hown, hts⟩ hM (cwV n hts hG rfl rfl rfl ⟨rfl, w3⟩ ⟨by show levy + 1 ≤ R.frames; omega, by
      show 8 + (nLy + 11) + 40 * levy ≤ R.locals
      omega⟩)
    ⟨gP_blind, hrecv, fun U hU hWm => ⟨by rw [List.map_cons, gvl_ref hz.1], by rw [hU]; exact hW, gEnv_at hEn hS hU hWm, hst.2.warm hWm⟩⟩ rfl (by rw [List.length_map]; exact hn) (gSz hL hnL) (by
      show (as.reverse ++ (k + 3, z) :: st).map (gvl w') = _
      rw [List.map_append, List.map_reverse, List.map_cons, gvl_ref hz.1]) (lv_room (by have := gvl_sum w' st; omega)) hd ⟨by rw [hrc]; exact hcell.1, by rw [hrs]; exact hcell.2⟩
  rcases hr T hT X9 with ⟨v, st₀, t, T', L', h0, X', hLf, e1, e2, ⟨hx0, hv, hw', hF⟩, stp⟩ | ⟨q, st₀, t, T', L', E, ce, h0, X', hLf, e1, e2, ⟨hx0, hEx, hw', hF⟩, hce, hcv, hcl, stp⟩
  · cases hv
    obtain ⟨k1, k2, k3⟩ := vx_keep h0 e1 hS (fun q _ h => h) (fun q h => h) hLf hF
    obtain ⟨t2, a1, b1⟩ := K hx0 T'.heap (locs ++ L') ls (by rw [e1]; exact hw') k3 hL T' rfl X'
    refine ⟨t2, stp t2 ?_, b1⟩
    rw [List.map_append] at a1
    cases rv <;> exact a1
  · obtain ⟨k1, k2, k3⟩ := vx_keep h0 e1 hS (fun q _ h => h) (fun q h => h) hLf hF
    obtain ⟨rfl, rfl, c1, c2⟩ := Kx hx0
    obtain ⟨t2, a1, b1⟩ := g_out (rv := rv0) (st := st.map (gvl w')) (pc := pc) (ls := ls) htab hlk hx0 hEx (by rw [e1]; exact hw') k3 (by rw [e1]; exact hce) hcv hcl ⟨c1, c2⟩ T' rfl X'
    exact ⟨t2, stp.trans a1, b1⟩
theorem g_callSX (h : gOk X own cc nL lev rc rs) (hE : gEnd X l w bs mc ret x0 rv0 S0) (pc : Nat) {idx n nLy levy mcy x : Nat} {y : MethodName} {cy : ByteArray} {rety : Option FieldType} {as stk : List (Nat × Int)} {rv : Option (Nat × Int)}
    (hd : decode cc pc = .ok (.invokestatic idx, 3)) (hM : gMet l w bs y cy nLy rety levy mcy as S x rv S') (hw : gMw y cy nLy rety n false) (hl : Cond.methodLink own idx y ∈ gB) (hC : y.cls = own) (hlev : levy + 1 ≤ lev) (hn : as.length = n) (hst4 : st.length ≤ 4) (hcell : kc + mcy ≤ rc ∧ ks + 6 * mcy ≤ rs) (hstk : as.reverse ++ st = stk) (hnL : L.length = nL)
    (Kx : x ≠ 0 → x = x0 ∧ S' = S0 ∧ kc + mcy ≤ mc ∧ ks + 6 * mcy ≤ 6 * mc)
    (K : x = 0 → G X (kc + mcy) (ks + 6 * mcy) (pc + 3) L (rv.toList ++ st) S') : G X kc ks pc L stk S := by
  subst hstk
  obtain ⟨p, l', e, R, s, m, args, below, meth, c, Q, w', bs'⟩ := X
  obtain ⟨hx, hb, hml, hown, hts, hlk, hEn, hfr, hlo, hrc, hrs, hst⟩ := h
  obtain ⟨rfl, rfl, rfl, hret, htab, rfl⟩ := hE
  obtain ⟨w1, w2, w3, w4, w5⟩ := hw
  rw [if_neg (by decide)] at w5
  intro H locs ls hW hS hL T hT X9
  have hG : GoodIn gB (wsS own idx y (gWs y cy nLy rety)) := gB_in (by
    intro v hv
    simp only [wsS, gWs, List.cons_append, List.nil_append, List.mem_cons] at hv
    rcases hv with rfl | rfl | rfl | rfl | hv
    · exact hl
    · exact w5
    · rw [← hC]; exact w2
    · exact w1
    · exact hv)
  have hr := vx_runS (As := as.map (gvl w')) (rest := st.map (gvl w')) (g := F0 m pc ls ((as.reverse ++ st).map (gvl w'))) (cells := kc) (slots := ks) (R := R) (l := l') (e := e) (below := below) (meth := meth) (H := H) (locs := locs) ⟨hx, hb, hml, hown, hts⟩ hM (cwS n hts hG rfl rfl rfl ⟨hC, w3⟩ ⟨by show levy + 1 ≤ R.frames; omega, by
      show 8 + (nLy + 11) + 40 * levy ≤ R.locals
      omega⟩)
    ⟨gP_blind, fun U hU hWm => ⟨rfl, by rw [hU]; exact hW, gEnv_at hEn hS hU hWm, hst.2.warm hWm⟩⟩ rfl (by rw [List.length_map]; exact hn) (gSz hL hnL) (by
      show (as.reverse ++ st).map (gvl w') = _
      rw [List.map_append, List.map_reverse]) (lv_room (by have := gvl_sum w' st; omega)) hd ⟨by rw [hrc]; exact hcell.1, by rw [hrs]; exact hcell.2⟩
  rcases hr T hT X9 with ⟨v, st₀, t, T', L', h0, X', hLf, e1, e2, ⟨hx0, hv, hw', hF⟩, stp⟩ | ⟨q, st₀, t, T', L', E, ce, h0, X', hLf, e1, e2, ⟨hx0, hEx, hw', hF⟩, hce, hcv, hcl, stp⟩
  · cases hv
    obtain ⟨k1, k2, k3⟩ := vx_keep h0 e1 hS (fun q _ h => h) (fun q h => h) hLf hF
    obtain ⟨t2, a1, b1⟩ := K hx0 T'.heap (locs ++ L') ls (by rw [e1]; exact hw') k3 hL T' rfl X'
    refine ⟨t2, stp t2 ?_, b1⟩
    rw [List.map_append] at a1
    cases rv <;> exact a1
  · obtain ⟨k1, k2, k3⟩ := vx_keep h0 e1 hS (fun q _ h => h) (fun q h => h) hLf hF
    obtain ⟨rfl, rfl, c1, c2⟩ := Kx hx0
    obtain ⟨t2, a1, b1⟩ := g_out (rv := rv0) (st := st.map (gvl w')) (pc := pc) (ls := ls) htab hlk hx0 hEx (by rw [e1]; exact hw') k3 (by rw [e1]; exact hce) hcv hcl ⟨c1, c2⟩ T' rfl X'
    exact ⟨t2, stp.trans a1, b1⟩
/-- a call that doesn't throw, within a method without exceptions -/
theorem g_callV (h : gOk X own cc nL lev rc rs) (hE : gEnd X l w bs mc ret x0 rv0 S0) (pc : Nat) {idx k n nLy levy : Nat} {y : MethodName} {cy : ByteArray} {rety : Option FieldType} {z : Int} {as stk : List (Nat × Int)} {rv : Option (Nat × Int)}
    (hd : decode cc pc = .ok (.invokevirtual idx, 3)) (hM : gMet l w bs y cy nLy rety levy 0 ((k + 3, z) :: as) S 0 rv S') (hw : gMw y cy nLy rety n true) (hl : Cond.methodLink own idx y ∈ gB) (k9 : k < 9) (hz : 0 ≤ z ∧ z < gN k) (hC : (vwCl[k]?).map (fun q => q.1) = some y.cls) (hlev : levy + 1 ≤ lev) (hn : as.length = n) (hst4 : st.length ≤ 4) (hcell : kc ≤ rc ∧ ks ≤ rs) (hstk : as.reverse ++ (k + 3, z) :: st = stk) (hnL : L.length = nL)
    (K : G X kc ks (pc + 3) L (rv.toList ++ st) S') : G X kc ks pc L stk S :=
  g_callVX h hE pc hd hM hw hl k9 hz hC hlev hn hst4 hcell hstk hnL (fun q => absurd rfl q) (fun _ => K)
theorem g_callS (h : gOk X own cc nL lev rc rs) (hE : gEnd X l w bs mc ret x0 rv0 S0) (pc : Nat) {idx n nLy levy : Nat} {y : MethodName} {cy : ByteArray} {rety : Option FieldType} {as stk : List (Nat × Int)} {rv : Option (Nat × Int)}
    (hd : decode cc pc = .ok (.invokestatic idx, 3)) (hM : gMet l w bs y cy nLy rety levy 0 as S 0 rv S') (hw : gMw y cy nLy rety n false) (hl : Cond.methodLink own idx y ∈ gB) (hC : y.cls = own) (hlev : levy + 1 ≤ lev) (hn : as.length = n) (hst4 : st.length ≤ 4) (hcell : kc ≤ rc ∧ ks ≤ rs) (hstk : as.reverse ++ st = stk) (hnL : L.length = nL)
    (K : G X kc ks (pc + 3) L (rv.toList ++ st) S') : G X kc ks pc L stk S :=
  g_callSX h hE pc hd hM hw hl hC hlev hn hst4 hcell hstk hnL (fun q => absurd rfl q) (fun _ => K)
end GC
/-! the pieces of the functions that say what a method does -/
def gd {β : Type} (p : Prop) [Decidable p] (x : Option β) : Option β := if p then x else none
def bn {α β : Type} (a : α) (f : α → β) : β := f a
def cb {β : Type} (x : Option (Int × S2)) (k : Int → S2 → Option β) : Option β := x.bind fun q => k q.1 q.2
theorem gd_some {β : Type} {p : Prop} [Decidable p] {x : Option β} {y : β} (h : gd p x = some y) : p ∧ x = some y := by
  unfold gd at h
  split at h
  · exact ⟨by assumption, h⟩
  · cases h
theorem gd_pos {β : Type} {p : Prop} [Decidable p] {x : Option β} (h : p) : gd p x = x := if_pos h
theorem bn_ex {α β : Type} {a : α} {f : α → β} {y : β} (h : bn a f = y) : ∃ z, z = a ∧ f z = y := ⟨a, rfl, h⟩
theorem cb_some {β : Type} {x : Option (Int × S2)} {k : Int → S2 → Option β} {y : β} (h : cb x k = some y) : ∃ r s, x = some (r, s) ∧ k r s = some y := by
  unfold cb at h
  cases hx : x with
  | none => rw [hx] at h; cases h
  | some q => rw [hx] at h; exact ⟨q.1, q.2, rfl, h⟩
theorem cb_eq {β : Type} {x : Option (Int × S2)} {k : Int → S2 → Option β} {r : Int} {s : S2} (h : x = some (r, s)) : cb x k = k r s := by rw [h]; rfl
theorem ite_t {β : Sort _} {p : Prop} [Decidable p] {a b y : β} (hp : p) (h : (if p then a else b) = y) : a = y := by rw [if_pos hp] at h; exact h
theorem ite_f {β : Sort _} {p : Prop} [Decidable p] {a b y : β} (hp : ¬ p) (h : (if p then a else b) = y) : b = y := by rw [if_neg hp] at h; exact h
theorem some_2 {a c : Int} {b d : S2} (h : some (a, b) = some (c, d)) : a = c ∧ b = d := by cases h; exact ⟨rfl, rfl⟩
def gl0 {β : Type} : Nat → ((S2 → Option β) → S2 → Option β) → S2 → Option β
  | 0, _, _ => none
  | n + 1, f, s => f (gl0 n f) s
theorem gl0_0 {β : Type} {f : (S2 → Option β) → S2 → Option β} {s : S2} {y : β} (h : gl0 0 f s = some y) : False := by cases h
theorem gl0_s {β : Type} {n : Nat} {f : (S2 → Option β) → S2 → Option β} {s : S2} {y : Option β} (h : gl0 (n + 1) f s = y) : f (gl0 n f) s = y := h
def gl1 {β : Type} : Nat → ((Int → S2 → Option β) → Int → S2 → Option β) → Int → S2 → Option β
  | 0, _, _, _ => none
  | n + 1, f, x0, s => f (gl1 n f) x0 s
theorem gl1_0 {β : Type} {f : (Int → S2 → Option β) → Int → S2 → Option β} {x0 : Int} {s : S2} {y : β} (h : gl1 0 f x0 s = some y) : False := by cases h
theorem gl1_s {β : Type} {n : Nat} {f : (Int → S2 → Option β) → Int → S2 → Option β} {x0 : Int} {s : S2} {y : Option β} (h : gl1 (n + 1) f x0 s = y) : f (gl1 n f) x0 s = y := h
def gl2 {β : Type} : Nat → ((Int → Int → S2 → Option β) → Int → Int → S2 → Option β) → Int → Int → S2 → Option β
  | 0, _, _, _, _ => none
  | n + 1, f, x0, x1, s => f (gl2 n f) x0 x1 s
theorem gl2_0 {β : Type} {f : (Int → Int → S2 → Option β) → Int → Int → S2 → Option β} {x0 x1 : Int} {s : S2} {y : β} (h : gl2 0 f x0 x1 s = some y) : False := by cases h
theorem gl2_s {β : Type} {n : Nat} {f : (Int → Int → S2 → Option β) → Int → Int → S2 → Option β} {x0 x1 : Int} {s : S2} {y : Option β} (h : gl2 (n + 1) f x0 x1 s = y) : f (gl2 n f) x0 x1 s = y := h
def gl3 {β : Type} : Nat → ((Int → Int → Int → S2 → Option β) → Int → Int → Int → S2 → Option β) → Int → Int → Int → S2 → Option β
  | 0, _, _, _, _, _ => none
  | n + 1, f, x0, x1, x2, s => f (gl3 n f) x0 x1 x2 s
theorem gl3_0 {β : Type} {f : (Int → Int → Int → S2 → Option β) → Int → Int → Int → S2 → Option β} {x0 x1 x2 : Int} {s : S2} {y : β} (h : gl3 0 f x0 x1 x2 s = some y) : False := by cases h
theorem gl3_s {β : Type} {n : Nat} {f : (Int → Int → Int → S2 → Option β) → Int → Int → Int → S2 → Option β} {x0 x1 x2 : Int} {s : S2} {y : Option β} (h : gl3 (n + 1) f x0 x1 x2 s = y) : f (gl3 n f) x0 x1 x2 s = y := h
def gl4 {β : Type} : Nat → ((Int → Int → Int → Int → S2 → Option β) → Int → Int → Int → Int → S2 → Option β) → Int → Int → Int → Int → S2 → Option β
  | 0, _, _, _, _, _, _ => none
  | n + 1, f, x0, x1, x2, x3, s => f (gl4 n f) x0 x1 x2 x3 s
theorem gl4_0 {β : Type} {f : (Int → Int → Int → Int → S2 → Option β) → Int → Int → Int → Int → S2 → Option β} {x0 x1 x2 x3 : Int} {s : S2} {y : β} (h : gl4 0 f x0 x1 x2 x3 s = some y) : False := by cases h
theorem gl4_s {β : Type} {n : Nat} {f : (Int → Int → Int → Int → S2 → Option β) → Int → Int → Int → Int → S2 → Option β} {x0 x1 x2 x3 : Int} {s : S2} {y : Option β} (h : gl4 (n + 1) f x0 x1 x2 x3 s = y) : f (gl4 n f) x0 x1 x2 x3 s = y := h
def gl5 {β : Type} : Nat → ((Int → Int → Int → Int → Int → S2 → Option β) → Int → Int → Int → Int → Int → S2 → Option β) → Int → Int → Int → Int → Int → S2 → Option β
  | 0, _, _, _, _, _, _, _ => none
  | n + 1, f, x0, x1, x2, x3, x4, s => f (gl5 n f) x0 x1 x2 x3 x4 s
theorem gl5_0 {β : Type} {f : (Int → Int → Int → Int → Int → S2 → Option β) → Int → Int → Int → Int → Int → S2 → Option β} {x0 x1 x2 x3 x4 : Int} {s : S2} {y : β} (h : gl5 0 f x0 x1 x2 x3 x4 s = some y) : False := by cases h
theorem gl5_s {β : Type} {n : Nat} {f : (Int → Int → Int → Int → Int → S2 → Option β) → Int → Int → Int → Int → Int → S2 → Option β} {x0 x1 x2 x3 x4 : Int} {s : S2} {y : Option β} (h : gl5 (n + 1) f x0 x1 x2 x3 x4 s = y) : f (gl5 n f) x0 x1 x2 x3 x4 s = y := h
def gl6 {β : Type} : Nat → ((Int → Int → Int → Int → Int → Int → S2 → Option β) → Int → Int → Int → Int → Int → Int → S2 → Option β) → Int → Int → Int → Int → Int → Int → S2 → Option β
  | 0, _, _, _, _, _, _, _, _ => none
  | n + 1, f, x0, x1, x2, x3, x4, x5, s => f (gl6 n f) x0 x1 x2 x3 x4 x5 s
theorem gl6_0 {β : Type} {f : (Int → Int → Int → Int → Int → Int → S2 → Option β) → Int → Int → Int → Int → Int → Int → S2 → Option β} {x0 x1 x2 x3 x4 x5 : Int} {s : S2} {y : β} (h : gl6 0 f x0 x1 x2 x3 x4 x5 s = some y) : False := by cases h
theorem gl6_s {β : Type} {n : Nat} {f : (Int → Int → Int → Int → Int → Int → S2 → Option β) → Int → Int → Int → Int → Int → Int → S2 → Option β} {x0 x1 x2 x3 x4 x5 : Int} {s : S2} {y : Option β} (h : gl6 (n + 1) f x0 x1 x2 x3 x4 x5 s = y) : f (gl6 n f) x0 x1 x2 x3 x4 x5 s = y := h
def gl7 {β : Type} : Nat → ((Int → Int → Int → Int → Int → Int → Int → S2 → Option β) → Int → Int → Int → Int → Int → Int → Int → S2 → Option β) → Int → Int → Int → Int → Int → Int → Int → S2 → Option β
  | 0, _, _, _, _, _, _, _, _, _ => none
  | n + 1, f, x0, x1, x2, x3, x4, x5, x6, s => f (gl7 n f) x0 x1 x2 x3 x4 x5 x6 s
theorem gl7_0 {β : Type} {f : (Int → Int → Int → Int → Int → Int → Int → S2 → Option β) → Int → Int → Int → Int → Int → Int → Int → S2 → Option β} {x0 x1 x2 x3 x4 x5 x6 : Int} {s : S2} {y : β} (h : gl7 0 f x0 x1 x2 x3 x4 x5 x6 s = some y) : False := by cases h
theorem gl7_s {β : Type} {n : Nat} {f : (Int → Int → Int → Int → Int → Int → Int → S2 → Option β) → Int → Int → Int → Int → Int → Int → Int → S2 → Option β} {x0 x1 x2 x3 x4 x5 x6 : Int} {s : S2} {y : Option β} (h : gl7 (n + 1) f x0 x1 x2 x3 x4 x5 x6 s = y) : f (gl7 n f) x0 x1 x2 x3 x4 x5 x6 s = y := h
