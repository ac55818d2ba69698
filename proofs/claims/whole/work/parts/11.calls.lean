/-! writes into arrays -/
theorem gAE_put {st : S2} {k f : Nat} {z i j v : Int} (hk : k < 58) (h9 : 9 ≤ k) (hf : (gAT k).2.2.1 = f) (hf0 : f ≠ 0) (hz : 0 ≤ z ∧ z < gN k) (hi : 0 ≤ i ∧ i < (gAT k).1) (hj : 0 ≤ j ∧ j < (gAT k).1) :
    gAE (upd2 st f (gIx (gAT k).2.2.2 z i) v) k z j = if j = i then v else gAE st k z j := by
  unfold gAE
  split
  · rename_i e
    exact absurd (hf.symm.trans e) hf0
  · rename_i g e
    have hg : g + 1 = f := e.symm.trans hf
    rw [hg]
    by_cases hji : j = i
    · subst hji
      rw [if_pos rfl, upd2_s]
    · rw [if_neg hji]
      exact upd2_i fun q => hji (gIx_ne hk h9 hz hz hj hi q).2
section GA
variable {X : gX} {own : String} {cc : ByteArray} {nL lev rc rs kc ks : Nat} {L st : List (Nat × Int)} {S : gS}
theorem g_iast (h : gOk X own cc nL lev rc rs) (pc : Nat) {k n f : Nat} {z i v : Int} (hd : decode cc pc = .ok (.iastore, 1)) (h9 : 9 ≤ k ∧ k < 58) (hz : 0 ≤ z ∧ z < gN k) (hn : (gAT k).1 = n) (h0 : (gAT k).2.1 = 0) (hty : ∀ w : gW, (gTys w)[k - 9]? = some (w.2.2 k, .int)) (hf : (gAT k).2.2.1 = f) (hf0 : f ≠ 0) (hi : 0 ≤ i ∧ i < n) (hv : gTy f v)
    (K : G X kc ks (pc + 1) L st (gPut k S f (gIx (gAT k).2.2.2 z i) v)) : G X kc ks pc L ((0, v) :: (0, i) :: (k + 3, z) :: st) S := by
  obtain ⟨p, l, e, R, s, m, args, below, meth, c, Q, w, bs⟩ := X
  obtain ⟨hx, hb, hml, hown, hts, hlk, hE, hfr, hlo, hrc, hrs, hst⟩ := h
  intro H locs ls hW hS hL
  rw [List.map_cons, List.map_cons, List.map_cons, gvl_ref hz.1]
  have hn5 := gTable5 k h9.2
  have hzi : gIn k z := ⟨h9.2, hz⟩
  have hP := g_arr hW h9.1 hzi
  have e0 : ∀ st : S2, gCon w st k z = (n, .inl fun j => if j < n then gi (gAE st k z j) else 0) := by
    intro st; unfold gCon; rw [h0, hn]
  rw [e0] at hP
  have ha := hP 0 _ rfl
  have hin : vp_in (gi i) n := gi_in hi.1 hi.2 (by omega)
  refine W.iast hx hb ha ((hE.1.2 (k - 9) _ (hty w)).1 n (fun j => .int (if j < n then gi (gAE (gSto k S) k z j) else 0))) (fun q => by cases q) (by show ¬ (gi i < 0 ∨ (arrV _ _ _).slots.size ≤ _); rw [arrV_size]; exact hin) rfl rfl hd fun H1 e z1 oq => ?_
  refine K H1 _ ls (gWd_put hW hE (gTyp_put hW.2 hv) hzi ?_ (fun k' z' h' hne => gCell_arr h9.2 h9.1 h'.1 hf hf0 hz (by rw [hn]; exact hi) h'.2 hne) oq) (hS.put z1 oq (hE.2.2.1 k z hzi)) hL
  rw [gCell_a h9.1, e0, gSto_put rfl]
  show H1[_]? = some (vp_cell _ _)
  rw [e, vp_cell_i, vp_cell_i, arrV_store]
  congr 2
  funext q
  rw [gi_cl ⟨by omega, by omega⟩]
  by_cases hq : q = i.toNat
  · subst hq
    rw [if_pos (by omega), gAE_put h9.2 h9.1 hf hf0 hz (by rw [hn]; exact hi) (by rw [hn]; omega), if_pos (by omega)]
    simp [updV]
  · by_cases hqn : q < n
    · rw [if_pos hqn, gAE_put h9.2 h9.1 hf hf0 hz (by rw [hn]; exact hi) (by rw [hn]; omega), if_neg (by omega)]
      simp [updV, hq, hqn]
    · simp [updV, hq, hqn]
theorem g_zast (h : gOk X own cc nL lev rc rs) (pc : Nat) {k n f : Nat} {z i v : Int} (hd : decode cc pc = .ok (.bastore, 1)) (h9 : 9 ≤ k ∧ k < 58) (hz : 0 ≤ z ∧ z < gN k) (hn : (gAT k).1 = n) (h0 : (gAT k).2.1 = 0) (hty : ∀ w : gW, (gTys w)[k - 9]? = some (w.2.2 k, .boolean)) (hf : (gAT k).2.2.1 = f) (hf0 : f ≠ 0) (hi : 0 ≤ i ∧ i < n) (hv : gTy f v) (hb01 : 0 ≤ v ∧ v ≤ 1)
    (K : G X kc ks (pc + 1) L st (gPut k S f (gIx (gAT k).2.2.2 z i) v)) : G X kc ks pc L ((0, v) :: (0, i) :: (k + 3, z) :: st) S := by
  obtain ⟨p, l, e, R, s, m, args, below, meth, c, Q, w, bs⟩ := X
  obtain ⟨hx, hb, hml, hown, hts, hlk, hE, hfr, hlo, hrc, hrs, hst⟩ := h
  intro H locs ls hW hS hL
  rw [List.map_cons, List.map_cons, List.map_cons, gvl_ref hz.1]
  have hn5 := gTable5 k h9.2
  have hzi : gIn k z := ⟨h9.2, hz⟩
  have hP := g_arr hW h9.1 hzi
  have e0 : ∀ st : S2, gCon w st k z = (n, .inl fun j => if j < n then gi (gAE st k z j) else 0) := by
    intro st; unfold gCon; rw [h0, hn]
  rw [e0] at hP
  have ha := hP 0 _ rfl
  have hin : vp_in (gi i) n := gi_in hi.1 hi.2 (by omega)
  have hnar : narrow .boolean (.int (gi v)) = .int (gi v) := by
    rcases (show v = 0 ∨ v = 1 by omega) with rfl | rfl <;> rfl
  refine W.zast hx hb ha ((hE.1.2 (k - 9) _ (hty w)).1 n (fun j => .int (if j < n then gi (gAE (gSto k S) k z j) else 0))) (fun q => by cases q) (by show ¬ (gi i < 0 ∨ (arrV _ _ _).slots.size ≤ _); rw [arrV_size]; exact hin) rfl rfl hd fun H1 e z1 oq => ?_
  rw [hnar] at e
  refine K H1 _ ls (gWd_put hW hE (gTyp_put hW.2 hv) hzi ?_ (fun k' z' h' hne => gCell_arr h9.2 h9.1 h'.1 hf hf0 hz (by rw [hn]; exact hi) h'.2 hne) oq) (hS.put z1 oq (hE.2.2.1 k z hzi)) hL
  rw [gCell_a h9.1, e0, gSto_put rfl]
  show H1[_]? = some (vp_cell _ _)
  rw [e, vp_cell_i, vp_cell_i, arrV_store]
  congr 2
  funext q
  rw [gi_cl ⟨by omega, by omega⟩]
  by_cases hq : q = i.toNat
  · subst hq
    rw [if_pos (by omega), gAE_put h9.2 h9.1 hf hf0 hz (by rw [hn]; exact hi) (by rw [hn]; omega), if_pos (by omega)]
    simp [updV]
  · by_cases hqn : q < n
    · rw [if_pos hqn, gAE_put h9.2 h9.1 hf hf0 hz (by rw [hn]; exact hi) (by rw [hn]; omega), if_neg (by omega)]
      simp [updV, hq, hqn]
    · simp [updV, hq, hqn]
theorem g_last (h : gOk X own cc nL lev rc rs) (pc : Nat) {k n f : Nat} {z i v : Int} (hd : decode cc pc = .ok (.lastore, 1)) (h9 : 9 ≤ k ∧ k < 58) (hz : 0 ≤ z ∧ z < gN k) (hn : (gAT k).1 = n) (h0 : (gAT k).2.1 = 2) (hty : ∀ w : gW, (gTys w)[k - 9]? = some (w.2.2 k, .long)) (hf : (gAT k).2.2.1 = f) (hf0 : f ≠ 0) (hi : 0 ≤ i ∧ i < n) (hv : gTy f v)
    (K : G X kc ks (pc + 1) L st (gPut k S f (gIx (gAT k).2.2.2 z i) v)) : G X kc ks pc L ((2, v) :: (0, i) :: (k + 3, z) :: st) S := by
  obtain ⟨p, l, e, R, s, m, args, below, meth, c, Q, w, bs⟩ := X
  obtain ⟨hx, hb, hml, hown, hts, hlk, hE, hfr, hlo, hrc, hrs, hst⟩ := h
  intro H locs ls hW hS hL
  rw [List.map_cons, List.map_cons, List.map_cons, gvl_ref hz.1]
  have hn5 := gTable5 k h9.2
  have hzi : gIn k z := ⟨h9.2, hz⟩
  have hP := g_arr hW h9.1 hzi
  have e0 : ∀ st : S2, gCon w st k z = (n, .inr (.inl fun j => if j < n then Int64.ofInt (gAE st k z j) else 0)) := by
    intro st; unfold gCon; rw [h0, hn]
  rw [e0] at hP
  have ha := hP 0 _ rfl
  have hin : vp_in (gi i) n := gi_in hi.1 hi.2 (by omega)
  refine W.last hx hb ha ((hE.1.2 (k - 9) _ (hty w)).1 n (fun j => .long (if j < n then Int64.ofInt (gAE (gSto k S) k z j) else 0))) (fun q => by cases q) (by show ¬ (gi i < 0 ∨ (arrV _ _ _).slots.size ≤ _); rw [arrV_size]; exact hin) rfl rfl hd fun H1 e z1 oq => ?_
  refine K H1 _ ls (gWd_put hW hE (gTyp_put hW.2 hv) hzi ?_ (fun k' z' h' hne => gCell_arr h9.2 h9.1 h'.1 hf hf0 hz (by rw [hn]; exact hi) h'.2 hne) oq) (hS.put z1 oq (hE.2.2.1 k z hzi)) hL
  rw [gCell_a h9.1, e0, gSto_put rfl]
  show H1[_]? = some (vp_cell _ _)
  rw [e, vp_cell_l, vp_cell_l, arrV_store]
  congr 2
  funext q
  rw [gi_cl ⟨by omega, by omega⟩]
  by_cases hq : q = i.toNat
  · subst hq
    rw [if_pos (by omega), gAE_put h9.2 h9.1 hf hf0 hz (by rw [hn]; exact hi) (by rw [hn]; omega), if_pos (by omega)]
    simp [updV]
  · by_cases hqn : q < n
    · rw [if_pos hqn, gAE_put h9.2 h9.1 hf hf0 hz (by rw [hn]; exact hi) (by rw [hn]; omega), if_neg (by omega)]
      simp [updV, hq, hqn]
    · simp [updV, hq, hqn]
theorem g_aast (h : gOk X own cc nL lev rc rs) (pc : Nat) {k n f t : Nat} {z i v : Int} {C : String} {T : u_T} {N : Nat} (hd : decode cc pc = .ok (.aastore, 1)) (h9 : 9 ≤ k ∧ k < 58) (hz : 0 ≤ z ∧ z < gN k) (hn : (gAT k).1 = n) (h0 : (gAT k).2.1 = t + 3) (hty : ∀ w : gW, (gTys w)[k - 9]? = some (w.2.2 k, .object C)) (hf : (gAT k).2.2.1 = f) (hf0 : f ≠ 0) (hi : 0 ≤ i ∧ i < n) (hv : gTy f v)
    (ht9 : t < 9) (hvt : 0 ≤ v ∧ v < gN t) (hc : vwCl[t]? = some (C, T, N))
    (K : G X kc ks (pc + 1) L st (gPut k S f (gIx (gAT k).2.2.2 z i) v)) : G X kc ks pc L ((t + 3, v) :: (0, i) :: (k + 3, z) :: st) S := by
  obtain ⟨p, l, e, R, s, m, args, below, meth, c, Q, w, bs⟩ := X
  obtain ⟨hx, hb, hml, hown, hts, hlk, hE, hfr, hlo, hrc, hrs, hst⟩ := h
  intro H locs ls hW hS hL
  rw [List.map_cons, List.map_cons, List.map_cons, gvl_ref hz.1, gvl_ref hvt.1]
  have hn5 := gTable5 k h9.2
  have hzi : gIn k z := ⟨h9.2, hz⟩
  have hP := g_arr hW h9.1 hzi
  have e0 : ∀ st : S2, gCon w st k z = (n, .inr (.inr (.inr (.inr fun j => if j < n ∧ ¬ gAE st k z j < 0 then some (w.2.1 t (gAE st k z j)) else none)))) := by
    intro st; unfold gCon; rw [h0, hn]
  rw [e0] at hP
  have ha := hP 0 _ rfl
  have hin : vp_in (gi i) n := gi_in hi.1 hi.2 (by omega)
  have hlt : (gi i).toNatClampNeg < n := Nat.not_le.mp fun q => hin (Or.inr q)
  have h00 : ¬ gi i < 0 := fun q => hin (Or.inl q)
  have hK := hE.1
  obtain ⟨r', hr', cellV, g1, g2, g3, -⟩ := (gP1 hW (k := t) (z := v) ⟨by omega, hvt⟩ (gCell_o ht9)) 0 _ rfl
  have hcls := (hK.1 t _ hc).2
  obtain ⟨kA, comp, k1, k2, k3, -⟩ := (hK.2 (k - 9) _ (hty w)).2
  have hcomp : comp = w.1.1 t := Option.some.inj (k3.symm.trans hcls.1)
  subst hcomp
  obtain ⟨kC, hkC, -⟩ := hcls.2
  refine W.aast hx hb ha (fun q h => by cases h) (fun h => by cases h) k1 k2 rfl hkC ⟨h00, by show _ < (arrV _ _ _).slots.size; rw [arrV_size]; exact hlt⟩ g1 (fun q h => by rw [g3] at h; cases h) (by rw [g2]; exact hkC) (by rw [g2]; exact va_assign hcls) rfl rfl hd fun H1 e z1 oq => ?_
  refine K H1 _ ls (gWd_put hW hE (gTyp_put hW.2 hv) hzi ?_ (fun k' z' h' hne => gCell_arr h9.2 h9.1 h'.1 hf hf0 hz (by rw [hn]; exact hi) h'.2 hne) oq) (hS.put z1 oq (hE.2.2.1 k z hzi)) hL
  rw [gCell_a h9.1, e0, gSto_put rfl]
  show H1[_]? = some (vp_cell _ _)
  rw [e, vp_cell_q, vp_cell_q, arrV_store]
  congr 2
  funext q
  rw [gi_cl ⟨by omega, by omega⟩]
  by_cases hq : q = i.toNat
  · subst hq
    rw [gAE_put h9.2 h9.1 hf hf0 hz (by rw [hn]; exact hi) (by rw [hn]; omega), if_pos (show ((i.toNat : Int)) = i by omega), if_pos ⟨by omega, by omega⟩]
    simp [updV, va_rf]
  · by_cases hqn : q < n
    · rw [gAE_put h9.2 h9.1 hf hf0 hz (by rw [hn]; exact hi) (by rw [hn]; omega), if_neg (show ¬ ((q : Int)) = i by omega)]
      simp [updV, hq, hqn]
    · simp [updV, hq, hqn]
end GA
/-! contracts: from these arguments and this store the method comes back with this answer (or throws) and this store -/
def gXn (x : Nat) : String := match x with
  | 1 => "java/lang/IndexOutOfBoundsException"
  | 2 => "java/lang/IllegalArgumentException"
  | _ => "java/lang/IllegalStateException"
def gQ (w : gW) (bs x : Nat) (rv : Option (Nat × Int)) (S' : gS) : Array Value → State → Outcome → State → Prop := fun _ st o t => x = 0 ∧ o = .returned (rv.map (gvl w)) ∧ gWd w S' t.heap ∧ va_F (fun q => bs ≤ q) st t
def gXc (w : gW) (bs x : Nat) (S' : gS) : String → State → State → Prop := fun E st t => x ≠ 0 ∧ E = gXn x ∧ gWd w S' t.heap ∧ va_F (fun q => bs ≤ q) st t
def gRm (lev mc : Nat) : Room := { frames := lev, cells := mc, slots := 6 * mc, locals := 40 * lev }
def gP (w : gW) (bs : Nat) (S : gS) (av : List (Nat × Int)) : Array Value → State → Prop := va_Pc (av.map (gvl w)) (fun U => gWd w S U.heap ∧ gEnv w bs U U.heap ∧ gStr U)
def gMet (l : Launch) (w : gW) (bs : Nat) (y : MethodName) (cy : ByteArray) (nL : Nat) (ret : Option FieldType) (lev mc : Nat) (av : List (Nat × Int)) (S : gS) (x : Nat) (rv : Option (Nat × Int)) (S' : gS) : Prop :=
  vx_Met l y (gWs y cy nL ret) (gRm lev mc) (gP w bs S av) (gQ w bs x rv S') (gXc w bs x S') mc (6 * mc) (fun q => bs ≤ q)
/-- what a body owes at its end -/
def gEnd : gX → Launch → gW → Nat → Nat → Option FieldType → Nat → Option (Nat × Int) → gS → Prop := fun (p, l, e, R, s, m, args, below, meth, c, Q, w, bs) l0 w0 bs0 mc ret x rv S' =>
  l = l0 ∧ w = w0 ∧ bs = bs0 ∧ meth.sig.returnType = ret ∧ (∀ z ∈ c.exceptionTable.toList, False) ∧ Q = vx_MQ below (gQ w bs x rv S') (gXc w bs x S') args s mc (6 * mc) (fun q => bs ≤ q)
theorem gP_blind {w : gW} {bs : Nat} {S : gS} {av : List (Nat × Int)} : FrameBlind (gP w bs S av) := fun a U g mk h => ⟨h.1, h.2.1, h.2.2.1.moved (Vm.Alike.refl U.vm) (Nat.le_refl _) (fun _ _ _ => rfl), h.2.2.2.same rfl⟩
theorem g_entry {w : gW} {av : List (Nat × Int)} {nL : Nat} (hn : av.length ≤ nL) (hc : ∀ q ∈ av, q.1 ≠ 2) : gHas w ((lg_sl (av.map (gvl w)) ++ List.replicate (nL - (lg_sl (av.map (gvl w))).length) Slot.unset).toArray) (av ++ List.replicate (nL - av.length) (1, 0)) := by
  have e : ∀ av : List (Nat × Int), (∀ q ∈ av, q.1 ≠ 2) → lg_sl (av.map (gvl w)) = av.map (fun q => Slot.val (gvl w q)) := by
    intro av
    induction av with
    | nil => intro _; rfl
    | cons q av ih =>
      intro hc
      have h1 := ih fun z hz => hc z (List.mem_cons_of_mem _ hz)
      have h2 : (gvl w q).category = 1 := gvl_c1 w (hc q List.mem_cons_self)
      show (if (gvl w q).category = 2 then [Slot.val (gvl w q), Slot.second] else [Slot.val (gvl w q)]) ++ lg_sl (av.map (gvl w)) = _
      rw [h1, if_neg (by omega)]
      rfl
  have el := e av hc
  have hlen : (lg_sl (av.map (gvl w))).length = av.length := by rw [el, List.length_map]
  have h0 := lv_entry (av.map (gvl w)) (n := nL) (by rw [hlen]; exact hn)
  refine ⟨?_, h0.2.1, fun i q hi hq => ?_⟩
  · rw [h0.1, List.length_append, List.length_replicate]
    omega
  · rw [el, List.getElem?_toArray]
    by_cases hl : i < av.length
    · rw [List.getElem?_append_left hl] at hi
      rw [List.getElem?_append_left (by rw [List.length_map]; exact hl), List.getElem?_map, hi]
      rfl
    · rw [List.getElem?_append_right (by omega)] at hi
      have := List.eq_of_mem_replicate (List.mem_of_getElem? hi)
      rw [this] at hq
      exact absurd rfl hq
theorem g_start {l : Launch} {w : gW} {bs : Nat} {y : MethodName} {cy : ByteArray} {nL : Nat} {ret : Option FieldType} {lev mc : Nat} {av : List (Nat × Int)} {S : gS} {x : Nat} {rv : Option (Nat × Int)} {S' : gS} (hl : l.stackTraces = false) (hy : plainName y.cls = true) (hn : av.length ≤ nL) (hc : gNo2 av = true)
    (body : ∀ X : gX, gOk X y.cls cy nL lev mc (6 * mc) → gEnd X l w bs mc ret x rv S' → G X 0 0 0 (av ++ List.replicate (nL - av.length) (1, 0)) [] S) : gMet l w bs y cy nL ret lev mc av S x rv S' := by
  refine vx_ofW (cc := cy) (maxL := nL) (ret := ret) hy rfl ?_
  intro p e s m args below meth c s₁ B hml ht hv
  obtain ⟨rfl, hW, hE, hSt⟩ := hv
  have hts := atoms_spec (ws := gWs y cy nL ret) B.pre
  have h := body (p, l, e, gRm lev mc, s, m, ((av.map (gvl w)).toArray), below, meth, c, _, w, bs)
    ⟨B.exec, B.bytes, hml, findClass_of_methodNamed B.named, fun w hw => hts w (List.mem_cons_of_mem _ hw), B.notSynchronized, hE, Nat.le_refl _, Nat.le_refl _, rfl, rfl, hl, hSt⟩
    ⟨rfl, rfl, rfl, B.returns, ht, rfl⟩
  rw [lg_entry_eq]
  exact h s.heap [] _ hW va_S.rf (g_entry hn (gNo2_of hc))
section GE
variable {X : gX} {own : String} {cc : ByteArray} {nL lev rc rs kc ks : Nat} {L st : List (Nat × Int)} {S : gS} {l : Launch} {w : gW} {bs mc : Nat} {ret : Option FieldType}
theorem g_iret (h : gOk X own cc nL lev rc rs) (pc : Nat) {z : Int} {ty : FieldType} (hd : decode cc pc = .ok (.ireturn, 1)) (hE : gEnd X l w bs mc ret 0 (some (0, z)) S) (hr : ret = some ty) (hn : narrow ty (.int (gi z)) = .int (gi z)) (hk : kc ≤ mc ∧ ks ≤ 6 * mc) : G X kc ks pc L [(0, z)] S := by
  obtain ⟨p, l, e, R, s, m, args, below, meth, c, Q, w, bs⟩ := X
  obtain ⟨hx, hb, hml, hown, hts, hlk, hEn, hfr, hlo, hrc, hrs, hst⟩ := h
  obtain ⟨rfl, rfl, rfl, hret, htab, rfl⟩ := hE
  intro H locs ls hW hS hL
  refine W.widen hk.1 hk.2 (vx_ret ?_)
  exact W.zret (ty := ty) hx hb (hret.trans hr) hn (fun t ht hWm => ⟨rfl, rfl, by rw [ht]; exact hW, hS.F ht⟩) hS.2.2 hd hlk
theorem g_aret (h : gOk X own cc nL lev rc rs) (pc : Nat) {z : Int} {t : Nat} {C : String} (hd : decode cc pc = .ok (.areturn, 1)) (hE : gEnd X l w bs mc ret 0 (some (t + 3, z)) S) (hr : ret = some (.object C)) (hk : kc ≤ mc ∧ ks ≤ 6 * mc) : G X kc ks pc L [(t + 3, z)] S := by
  obtain ⟨p, l, e, R, s, m, args, below, meth, c, Q, w, bs⟩ := X
  obtain ⟨hx, hb, hml, hown, hts, hlk, hEn, hfr, hlo, hrc, hrs, hst⟩ := h
  obtain ⟨rfl, rfl, rfl, hret, htab, rfl⟩ := hE
  intro H locs ls hW hS hL
  refine W.widen hk.1 hk.2 (vx_ret ?_)
  exact W.aret (v := gvl w (t + 3, z)) hx hb (hret.trans hr) (Or.inl ⟨C, rfl⟩) (by rw [gvl_rf]; exact va_rf_or _) (fun t ht hWm => ⟨rfl, rfl, by rw [ht]; exact hW, hS.F ht⟩) hS.2.2 hd hlk
theorem g_vret (h : gOk X own cc nL lev rc rs) (pc : Nat) (hd : decode cc pc = .ok (.return_, 1)) (hE : gEnd X l w bs mc ret 0 none S) (hr : ret = none) (hk : kc ≤ mc ∧ ks ≤ 6 * mc) : G X kc ks pc L [] S := by
  obtain ⟨p, l, e, R, s, m, args, below, meth, c, Q, w, bs⟩ := X
  obtain ⟨hx, hb, hml, hown, hts, hlk, hEn, hfr, hlo, hrc, hrs, hst⟩ := h
  obtain ⟨rfl, rfl, rfl, hret, htab, rfl⟩ := hE
  intro H locs ls hW hS hL
  refine W.widen hk.1 hk.2 (vx_ret ?_)
  exact W.vret hx hb (hret.trans hr) (fun t ht hWm => ⟨rfl, rfl, by rw [ht]; exact hW, hS.F ht⟩) hS.2.2 hd hlk
end GE
theorem g_nb {z : Int} (h : 0 ≤ z ∧ z ≤ 1) : narrow .boolean (.int (gi z)) = .int (gi z) := by
  rcases (show z = 0 ∨ z = 1 by omega) with rfl | rfl <;> rfl
