/-! rows that make cells and fill them -/
def kIn : gX → Prop := fun (p, l, e, R, s, m, args, below, meth, c, Q, w, bs) => meth.name = "<init>"
def kAt : gX → gW → Nat → Prop := fun (p, l, e, R, s, m, args, below, meth, c, Q, w, bs) w0 bs0 => w = w0 ∧ bs = bs0
/-- the classes of which arrays are made, and that the tables know their arrays -/
def kObj : List String := ["Pagewright$Space", "Pagewright$Page", "Pagewright$Cache", "Pagewright$Record", "Pagewright$Entry", "Pagewright$Translation"]
def kAO : gX → Prop := fun (p, l, e, R, s, m, args, below, meth, c, Q, w, bs) => ∀ C ∈ kObj, va_AO C s
theorem kH_new {w : gW} {bs n : Nat} {f : Nat → va_E} {H H1 : Heap} {e : va_E} (h : kH w bs n f H) (z : H1.size = bs + n + 1) (o : ∀ q : Nat, q < bs + n → H1[q]? = H[q]?) (he : va_at w.1 vwCl (bs + n, e) H1) : kH w bs (n + 1) (kU f n e) H1 := by
  refine ⟨by omega, fun i hi => ?_⟩
  by_cases h1 : i = n
  · subst h1; rw [kU_s]; exact he
  · rw [kU_n h1]; exact (h.2 i (by omega)).kept (o (bs + i) (by omega))
theorem kH_put {w : gW} {bs n k : Nat} {f : Nat → va_E} {H H1 : Heap} {e : va_E} (h : kH w bs n f H) (hk : k < n) (z : H1.size = H.size) (o : ∀ q : Nat, q ≠ bs + k → H1[q]? = H[q]?) (he : va_at w.1 vwCl (bs + k, e) H1) : kH w bs n (kU f k e) H1 := by
  refine ⟨by rw [z]; exact h.1, fun i hi => ?_⟩
  by_cases h1 : i = k
  · subst h1; rw [kU_s]; exact he
  · rw [kU_n h1]; exact (h.2 i hi).kept (o (bs + i) (by omega))
theorem kU_kU {f : Nat → va_E} {i : Nat} {a b : va_E} : kU (kU f i a) i b = kU f i b := by
  funext j; unfold kU; split <;> rfl
theorem kU_cm {f : Nat → va_E} {i k : Nat} {a b : va_E} (h : i ≠ k) : kU (kU f i a) k b = kU (kU f k b) i a := by
  funext j; unfold kU
  by_cases h1 : j = k
  · rw [if_pos h1, if_neg (by omega), if_pos h1]
  · rw [if_neg h1]; split <;> simp [h1]
theorem kU_id {f : Nat → va_E} {i : Nat} {a : va_E} (h : f i = a) : kU f i a = f := by
  funext j; unfold kU; split
  · subst h; congr 1; omega
  · rfl
section KN
variable {X : gX} {own : String} {cc : ByteArray} {nL lev rc rs kc ks : Nat} {L st : List (Nat × Int)} {nn : Nat} {ff : Nat → va_E} {w : gW} {bs : Nat}
theorem k_new (h : gOk X own cc nL lev rc rs) (hA : kAt X w bs) (pc : Nat) {idx k N : Nat} {z : Int} {C : String} {T : u_T} {ty0 : Nat → FieldType} {vs : List Value} (hd : decode cc pc = .ok (.new idx, 3)) (hc : vwCl[k]? = some (C, T, N)) (hin : ∀ w ∈ u_ws C T N, w ∈ gB) (hty : ∀ k, k < N → parseFieldDescriptor (T k).2.2.1 = some (ty0 k)) (hfs : ∀ j, j < N → defaultValue (ty0 j) = vp_V vs j)
    (hcl : Cond.classLink own idx C ∈ gB) (hinst : Cond.instantiable C N ∈ gB) (hini : Cond.initialized C ∈ gB) (hz : 0 ≤ z) (ha : w.2.1 k z = bs + nn) (hcell : kc + 1 ≤ rc ∧ ks + N ≤ rs)
    (K : KJ X (kc + 1) (ks + N) (pc + 3) L ((k + 3, z) :: st) (nn + 1) (kU ff nn (.inr (k, vs)))) : KJ X kc ks pc L st nn ff := by
  obtain ⟨p, l, e, R, s, m, args, below, meth, c, Q, w', bs'⟩ := X
  obtain ⟨hx, hb, hml, hown, hts, hlk, hE, hfr, hlo, hrc, hrs, hst⟩ := h
  obtain ⟨rfl, rfl⟩ := hA
  intro H locs ls hW hS hL
  have hKn := hE.1.1 k _ hc
  refine W.newcK hx hb hown (hts _ hcl) (hts _ hinst) (hts _ hini) rfl hd (by omega) (by omega) hKn.2.1 hW.1 fun H1 kC hkC e1 z1 o1 => ?_
  have kk := K H1 locs ls (kH_new hW z1 o1 ⟨_, hc, (u_born ty0 hts hin hKn hkC e1 hty).to hfs⟩) ⟨Nat.le_trans hS.1 (by rw [z1, hW.1]; omega), fun x h1 h2 => (o1 x (by rw [← hW.1]; exact Nat.lt_of_lt_of_le h1 hS.1)).trans (hS.2.1 x h1 h2), hS.2.2⟩ hL
  rw [List.map_cons, gvl_ref hz, ha] at kk
  exact kk
theorem k_putf (h : gOk X own cc nL lev rc rs) (hA : kAt X w bs) (hI : kIn X) (pc : Nat) {idx k j N t o : Nat} {z v : Int} {C : String} {T : u_T} {ty0 : Nat → FieldType} {ty : FieldType} {vs vs' : List Value} (hd : decode cc pc = .ok (.putfield idx, 3)) (hc : vwCl[k]? = some (C, T, N)) (hj : j < N) (hin : ∀ w ∈ u_ws C T N, w ∈ gB)
    (hty : ∀ k, k < N → parseFieldDescriptor (T k).2.2.1 = some (ty0 k)) (hnm : ∀ a, a < N → ∀ b, b < N → a ≠ b → (T a).2.1 ≠ (T b).2.1) (hdecl : (T j).1 = own)
    (hl : Cond.fieldLink own idx (T j).1 (T j).2.1 (T j).2.2.1 ∈ gB) (hd2 : parseFieldDescriptor (T j).2.2.1 = some ty) (hn : narrow ty (gvl w (t, v)) = gvl w (t, v)) (hfit : fits ty (gvl w (t, v)) = true)
    (hz : 0 ≤ z) (ha : w.2.1 k z = bs + o) (ho : o < nn) (hf : ff o = .inr (k, vs)) (hlen : vs.length = N) (hvs : vs.set j (gvl w (t, v)) = vs')
    (K : KJ X kc ks (pc + 3) L st nn (kU ff o (.inr (k, vs')))) : KJ X kc ks pc L ((t, v) :: (k + 3, z) :: st) nn ff := by
  subst hvs
  obtain ⟨p, l, e, R, s, m, args, below, meth, c, Q, w', bs'⟩ := X
  obtain ⟨hx, hb, hml, hown, hts, hlk, hE, hfr, hlo, hrc, hrs, hst⟩ := h
  obtain ⟨rfl, rfl⟩ := hA
  intro H locs ls hW hS hL
  rw [List.map_cons, List.map_cons, gvl_ref hz, ha]
  have hap := va_apart (own := own) hts hin ty0 hty hnm hE.1 hc
  have hat := hW.2 o ho
  rw [hf] at hat
  obtain ⟨r, h1, cell, q1, q2, q3, q4⟩ := hat
  have hr : r = (C, T, N) := Option.some.inj (h1.symm.trans hc)
  subst hr
  obtain ⟨hSl, hfc, kC, hkC, hkind⟩ := hE.1.1 k _ hc
  obtain ⟨cf, kf, fi, fd, hi, hsl⟩ := hSl j hj
  have hlay := hts _ (hin _ (u_in_lay hj))
  have hst2 := (u_facts hfc hkC (u_lays hts hin hj) hi).1
  have h6 := u_fits hfc hkC hkind (u_lays hts hin hj) hi hd2 hn hfit
  have key : ∀ H' : Heap, H'[bs' + o]? = some (cell.setSlot fd.slot (gvl w' (t, v))) → H'.size = H.size → (∀ q : Nat, q ≠ bs' + o → H'[q]? = H[q]?) → W p l e R s m args below meth c H' (locs ++ [⟨bs' + o, fd.slot⟩]) kc ks Q (F0 m (pc + 3) ls (st.map (gvl w'))) := by
    intro H' e1 e2 e3
    rw [hsl] at e1 ⊢
    exact K H' _ ls (kH_put hW ho e2 e3 ⟨_, hc, t_OB.to (V := updV (vp_V vs) j (gvl w' (t, v))) ⟨_, e1, q2, q3, t_set q4 hap hj _⟩ (fun i _ => vp_updV_set (by rw [hlen]; exact hj) _ i)⟩) (hS.put e2 e3 (Nat.le_add_right _ _)) hL
  by_cases hfin : (T j).2.2.2 = true
  · unfold u_lay at hlay
    rw [if_pos hfin] at hlay
    have hcf : m.cls = cf := by
      obtain ⟨_, _, c', _, _, _, -, -, hf', -, -, -, hown2, -⟩ := Cond.laysFinal_spec hlay
      have e1 : c' = cf := by have := hi.symm.trans hf'; simp at this; exact this.1.symm
      rw [hdecl] at hown2
      rw [← e1]; exact Option.some.inj (hown.symm.trans hown2)
    exact W.putFinK hx hb hown (hts _ hl) hi hst2 hcf hI (by rw [q2]; exact h6) q1 q3 (by rw [hsl]; exact k2_hasslot (q4 j hj)) rfl rfl hd key
  · unfold u_lay at hlay
    rw [if_neg hfin] at hlay
    have h7 := u_store hfc hkC hkind hlay hi hd2 hn hfit
    exact W.putK hx hb (f := fd) ⟨hown, hts _ hl, ⟨_, _, _, hi⟩, hst2⟩ (by rw [q2]; exact h7) q1 q3 (by rw [hsl]; exact k2_hasslot (q4 j hj)) rfl rfl hd key
theorem k_getf (h : gOk X own cc nL lev rc rs) (hA : kAt X w bs) (pc : Nat) {idx k j N o : Nat} {z : Int} {q : Nat × Int} {C : String} {T : u_T} {vs : List Value} (hd : decode cc pc = .ok (.getfield idx, 3)) (hc : vwCl[k]? = some (C, T, N)) (hj : j < N) (hin : ∀ w ∈ u_ws C T N, w ∈ gB)
    (hl : Cond.fieldLink own idx (T j).1 (T j).2.1 (T j).2.2.1 ∈ gB) (hz : 0 ≤ z) (ha : w.2.1 k z = bs + o) (ho : o < nn) (hf : ff o = .inr (k, vs)) (hv : vs[j]? = some (gvl w q))
    (K : KJ X kc ks (pc + 3) L (q :: st) nn ff) : KJ X kc ks pc L ((k + 3, z) :: st) nn ff := by
  obtain ⟨p, l, e, R, s, m, args, below, meth, c, Q, w', bs'⟩ := X
  obtain ⟨hx, hb, hml, hown, hts, hlk, hE, hfr, hlo, hrc, hrs, hst⟩ := h
  obtain ⟨rfl, rfl⟩ := hA
  intro H locs ls hW hS hL
  rw [List.map_cons, gvl_ref hz, ha]
  have hat := hW.2 o ho
  rw [hf] at hat
  have hP : va_P w'.1 vwCl [(bs' + o, .inr (k, vs))] H := by
    intro i y hy
    match i, hy with
    | 0, hy => cases hy; exact hat
    | i + 1, hy => simp at hy
  exact va_get (D := w'.1) (cl := vwCl) (own := own) (ref := (T j).1) (C := C) (T := T) (N := N) (ci := k) (index := idx) (v := gvl w' q) hx hb hts hin hown hE.1 hP 0 rfl hc j hj (hts _ hl) (fun _ h9 => h9) hv hd (K H locs ls hW hS hL)
theorem k_newa (h : gOk X own cc nL lev rc rs) (hA : kAt X w bs) (pc : Nat) {ac : ArrayType} {k N : Nat} {z n : Int} {ty : FieldType} {a0 : vp_A} (hd : decode cc pc = .ok (.newarray ac, 2)) (hty2 : newarray.typeOf ac = ty) (harr : Cond.arrayClass ty ∈ gB) (hty : ∀ w : gW, (gTys w)[k - 9]? = some (w.2.2 k, ty)) (hp : ∀ (U : State) (cA : ClassId), va_RA U cA ty → U.vm.findClass ("[" ++ ty.toString) = some cA)
    (ha0 : ∀ cA : ClassId, vp_cell cA a0 = arrV cA N (fun _ => defaultValue ty)) (hn : n = N) (hN : N < 1000) (hby : componentBytes ty ≤ 8) (hz : 0 ≤ z) (ha : w.2.1 k z = bs + nn) (hcell : kc + 1 ≤ rc ∧ ks + N ≤ rs)
    (K : KJ X (kc + 1) (ks + N) (pc + 2) L ((k + 3, z) :: st) (nn + 1) (kU ff nn (.inl (w.2.2 k, a0)))) : KJ X kc ks pc L ((0, n) :: st) nn ff := by
  subst hty2 hn
  obtain ⟨p, l, e, R, s, m, args, below, meth, c, Q, w', bs'⟩ := X
  obtain ⟨hx, hb, hml, hown, hts, hlk, hE, hfr, hlo, hrc, hrs, hst⟩ := h
  obtain ⟨rfl, rfl⟩ := hA
  intro H locs ls hW hS hL
  have hb2 : N * componentBytes (newarray.typeOf ac) ≤ 536870912 := Nat.le_trans (Nat.mul_le_mul (Nat.le_of_lt hN) hby) (by decide)
  refine va_newaK hx hb (hts _ harr) rfl hd rfl (by rw [← gi_0, gi_lt ⟨by omega, by omega⟩ gR_0]; omega) (by rw [gi_cl ⟨by omega, by omega⟩]; rfl) hb2 (by omega) (by omega) hW.1 fun H1 cA e1 z1 o1 hAr hNm => ?_
  have hcA : w'.2.2 k = cA := Option.some.inj ((hp s _ (hE.1.2 (k - 9) _ (hty w')).2).symm.trans hNm)
  have kk := K H1 locs ls (kH_new hW z1 o1 (by show H1[_]? = some (vp_cell _ _); rw [ha0, hcA]; exact e1)) ⟨Nat.le_trans hS.1 (by rw [z1, hW.1]; omega), fun x h1 h2 => (o1 x (by rw [← hW.1]; exact Nat.lt_of_lt_of_le h1 hS.1)).trans (hS.2.1 x h1 h2), hS.2.2⟩ hL
  rw [List.map_cons, gvl_ref hz, ha] at kk
  exact kk
theorem k_newq (h : gOk X own cc nL lev rc rs) (hA : kAt X w bs) (pc : Nat) {idx k N : Nat} {z n : Int} {C : String} (hd : decode cc pc = .ok (.anewarray idx, 3)) (hcl : Cond.classLink own idx C ∈ gB) (hov : kAO X) (hC : C ∈ kObj) (hty : ∀ w : gW, (gTys w)[k - 9]? = some (w.2.2 k, .object C))
    (hn : n = N) (hN : N < 1000) (hz : 0 ≤ z) (ha : w.2.1 k z = bs + nn) (hcell : kc + 1 ≤ rc ∧ ks + N ≤ rs)
    (K : KJ X (kc + 1) (ks + N) (pc + 3) L ((k + 3, z) :: st) (nn + 1) (kU ff nn (.inl (w.2.2 k, N, .inr (.inr (.inr (.inr fun _ => none))))))) : KJ X kc ks pc L ((0, n) :: st) nn ff := by
  subst hn
  obtain ⟨p, l, e, R, s, m, args, below, meth, c, Q, w', bs'⟩ := X
  obtain ⟨hx, hb, hml, hown, hts, hlk, hE, hfr, hlo, hrc, hrs, hst⟩ := h
  obtain ⟨rfl, rfl⟩ := hA
  intro H locs ls hW hS hL
  have e0 : (gi (N : Int)).toNatClampNeg = N := by rw [gi_cl ⟨by omega, by omega⟩]; rfl
  refine W.anew hx hb hown (hts _ hcl) (va_AO.use (hov C hC)) rfl hd rfl (by rw [← gi_0, gi_lt ⟨by omega, by omega⟩ gR_0]; omega) (by rw [e0]; omega) (by omega) (by rw [e0]; omega) fun cA kA comp f1 f2 f3 f4 => ?_
  rw [e0]
  obtain ⟨kA', comp', g1, g2, g3, g4⟩ := (hE.1.2 (k - 9) _ (hty w')).2
  have hcA : w'.2.2 k = cA := Option.some.inj (g4.symm.trans f1)
  generalize hH1 : H.push ({ cls := cA, slots := Array.replicate N .null, vm := .none } : Cell) = H1
  have z1 : H1.size = bs' + nn + 1 := by rw [← hH1, Array.size_push, hW.1]
  have e1 : H1[bs' + nn]? = some (arrV cA N (fun _ => .null)) := by rw [← hW.1, ← hH1, Array.getElem?_push_size, ← arrV_new]
  have o1 : ∀ q : Nat, q < bs' + nn → H1[q]? = H[q]? := fun q hq => by rw [← hH1, Array.getElem?_push, if_neg (by rw [hW.1]; omega)]
  have kk := K H1 locs ls (kH_new hW z1 o1 (by show H1[_]? = some (vp_cell _ _); rw [vp_cell_q, hcA]; exact e1)) ⟨Nat.le_trans hS.1 (by rw [z1, hW.1]; omega), fun x h1 h2 => (o1 x (by rw [← hW.1]; exact Nat.lt_of_lt_of_le h1 hS.1)).trans (hS.2.1 x h1 h2), hS.2.2⟩ hL
  rw [List.map_cons, gvl_ref hz, ha, ← hW.1] at kk
  exact kk
theorem k_aast (h : gOk X own cc nL lev rc rs) (hA : kAt X w bs) (pc : Nat) {k ke N o oe : Nat} {z ze i : Int} {r : vw_C} {vs : List Value} {g g' : Nat → Option Nat} (hd : decode cc pc = .ok (.aastore, 1)) (hty : ∀ w : gW, (gTys w)[k - 9]? = some (w.2.2 k, .object r.1)) (hc : vwCl[ke]? = some r)
    (hz : 0 ≤ z) (ha : w.2.1 k z = bs + o) (ho : o < nn) (hf : ff o = .inl (w.2.2 k, N, .inr (.inr (.inr (.inr g))))) (hze : 0 ≤ ze) (hae : w.2.1 ke ze = bs + oe) (hoe : oe < nn) (hfe : ff oe = .inr (ke, vs)) (hi : 0 ≤ i ∧ i < N) (hN : N < 1000)
    (hg : ∀ j : Nat, g' j = if (j : Int) = i then some (w.2.1 ke ze) else g j)
    (K : KJ X kc ks (pc + 1) L st nn (kU ff o (.inl (w.2.2 k, N, .inr (.inr (.inr (.inr g'))))))) : KJ X kc ks pc L ((ke + 3, ze) :: (0, i) :: (k + 3, z) :: st) nn ff := by
  obtain ⟨p, l, e, R, s, m, args, below, meth, c, Q, w', bs'⟩ := X
  obtain ⟨hx, hb, hml, hown, hts, hlk, hE, hfr, hlo, hrc, hrs, hst⟩ := h
  obtain ⟨rfl, rfl⟩ := hA
  intro H locs ls hW hS hL
  rw [List.map_cons, List.map_cons, List.map_cons, gvl_ref hz, gvl_ref hze, ha, hae]
  have hat := hW.2 o ho
  rw [hf] at hat
  have hav := hW.2 oe hoe
  rw [hfe] at hav
  have hin : vp_in (gi i) N := gi_in hi.1 hi.2 (by omega)
  have hcl9 := gi_cl (z := i) ⟨by omega, by omega⟩
  have hlt : (gi i).toNatClampNeg < N := Nat.not_le.mp fun q => hin (Or.inr q)
  have h0 : ¬ gi i < 0 := fun q => hin (Or.inl q)
  obtain ⟨r', hr', cellV, g1, g2, g3, -⟩ := hav
  have hcls := (hE.1.1 ke r hc).2
  obtain ⟨kA, comp, k1, k2, k3, -⟩ := (hE.1.2 (k - 9) _ (hty w')).2
  have hcomp : comp = w'.1.1 ke := Option.some.inj (k3.symm.trans hcls.1)
  subst hcomp
  obtain ⟨kC, hkC, -⟩ := hcls.2
  refine W.aast hx hb hat (fun q h => by cases h) (fun h => by cases h) k1 k2 rfl hkC ⟨h0, by show _ < (arrV _ _ _).slots.size; rw [arrV_size]; exact hlt⟩ g1 (fun q h => by rw [g3] at h; cases h) (by rw [g2]; exact hkC) (by rw [g2]; exact va_assign hcls) rfl rfl hd fun H1 e z1 oq => ?_
  refine K H1 _ ls (kH_put hW ho z1 oq ?_) (hS.put z1 oq (Nat.le_add_right _ _)) hL
  show H1[_]? = some (vp_cell _ _)
  rw [e]
  rw [vp_cell_q, vp_cell_q, arrV_store]
  congr 2
  funext q
  rw [hg, hcl9, hae]
  by_cases hq : q = i.toNat
  · subst hq
    rw [if_pos (by omega)]
    simp [updV, va_rf]
  · rw [if_neg (by omega)]
    simp [updV, hq]
theorem k_iast (h : gOk X own cc nL lev rc rs) (hA : kAt X w bs) (pc : Nat) {k N o : Nat} {z i v : Int} {g g' : Nat → Int32} (hd : decode cc pc = .ok (.iastore, 1)) (hty : ∀ w : gW, (gTys w)[k - 9]? = some (w.2.2 k, .int))
    (hz : 0 ≤ z) (ha : w.2.1 k z = bs + o) (ho : o < nn) (hf : ff o = .inl (w.2.2 k, N, .inl g)) (hi : 0 ≤ i ∧ i < N) (hN : N < 1000) (hg : ∀ j : Nat, g' j = if (j : Int) = i then gi v else g j)
    (K : KJ X kc ks (pc + 1) L st nn (kU ff o (.inl (w.2.2 k, N, .inl g')))) : KJ X kc ks pc L ((0, v) :: (0, i) :: (k + 3, z) :: st) nn ff := by
  obtain ⟨p, l, e, R, s, m, args, below, meth, c, Q, w', bs'⟩ := X
  obtain ⟨hx, hb, hml, hown, hts, hlk, hE, hfr, hlo, hrc, hrs, hst⟩ := h
  obtain ⟨rfl, rfl⟩ := hA
  intro H locs ls hW hS hL
  rw [List.map_cons, List.map_cons, List.map_cons, gvl_ref hz, ha]
  have hat := hW.2 o ho
  rw [hf] at hat
  have hin : vp_in (gi i) N := gi_in hi.1 hi.2 (by omega)
  have hcl9 := gi_cl (z := i) ⟨by omega, by omega⟩
  refine W.iast hx hb hat ((hE.1.2 (k - 9) _ (hty w')).1 N (fun j => .int (g j))) (fun q => by cases q) (by show ¬ (gi i < 0 ∨ (arrV _ _ _).slots.size ≤ _); rw [arrV_size]; exact hin) rfl rfl hd fun H1 e z1 oq => ?_
  refine K H1 _ ls (kH_put hW ho z1 oq ?_) (hS.put z1 oq (Nat.le_add_right _ _)) hL
  show H1[_]? = some (vp_cell _ _)
  rw [e, vp_cell_i, vp_cell_i, arrV_store]
  congr 2
  funext q
  rw [hg, hcl9]
  by_cases hq : q = i.toNat
  · subst hq
    rw [if_pos (by omega)]
    simp [updV]
  · rw [if_neg (by omega)]
    simp [updV, hq]
theorem k_objInit (h : gOk X own cc nL lev rc rs) (pc : Nat) {idx k : Nat} {z : Int} (hd : decode cc pc = .ok (.invokespecial idx, 3)) (hl : Cond.methodLink own idx objectInit ∈ gB) (hi : Cond.instanceMethod objectInit ∈ gB) (hcd : Cond.code objectInit ⟨#[0xb1]⟩ 1 none ∈ gB) (hz : 0 ≤ z) (hlv : 1 ≤ lev) (hnL : L.length = nL)
    (K : KJ X kc ks (pc + 3) L [] nn ff) : KJ X kc ks pc L [(k + 3, z)] nn ff := by
  obtain ⟨p, l, e, R, s, m, args, below, meth, c, Q, w', bs'⟩ := X
  obtain ⟨hx, hb, hml, hown, hts, hlk, hE, hfr, hlo, hrc, hrs, hst⟩ := h
  intro H locs ls hW hS hL
  rw [List.map_cons, gvl_ref hz]
  exact W.objInit hx hb hown (hts _ hl) (hts _ hi) (hts _ hcd) rfl ((gSz hL hnL).trans hml.symm) rfl hd (by omega) (by show 2 * 0 + 0 + 12 ≤ _; omega) (K H locs ls hW hS hL)
end KN
