/-! the world's rows -/
theorem gCell_o {w : gW} {S : gS} {k : Nat} {z : Int} (hk : k < 9) : gCell w S k z = .inr (k, (gFT k).map fun d => gvl w (gFA (gSto k S) z d)) := by
  unfold gCell
  rw [show Nat.blt k 9 = true from Nat.ble_eq_true_of_le hk]
  rfl
theorem gCell_a {w : gW} {S : gS} {k : Nat} {z : Int} (hk : 9 ≤ k) : gCell w S k z = .inl (w.2.2 k, gCon w (gSto k S) k z) := by
  unfold gCell
  have hb : Nat.blt k 9 = false := by
    cases h : Nat.blt k 9
    · rfl
    · have : k < 9 := Nat.le_of_ble_eq_true h
      omega
  rw [hb]
  rfl
theorem gP1 {w : gW} {S : gS} {H : Heap} (h : gWd w S H) {k : Nat} {z : Int} (hz : gIn k z) {e : va_E} (he : gCell w S k z = e) : va_P w.1 vwCl [(w.2.1 k z, e)] H := by
  intro i q hq
  match i, hq with
  | 0, hq =>
    cases hq
    rw [← he]
    exact h.1 k z hz
  | i + 1, hq => simp at hq
theorem gTyp_put {S : gS} {k f : Nat} {i v : Int} (h : gTyp S) (hv : gTy f v) : gTyp (gPut k S f i v) := by
  have key : ∀ σ : S2, (∀ f i, gTy f (σ f i)) → ∀ g j, gTy g (upd2 σ f i v g j) := by
    intro σ hs g j
    unfold upd2
    split
    · rename_i e
      rw [e.1]
      exact hv
    · exact hs g j
  unfold gPut
  cases gSd k
  · exact ⟨key _ h.1, h.2⟩
  · exact ⟨h.1, key _ h.2⟩
/-- a world behind a write into one cell -/
theorem gWd_put {w : gW} {S S' : gS} {H H1 : Heap} {bs : Nat} {U : State} {Hx : Heap} (hW : gWd w S H) (hE : gEnv w bs U Hx) (hT : gTyp S') {k : Nat} {z : Int} (hz : gIn k z) (hself : va_at w.1 vwCl (w.2.1 k z, gCell w S' k z) H1) (hoth : ∀ k' z', gIn k' z' → ¬ (k' = k ∧ z' = z) → gCell w S' k' z' = gCell w S k' z')
    (oq : ∀ q : Nat, q ≠ w.2.1 k z → H1[q]? = H[q]?) : gWd w S' H1 := by
  refine ⟨fun k' z' h' => ?_, hT⟩
  by_cases he : k' = k ∧ z' = z
  · obtain ⟨rfl, rfl⟩ := he
    exact hself
  · rw [hoth k' z' h' he]
    exact (hW.1 k' z' h').kept (oq _ fun e => he (hE.2.1 k' z' k z h' hz e))
section GM
variable {X : gX} {own : String} {cc : ByteArray} {nL lev rc rs kc ks : Nat} {L st : List (Nat × Int)} {S : gS}
theorem g_getf (h : gOk X own cc nL lev rc rs) (pc : Nat) {idx k j N : Nat} {z : Int} {d : Nat × Nat} {C : String} {T : u_T} (hd : decode cc pc = .ok (.getfield idx, 3)) (k9 : k < 9) (hz : 0 ≤ z ∧ z < gN k) (hc : vwCl[k]? = some (C, T, N)) (hj : j < N) (hin : ∀ w ∈ u_ws C T N, w ∈ gB)
    (hl : Cond.fieldLink own idx (T j).1 (T j).2.1 (T j).2.2.1 ∈ gB) (hf : (gFT k)[j]? = some d) (K : G X kc ks (pc + 3) L (gFA (gSto k S) z d :: st) S) : G X kc ks pc L ((k + 3, z) :: st) S := by
  obtain ⟨p, l, e, R, s, m, args, below, meth, c, Q, w, bs⟩ := X
  obtain ⟨hx, hb, hml, hown, hts, hlk, hE, hfr, hlo, hrc, hrs, hst⟩ := h
  intro H locs ls hW hS hL
  rw [List.map_cons, gvl_ref hz.1]
  have hzi : gIn k z := ⟨by omega, hz⟩
  refine va_get (D := w.1) (cl := vwCl) (own := own) (ref := (T j).1) (C := C) (T := T) (N := N) (ci := k) (index := idx) (v := gvl w (gFA (gSto k S) z d)) hx hb hts hin hown hE.1 (gP1 hW hzi (gCell_o k9)) 0 rfl hc j hj (hts _ hl) (fun _ h9 => h9) ?_ hd (K H locs ls hW hS hL)
  rw [List.getElem?_map, hf]
  rfl
theorem g_putf (h : gOk X own cc nL lev rc rs) (pc : Nat) {idx k j N t f : Nat} {z v : Int} {C : String} {T : u_T} {ty0 : Nat → FieldType} {ty : FieldType} (hd : decode cc pc = .ok (.putfield idx, 3)) (k9 : k < 9) (hz : 0 ≤ z ∧ z < gN k) (hc : vwCl[k]? = some (C, T, N)) (hj : j < N) (hin : ∀ w ∈ u_ws C T N, w ∈ gB) (hlen : (gFT k).length = N)
    (hty : ∀ k, k < N → parseFieldDescriptor (T k).2.2.1 = some (ty0 k)) (hnm : ∀ a, a < N → ∀ b, b < N → a ≠ b → (T a).2.1 ≠ (T b).2.1) (hfin : (T j).2.2.2 = false)
    (hl : Cond.fieldLink own idx (T j).1 (T j).2.1 (T j).2.2.1 ∈ gB) (hf : (gFT k)[j]? = some (t, f)) (ht : t = 0 ∨ 3 ≤ t) (hd2 : parseFieldDescriptor (T j).2.2.1 = some ty) (hn : ∀ w : gW, narrow ty (gvl w (t, v)) = gvl w (t, v)) (hfit : ∀ w : gW, fits ty (gvl w (t, v)) = true) (hv : gTy f v)
    (K : G X kc ks (pc + 3) L st (gPut k S f z v)) : G X kc ks pc L ((t, v) :: (k + 3, z) :: st) S := by
  obtain ⟨p, l, e, R, s, m, args, below, meth, c, Q, w, bs⟩ := X
  obtain ⟨hx, hb, hml, hown, hts, hlk, hE, hfr, hlo, hrc, hrs, hst⟩ := h
  intro H locs ls hW hS hL
  rw [List.map_cons, List.map_cons, gvl_ref hz.1]
  have hzi : gIn k z := ⟨by omega, hz⟩
  have hK := hE.1
  have hap := va_apart (own := own) hts hin ty0 hty hnm hK hc
  have hat : va_at w.1 vwCl (w.2.1 k z, .inr (k, (gFT k).map fun d => gvl w (gFA (gSto k S) z d))) H := gP1 hW hzi (gCell_o k9) 0 _ rfl
  have hat2 := hat
  obtain ⟨r, h1, cell, q1, q2, q3, q4⟩ := hat
  have hr : r = (C, T, N) := Option.some.inj (h1.symm.trans hc)
  subst hr
  obtain ⟨hSl, hfc, kC, hkC, hkind⟩ := hK.1 k _ hc
  obtain ⟨cf, kf, fi, fd, hi, hsl⟩ := hSl j hj
  have hlay := hts _ (hin _ (u_in_lay hj))
  unfold u_lay at hlay
  rw [if_neg (by rw [hfin]; decide)] at hlay
  have hst2 := (u_facts hfc hkC (u_lays hts hin hj) hi).1
  have h6 := u_store hfc hkC hkind hlay hi hd2 (hn w) (hfit w)
  refine W.putK hx hb (f := fd) ⟨hown, hts _ hl, ⟨_, _, _, hi⟩, hst2⟩ (by rw [q2]; exact h6) q1 q3 (by rw [hsl]; exact k2_hasslot (q4 j hj)) rfl rfl hd fun H' e1 e2 e3 => ?_
  rw [hsl] at e1 ⊢
  have hll : j < ((gFT k).map fun d => gvl w (gFA (gSto k S) z d)).length := by rw [List.length_map, hlen]; exact hj
  refine K H' _ ls (gWd_put hW hE (gTyp_put hW.2 hv) hzi ?_ (fun k' z' h' hne => gCell_obj k9 h'.1 (gTable1 k k9 j (Nat.lt_of_lt_of_le (by rw [hlen]; exact hj) (gTable3 k k9)) _ hf ht).1 hne) e3) (hS.put e2 e3 (hE.2.2.1 k z hzi)) hL
  rw [gCell_self k9 hf ht]
  exact ⟨_, hc, t_OB.to (V := updV (vp_V ((gFT k).map fun d => gvl w (gFA (gSto k S) z d))) j (gvl w (t, v))) ⟨_, e1, q2, q3, t_set q4 hap hj _⟩ (fun i _ => vp_updV_set hll _ i)⟩
/-- an array of ints or booleans is read -/
theorem g_arr {w : gW} {S : gS} {H : Heap} (h : gWd w S H) {k : Nat} {z : Int} (h9 : 9 ≤ k) (hz : gIn k z) : va_P w.1 vwCl [(w.2.1 k z, .inl (w.2.2 k, gCon w (gSto k S) k z))] H := gP1 h hz (gCell_a h9)
theorem g_iald (h : gOk X own cc nL lev rc rs) (pc : Nat) {k n : Nat} {z i : Int} (hd : decode cc pc = .ok (.iaload, 1)) (h9 : 9 ≤ k ∧ k < 58) (hz : 0 ≤ z ∧ z < gN k) (hn : (gAT k).1 = n) (h0 : (gAT k).2.1 = 0) (hty : ∀ w : gW, (gTys w)[k - 9]? = some (w.2.2 k, .int)) (hi : 0 ≤ i ∧ i < n)
    (K : G X kc ks (pc + 1) L ((0, gAE (gSto k S) k z i) :: st) S) : G X kc ks pc L ((0, i) :: (k + 3, z) :: st) S := by
  obtain ⟨p, l, e, R, s, m, args, below, meth, c, Q, w, bs⟩ := X
  obtain ⟨hx, hb, hml, hown, hts, hlk, hE, hfr, hlo, hrc, hrs, hst⟩ := h
  intro H locs ls hW hS hL
  rw [List.map_cons, List.map_cons, gvl_ref hz.1]
  have hn5 := gTable5 k h9.2
  have hP := g_arr hW h9.1 ⟨h9.2, hz⟩
  have e0 : gCon w (gSto k S) k z = (n, .inl fun j => if j < n then gi (gAE (gSto k S) k z j) else 0) := by
    unfold gCon; rw [h0, hn]
  rw [e0] at hP
  refine va_iald hx hb hE.1 hP 0 (k - 9) rfl (hty w) (gi_in hi.1 hi.2 (by omega)) hd ?_
  rw [gi_cl ⟨by omega, by omega⟩, if_pos (by omega), Int.toNat_of_nonneg hi.1]
  exact K H locs ls hW hS hL
theorem g_zald (h : gOk X own cc nL lev rc rs) (pc : Nat) {k n : Nat} {z i : Int} (hd : decode cc pc = .ok (.baload, 1)) (h9 : 9 ≤ k ∧ k < 58) (hz : 0 ≤ z ∧ z < gN k) (hn : (gAT k).1 = n) (h0 : (gAT k).2.1 = 0) (hty : ∀ w : gW, (gTys w)[k - 9]? = some (w.2.2 k, .boolean)) (hi : 0 ≤ i ∧ i < n)
    (K : G X kc ks (pc + 1) L ((0, gAE (gSto k S) k z i) :: st) S) : G X kc ks pc L ((0, i) :: (k + 3, z) :: st) S := by
  obtain ⟨p, l, e, R, s, m, args, below, meth, c, Q, w, bs⟩ := X
  obtain ⟨hx, hb, hml, hown, hts, hlk, hE, hfr, hlo, hrc, hrs, hst⟩ := h
  intro H locs ls hW hS hL
  rw [List.map_cons, List.map_cons, gvl_ref hz.1]
  have hn5 := gTable5 k h9.2
  have hP := g_arr hW h9.1 ⟨h9.2, hz⟩
  have e0 : gCon w (gSto k S) k z = (n, .inl fun j => if j < n then gi (gAE (gSto k S) k z j) else 0) := by
    unfold gCon; rw [h0, hn]
  rw [e0] at hP
  refine va_zald hx hb hE.1 hP 0 (k - 9) rfl (hty w) (gi_in hi.1 hi.2 (by omega)) hd ?_
  rw [gi_cl ⟨by omega, by omega⟩, if_pos (by omega), Int.toNat_of_nonneg hi.1]
  exact K H locs ls hW hS hL
theorem g_lald (h : gOk X own cc nL lev rc rs) (pc : Nat) {k n : Nat} {z i : Int} (hd : decode cc pc = .ok (.laload, 1)) (h9 : 9 ≤ k ∧ k < 58) (hz : 0 ≤ z ∧ z < gN k) (hn : (gAT k).1 = n) (h0 : (gAT k).2.1 = 2) (hty : ∀ w : gW, (gTys w)[k - 9]? = some (w.2.2 k, .long)) (hi : 0 ≤ i ∧ i < n)
    (K : G X kc ks (pc + 1) L ((2, gAE (gSto k S) k z i) :: st) S) : G X kc ks pc L ((0, i) :: (k + 3, z) :: st) S := by
  obtain ⟨p, l, e, R, s, m, args, below, meth, c, Q, w, bs⟩ := X
  obtain ⟨hx, hb, hml, hown, hts, hlk, hE, hfr, hlo, hrc, hrs, hst⟩ := h
  intro H locs ls hW hS hL
  rw [List.map_cons, List.map_cons, gvl_ref hz.1]
  have hn5 := gTable5 k h9.2
  have hP := g_arr hW h9.1 ⟨h9.2, hz⟩
  have e0 : gCon w (gSto k S) k z = (n, .inr (.inl fun j => if j < n then Int64.ofInt (gAE (gSto k S) k z j) else 0)) := by
    unfold gCon; rw [h0, hn]
  rw [e0] at hP
  refine va_lald hx hb hE.1 hP 0 (k - 9) rfl (hty w) (gi_in hi.1 hi.2 (by omega)) hd ?_
  rw [gi_cl ⟨by omega, by omega⟩, if_pos (by omega), Int.toNat_of_nonneg hi.1]
  exact K H locs ls hW hS hL
theorem g_aald (h : gOk X own cc nL lev rc rs) (pc : Nat) {k n t : Nat} {z i : Int} {C : String} (hd : decode cc pc = .ok (.aaload, 1)) (h9 : 9 ≤ k ∧ k < 58) (hz : 0 ≤ z ∧ z < gN k) (hn : (gAT k).1 = n) (h0 : (gAT k).2.1 = t + 3) (hty : ∀ w : gW, (gTys w)[k - 9]? = some (w.2.2 k, .object C)) (hi : 0 ≤ i ∧ i < n)
    (K : G X kc ks (pc + 1) L ((t + 3, gAE (gSto k S) k z i) :: st) S) : G X kc ks pc L ((0, i) :: (k + 3, z) :: st) S := by
  obtain ⟨p, l, e, R, s, m, args, below, meth, c, Q, w, bs⟩ := X
  obtain ⟨hx, hb, hml, hown, hts, hlk, hE, hfr, hlo, hrc, hrs, hst⟩ := h
  intro H locs ls hW hS hL
  rw [List.map_cons, List.map_cons, gvl_ref hz.1]
  have hn5 := gTable5 k h9.2
  have hP := g_arr hW h9.1 ⟨h9.2, hz⟩
  have e0 : gCon w (gSto k S) k z = (n, .inr (.inr (.inr (.inr fun j => if j < n ∧ ¬ gAE (gSto k S) k z j < 0 then some (w.2.1 t (gAE (gSto k S) k z j)) else none)))) := by
    unfold gCon; rw [h0, hn]
  rw [e0] at hP
  refine va_aldq hx hb hE.1 hP 0 (k - 9) rfl (hty w) (gi_in hi.1 hi.2 (by omega)) hd ?_
  have kk := K H locs ls hW hS hL
  rw [List.map_cons, gvl_rf] at kk
  rw [gi_cl ⟨by omega, by omega⟩, Int.toNat_of_nonneg hi.1]
  have e1 : (if i.toNat < n ∧ ¬ gAE (gSto k S) k z i < 0 then some (w.2.1 t (gAE (gSto k S) k z i)) else none) = (if gAE (gSto k S) k z i < 0 then none else some (w.2.1 t (gAE (gSto k S) k z i))) := by
    by_cases h1 : gAE (gSto k S) k z i < 0
    · rw [if_neg (fun q => q.2 h1), if_pos h1]
    · rw [if_pos ⟨by omega, h1⟩, if_neg h1]
  rw [e1]
  exact kk
theorem g_alen (h : gOk X own cc nL lev rc rs) (pc : Nat) {k n : Nat} {z : Int} {ty : FieldType} (hd : decode cc pc = .ok (.arraylength, 1)) (h9 : 9 ≤ k ∧ k < 58) (hz : 0 ≤ z ∧ z < gN k) (hn : (gAT k).1 = n) (hty : ∀ w : gW, (gTys w)[k - 9]? = some (w.2.2 k, ty))
    (K : G X kc ks (pc + 1) L ((0, (n : Int)) :: st) S) : G X kc ks pc L ((k + 3, z) :: st) S := by
  obtain ⟨p, l, e, R, s, m, args, below, meth, c, Q, w, bs⟩ := X
  obtain ⟨hx, hb, hml, hown, hts, hlk, hE, hfr, hlo, hrc, hrs, hst⟩ := h
  intro H locs ls hW hS hL
  rw [List.map_cons, gvl_ref hz.1]
  have hP := g_arr hW h9.1 ⟨h9.2, hz⟩
  refine va_alen hx hb hE.1 hP 0 (k - 9) rfl (hty w) (v := gi n) ?_ hd (K H locs ls hW hS hL)
  show Int32.ofNat (gAT k).1 = Int32.ofInt n
  rw [hn]
  exact (Int32.ofInt_eq_ofNat).symm
end GM
