/-- from the entry, for every script of at most 4608 ints, the law comes to its end with true -/
theorem whole_start {p : Program} {e : Env} {s : State} {m : MethodId} {below : List Frame} {meth : Method} {c : Code} (l : Launch) (hflags : l.flags = flags0) {b L : Nat} {xs : Nat → Int32} (hL : L ≤ 4608) (C0 : lw_At p s m meth c b L xs) : W p l e room_1 s m #[Value.ref b] below meth c s.heap [] 0 0 (lw_Z below #[Value.ref b] s) (entryFrame m ([Value.ref b] : List Value).toArray 7) := by
  obtain ⟨hx, hb, hr, hml, hown, hts, hX, hbl, hlocks, hgv⟩ := id C0
  have hst : l.stackTraces = false := by
    unfold Launch.stackTraces
    rw [hflags]
    decide
  have hfl := flat_of_before _ hgv
  have hgB : ∀ w ∈ gB, w.before #[Value.ref b] s = true := fun w hw => hts w (List.mem_filter.mp hw).1
  obtain ⟨c0, i0, hK0⟩ := u_known (C := RX0) (T := TX0) (N := 3) (n := 3) hgB win0 (hts _ (kw_inst ("Pagewright$Cache", 3) (by decide)))
  obtain ⟨c1, i1, hK1⟩ := u_known (C := RX1) (T := TX1) (N := 13) (n := 13) hgB win1 (hts _ (kw_inst ("Pagewright$Entry", 13) (by decide)))
  obtain ⟨c2, i2, hK2⟩ := u_known (C := RX2) (T := TX2) (N := 12) (n := 12) hgB win2 (hts _ (kw_inst ("Pagewright$Page", 12) (by decide)))
  obtain ⟨c3, i3, hK3⟩ := u_known (C := RX3) (T := TX3) (N := 5) (n := 5) hgB win3 (hts _ (kw_inst ("Pagewright$Record", 5) (by decide)))
  obtain ⟨c4, i4, hK4⟩ := u_known (C := RX4) (T := TX4) (N := 4) (n := 4) hgB win4 (hts _ (kw_inst ("Pagewright$Records", 4) (by decide)))
  obtain ⟨c5, i5, hK5⟩ := u_known (C := RX5) (T := TX5) (N := 6) (n := 6) hgB win5 (hts _ (kw_inst ("Pagewright$Space", 6) (by decide)))
  obtain ⟨c6, i6, hK6⟩ := u_known (C := RX6) (T := TX6) (N := 3) (n := 3) hgB win6 (hts _ (kw_inst ("Pagewright$Translation", 3) (by decide)))
  obtain ⟨c7, i7, hK7⟩ := u_known (C := RX7) (T := TX7) (N := 13) (n := 13) hgB win7 (hts _ (kw_inst ("Pagewright", 13) (by decide)))
  obtain ⟨c8, i8, hK8⟩ := u_known (C := RX8) (T := TX8) (N := 41) (n := 41) hgB win8 (hts _ (kw_inst ("PagewrightModel", 41) (by decide)))
  obtain ⟨dC, dI, hKc⟩ : ∃ (dC : Nat → ClassId) (dI : Nat → Nat → Nat), ∀ (k : Nat) (q : vw_C), vwCl[k]? = some q → u_Kn s q.1 q.2.1 q.2.2 (dC k) (dI k) := by
    refine ⟨fun k => match k with | 0 => c0 | 1 => c1 | 2 => c2 | 3 => c3 | 4 => c4 | 5 => c5 | 6 => c6 | 7 => c7 | _ => c8, fun k => match k with | 0 => i0 | 1 => i1 | 2 => i2 | 3 => i3 | 4 => i4 | 5 => i5 | 6 => i6 | 7 => i7 | _ => i8, ?_⟩
    intro k q hq
    match k, hq with
    | 0, hq => cases hq; exact hK0
    | 1, hq => cases hq; exact hK1
    | 2, hq => cases hq; exact hK2
    | 3, hq => cases hq; exact hK3
    | 4, hq => cases hq; exact hK4
    | 5, hq => cases hq; exact hK5
    | 6, hq => cases hq; exact hK6
    | 7, hq => cases hq; exact hK7
    | 8, hq => cases hq; exact hK8
    | k + 9, hq => simp at hq
  have hty : ∀ t : FieldType, (t ∈ [FieldType.int, .boolean, .long] ∨ ∃ C ∈ kObj, t = .object C) → ∃ cA : ClassId, ArrOfT s cA t ∧ va_RA s cA t := by
    intro t ht
    rcases ht with h | ⟨C, hC, rfl⟩
    · obtain ⟨cA, h1, h2⟩ := kty_p (hts _ (kw_prim t h))
      refine ⟨cA, h1, ?_⟩
      simp only [List.mem_cons, List.not_mem_nil, or_false] at h
      rcases h with rfl | rfl | rfl <;> exact h2
    · exact kty_q (hts _ (kw_over C hC))
  obtain ⟨fA, hfA⟩ : ∃ fA : FieldType → ClassId, ∀ t, (t ∈ [FieldType.int, .boolean, .long] ∨ ∃ C ∈ kObj, t = .object C) → ArrOfT s (fA t) t ∧ va_RA s (fA t) t := by
    refine Classical.axiomOfChoice (r := fun (t : FieldType) (cA : ClassId) => (t ∈ [FieldType.int, .boolean, .long] ∨ ∃ C ∈ kObj, t = .object C) → ArrOfT s cA t ∧ va_RA s cA t) fun t => ?_
    by_cases h : t ∈ [FieldType.int, .boolean, .long] ∨ ∃ C ∈ kObj, t = .object C
    · obtain ⟨cA, h1⟩ := hty t h
      exact ⟨cA, fun _ => h1⟩
    · exact ⟨c0, fun q => absurd q h⟩
  obtain ⟨w, hw⟩ : ∃ w : gW, w = ((dC, dI), (fun k z => if k = 58 then b else s.heap.size + gOff k z), fun k => fA (kTL.getD (k - 9) .int)) := ⟨_, rfl⟩
  have hlay : kLay w s.heap.size := by
    intro k z hk
    rw [hw]
    show (if k = 58 then b else _) = _
    rw [if_neg (by omega)]
  have h58 : w.2.1 58 0 = b := by rw [hw]; rfl
  have hK : va_K w.1 vwCl (gTys w) s := by
    refine ⟨by rw [hw]; exact hKc, fun k q hq => ?_⟩
    rw [kTL_eq, List.getElem?_map] at hq
    have hk : k < 49 := by
      cases hr9 : (List.range 49)[k]? with
      | none => rw [hr9] at hq; cases hq
      | some x => have := (List.getElem?_eq_some_iff.mp hr9).1; rwa [List.length_range] at this
    rw [List.getElem?_range hk] at hq
    cases hq
    have e9 : w.2.2 (k + 9) = fA (kTL.getD k .int) := by rw [hw]; show fA (kTL.getD (k + 9 - 9) .int) = _; rw [Nat.add_sub_cancel]
    show ArrOfT s (w.2.2 (k + 9)) _ ∧ va_RA s (w.2.2 (k + 9)) _
    rw [e9]
    exact hfA _ (kTL_in k hk)
  have hZ1 : vx_Zq Bundle.tN "UNASSIGNED_STACK" Bundle.steD (fun q => s.heap.size ≤ q) s s.heap := vx_Zqof (hts _ (List.mem_of_getElem? (i := 443) (by decide +kernel))) (hts _ (List.mem_of_getElem? (i := 110) (by decide +kernel))) (hfl _ (by decide +kernel)) (fun a h => Nat.not_le.mpr h)
  have hZ2 : vx_Zq Bundle.tN "SUPPRESSED_SENTINEL" Bundle.listD (fun q => s.heap.size ≤ q) s s.heap := vx_Zqof (hts _ (List.mem_of_getElem? (i := 445) (by decide +kernel))) (hts _ (List.mem_of_getElem? (i := 110) (by decide +kernel))) (hfl _ (by decide +kernel)) (fun a h => Nat.not_le.mpr h)
  have hE : gEnv w s.heap.size s s.heap := ⟨hK, hlay.apart, fun k z h => by rw [hlay k z h.1]; exact Nat.le_add_right _ _, Nat.le_refl _, hZ1, hZ2⟩
  have hS : gStr s := by
    refine ⟨fun q hq => ?_, fun q hq => va_Nw.of rfl (hts _ (kw_nest q hq)), fun q hq => va_Nw.of rfl (hts _ (kw_decl q hq)), fun q hq => va_Nw.of rfl (hts _ (kw_cast q hq)), fun q hq => va_Nc.of (hfl _ (kw_nots q hq))⟩
    have h1 : ∀ q ∈ gStrs, q.1 = RX7 := by decide
    have hcur : s.vm.findClass q.1 = some c7 := by rw [h1 q hq]; exact hK7.2.1
    obtain ⟨k, cf, i, a, -, -, -, -, -, h6⟩ := Cond.stringRef_spec hcur (hts _ (kw_strs q hq))
    exact ⟨a, vk_R.of (hts _ (kw_strs q hq)) h6⟩
  have hk := law_kj (X := (p, l, e, room_1, s, m, #[Value.ref b], below, meth, c, lw_Z below #[Value.ref b] s, w, s.heap.size)) (l := l) (w := w) (bs := s.heap.size) (Ln := L) (xs := xs) hst
    ⟨hx, hb, hml, hown, hgB, hlocks, hE, by decide, by decide, rfl, rfl, hst, hS⟩ ⟨rfl, rfl, rfl⟩ (fun C hC => va_AO.of (hts _ (kw_over C hC))) hlay
    ⟨by rw [h58]; exact hX, by rw [h58]; exact hbl, by rw [h58]; exact Nat.not_le.mpr hbl⟩ hL (fun i S H locs ls hW hS9 hL9 => by
      refine lv_iconst (v := 1) hx hb dL_law_1992 (by decide) ?_
      exact va_forget (fun q hq => hS9.2.2 q hq) (lw_ret hx hb hr hlocks dL_law_1993))
  have e0 : ([Value.ref b] : List Value) = [((61 : Nat), (0 : Int))].map (gvl w) := by
    show [_] = [gvl w (58 + 3, 0)]
    rw [gvl_ref (Int.le_refl 0), h58]
  have hh := hk s.heap [] _ ⟨rfl, fun i hi => absurd hi (Nat.not_lt_zero i)⟩ va_S.rf (g_entry (w := w) (av := [(61, 0)]) (nL := 7) (by decide) (by decide))
  rw [← e0] at hh
  rw [lg_entry_eq]
  exact hh
