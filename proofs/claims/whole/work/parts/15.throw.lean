theorem gTw_X7_demand : gTw "Pagewright" 276 "java/lang/IllegalArgumentException" := gTw_of (by decide +kernel)
def FX7_demand (a_holds : Int) (s : S2) : Option (Int × S2) := gd (0 ≤ a_holds ∧ a_holds ≤ 1) <| if a_holds ≠ 0 then some (0, s) else some ((-1000000000002), s)
set_option maxRecDepth 100000 in
set_option maxHeartbeats 4000000 in
theorem ctX7_demand {l : Launch} {w : gW} {bs : Nat} (hl : l.stackTraces = false) {a_holds : Int} {s m s0 : S2} {r0 : Int} (hF : FX7_demand a_holds s = some (r0, s0)) : gMet l w bs yX7_demand cX7_demand 1 none 6 1 [(0, a_holds)] (s, m) (gxc r0) none (s0, m) := by
  unfold FX7_demand at hF
  obtain ⟨q_a, hF⟩ := gd_some hF
  refine g_start hl (by decide) (Nat.le_of_ble_eq_true rfl) rfl fun X h hE => ?_
  have h : gOk X "Pagewright" cX7_demand 1 6 1 6 := h
  have hE : gEnd X l w bs 1 none (gxc r0) none (s0, m) := hE
  show G X 0 0 0 [(0, a_holds)] [] (s, m)
  refine g_iload_n h 0 dX7_demand_0 rfl ?_
  refine g_if_ne h 1 15 (gRi (by omega)) dX7_demand_1 (by decide) (fun h1 => ?_) (fun h1 => ?_)
  · have hF := ite_t h1 hF
    obtain ⟨e1, e2⟩ := some_2 hF
    rw [← e1, ← e2, gxc_0 gR_0] at hE
    exact g_vret h 15 dX7_demand_15 hE rfl ⟨Nat.le_of_ble_eq_true rfl, Nat.le_of_ble_eq_true rfl⟩
  · have hF := ite_f (fun q => q h1) hF
    obtain ⟨e1, e2⟩ := some_2 hF
    have hcx : gxc (-1000000000002) = 2 := by decide
    rw [← e1, ← e2] at hE
    exact g_throw (text := "out of range") h hE 4 dX7_demand_4 dX7_demand_7 dX7_demand_8 dX7_demand_11 dX7_demand_14 kw_416 kw_113 (by decide) gTw_X7_demand (by decide) ⟨by rw [hcx]; decide, by rw [hcx]; rfl⟩ (by decide) (Nat.le_of_ble_eq_true rfl) ⟨Nat.le_of_ble_eq_true rfl, Nat.le_of_ble_eq_true rfl⟩ ⟨Nat.le_of_ble_eq_true rfl, Nat.le_of_ble_eq_true rfl⟩ rfl
theorem gTw_X7_permit : gTw "Pagewright" 283 "java/lang/IllegalStateException" := gTw_of (by decide +kernel)
def FX7_permit (a_holds : Int) (s : S2) : Option (Int × S2) := gd (0 ≤ a_holds ∧ a_holds ≤ 1) <| if a_holds ≠ 0 then some (0, s) else some ((-1000000000003), s)
set_option maxRecDepth 100000 in
set_option maxHeartbeats 4000000 in
theorem ctX7_permit {l : Launch} {w : gW} {bs : Nat} (hl : l.stackTraces = false) {a_holds : Int} {s m s0 : S2} {r0 : Int} (hF : FX7_permit a_holds s = some (r0, s0)) : gMet l w bs yX7_permit cX7_permit 1 none 6 1 [(0, a_holds)] (s, m) (gxc r0) none (s0, m) := by
  unfold FX7_permit at hF
  obtain ⟨q_a, hF⟩ := gd_some hF
  refine g_start hl (by decide) (Nat.le_of_ble_eq_true rfl) rfl fun X h hE => ?_
  have h : gOk X "Pagewright" cX7_permit 1 6 1 6 := h
  have hE : gEnd X l w bs 1 none (gxc r0) none (s0, m) := hE
  show G X 0 0 0 [(0, a_holds)] [] (s, m)
  refine g_iload_n h 0 dX7_permit_0 rfl ?_
  refine g_if_ne h 1 15 (gRi (by omega)) dX7_permit_1 (by decide) (fun h1 => ?_) (fun h1 => ?_)
  · have hF := ite_t h1 hF
    obtain ⟨e1, e2⟩ := some_2 hF
    rw [← e1, ← e2, gxc_0 gR_0] at hE
    exact g_vret h 15 dX7_permit_15 hE rfl ⟨Nat.le_of_ble_eq_true rfl, Nat.le_of_ble_eq_true rfl⟩
  · have hF := ite_f (fun q => q h1) hF
    obtain ⟨e1, e2⟩ := some_2 hF
    have hcx : gxc (-1000000000003) = 3 := by decide
    rw [← e1, ← e2] at hE
    exact g_throw (text := "not as things are") h hE 4 dX7_permit_4 dX7_permit_7 dX7_permit_8 dX7_permit_11 dX7_permit_14 kw_487 kw_114 (by decide) gTw_X7_permit (by decide) ⟨by rw [hcx]; decide, by rw [hcx]; rfl⟩ (by decide) (Nat.le_of_ble_eq_true rfl) ⟨Nat.le_of_ble_eq_true rfl, Nat.le_of_ble_eq_true rfl⟩ ⟨Nat.le_of_ble_eq_true rfl, Nat.le_of_ble_eq_true rfl⟩ rfl
theorem gTw_X7_known : gTw "Pagewright" 288 "java/lang/IndexOutOfBoundsException" := gTw_of (by decide +kernel)
def FX7_known (a_space : Int) (s : S2) : Option (Int × S2) := gd (-2147483648 ≤ a_space ∧ a_space ≤ 2147483647) <| if (a_space < 0 ∨ s 41 0 ≤ a_space) ∨ 6 ≤ a_space then some ((-1000000000001), s) else some (a_space, s)
theorem rgX7_known {a_space : Int} {s s0 : S2} {r0 : Int} (hF : FX7_known a_space s = some (r0, s0)) : gxc r0 ≠ 0 ∨ 0 ≤ r0 ∧ r0 ≤ 5 := by
  unfold FX7_known at hF
  obtain ⟨q_a, hF⟩ := gd_some hF
  by_cases hc : (a_space < 0 ∨ s 41 0 ≤ a_space) ∨ 6 ≤ a_space
  · obtain ⟨e1, e2⟩ := some_2 (ite_t hc hF)
    rw [← e1]; exact Or.inl (by decide)
  · obtain ⟨e1, e2⟩ := some_2 (ite_f hc hF)
    rw [← e1]; exact Or.inr (by omega)
set_option maxRecDepth 100000 in
set_option maxHeartbeats 4000000 in
theorem ctX7_known {l : Launch} {w : gW} {bs : Nat} (hl : l.stackTraces = false) {a_space : Int} {s m s0 : S2} {r0 : Int} (hF : FX7_known a_space s = some (r0, s0)) : gMet l w bs yX7_known cX7_known 2 (some (.object "Pagewright$Space")) 6 1 [(10, 0), (0, a_space)] (s, m) (gxc r0) (some (8, r0)) (s0, m) := by
  unfold FX7_known at hF
  obtain ⟨q_a, hF⟩ := gd_some hF
  refine g_start hl (by decide) (Nat.le_of_ble_eq_true rfl) rfl fun X h hE => ?_
  have h : gOk X "Pagewright" cX7_known 2 6 1 6 := h
  have hE : gEnd X l w bs 1 (some (.object "Pagewright$Space")) (gxc r0) (some (8, r0)) (s0, m) := hE
  show G X 0 0 0 [(10, 0), (0, a_space)] [] (s, m)
  have JT : (a_space < 0 ∨ s 41 0 ≤ a_space) ∨ 6 ≤ a_space → G X 0 0 18 [(10, 0), (0, a_space)] [] (s, m) := by
    intro hc
    obtain ⟨e1, e2⟩ := some_2 (ite_t hc hF)
    have hcx : gxc (-1000000000001) = 1 := by decide
    rw [← e1, ← e2] at hE
    exact g_throw (text := "no such space") h hE 18 dX7_known_18 dX7_known_21 dX7_known_22 dX7_known_25 dX7_known_28 kw_519 kw_115 (by decide) gTw_X7_known (by decide) ⟨by rw [hcx]; decide, by rw [hcx]; rfl⟩ (by decide) (Nat.le_of_ble_eq_true rfl) ⟨Nat.le_of_ble_eq_true rfl, Nat.le_of_ble_eq_true rfl⟩ ⟨Nat.le_of_ble_eq_true rfl, Nat.le_of_ble_eq_true rfl⟩ rfl
  have JF : ¬ ((a_space < 0 ∨ s 41 0 ≤ a_space) ∨ 6 ≤ a_space) → G X 0 0 29 [(10, 0), (0, a_space)] [] (s, m) := by
    intro hc
    obtain ⟨e1, e2⟩ := some_2 (ite_f hc hF)
    rw [← e1, ← e2, gxc_0 (gRi (by omega))] at hE
    refine g_aload_nq h 29 dX7_known_29 rfl rfl ?_
    refine gf_spaces h 30 dX7_known_30 kw_361 ?_
    refine g_iload_n h 33 dX7_known_33 rfl ?_
    refine al_spaces h 34 dX7_known_34 (by omega) ?_
    exact g_aret h 35 dX7_known_35 hE rfl ⟨Nat.le_of_ble_eq_true rfl, Nat.le_of_ble_eq_true rfl⟩
  refine G_typ fun hT => ?_
  have t1 : 0 ≤ s 41 0 ∧ s 41 0 ≤ 6 := hT.1 41 0
  refine g_iload_n h 0 dX7_known_0 rfl ?_
  refine g_if_lt h 1 18 (gRi (by omega)) dX7_known_1 (by decide) (fun h1 => JT (Or.inl (Or.inl h1))) (fun h1 => ?_)
  refine g_iload_n h 4 dX7_known_4 rfl ?_
  refine g_aload_nq h 5 dX7_known_5 rfl rfl ?_
  refine gf_made h 6 dX7_known_6 kw_371 ?_
  refine g_icmp_ge h 9 18 (gRi (by omega)) (gRi (by omega)) dX7_known_9 (by decide) (fun h2 => JT (Or.inl (Or.inr h2))) (fun h2 => ?_)
  refine g_iload_n h 12 dX7_known_12 rfl ?_
  refine g_bipush h 13 dX7_known_13 (by decide) ?_
  exact g_icmp_lt h 15 29 (gRi (by omega)) (gRi (by omega)) dX7_known_15 (by decide) (fun h3 => JF (by omega)) (fun h3 => JT (Or.inr h3))
theorem gTw_X7_cacheOf : gTw "Pagewright" 288 "java/lang/IndexOutOfBoundsException" := gTw_of (by decide +kernel)
def FX7_cacheOf (a_processor : Int) (s : S2) : Option (Int × S2) := gd (-2147483648 ≤ a_processor ∧ a_processor ≤ 2147483647) <| if a_processor < 0 ∨ 2 ≤ a_processor then some ((-1000000000001), s) else some (a_processor, s)
theorem rgX7_cacheOf {a_processor : Int} {s s0 : S2} {r0 : Int} (hF : FX7_cacheOf a_processor s = some (r0, s0)) : gxc r0 ≠ 0 ∨ 0 ≤ r0 ∧ r0 ≤ 1 := by
  unfold FX7_cacheOf at hF
  obtain ⟨q_a, hF⟩ := gd_some hF
  by_cases hc : a_processor < 0 ∨ 2 ≤ a_processor
  · obtain ⟨e1, e2⟩ := some_2 (ite_t hc hF)
    rw [← e1]; exact Or.inl (by decide)
  · obtain ⟨e1, e2⟩ := some_2 (ite_f hc hF)
    rw [← e1]; exact Or.inr (by omega)
set_option maxRecDepth 100000 in
set_option maxHeartbeats 4000000 in
theorem ctX7_cacheOf {l : Launch} {w : gW} {bs : Nat} (hl : l.stackTraces = false) {a_processor : Int} {s m s0 : S2} {r0 : Int} (hF : FX7_cacheOf a_processor s = some (r0, s0)) : gMet l w bs yX7_cacheOf cX7_cacheOf 2 (some (.object "Pagewright$Cache")) 6 1 [(10, 0), (0, a_processor)] (s, m) (gxc r0) (some (3, r0)) (s0, m) := by
  unfold FX7_cacheOf at hF
  obtain ⟨q_a, hF⟩ := gd_some hF
  refine g_start hl (by decide) (Nat.le_of_ble_eq_true rfl) rfl fun X h hE => ?_
  have h : gOk X "Pagewright" cX7_cacheOf 2 6 1 6 := h
  have hE : gEnd X l w bs 1 (some (.object "Pagewright$Cache")) (gxc r0) (some (3, r0)) (s0, m) := hE
  show G X 0 0 0 [(10, 0), (0, a_processor)] [] (s, m)
  have JT : a_processor < 0 ∨ 2 ≤ a_processor → G X 0 0 9 [(10, 0), (0, a_processor)] [] (s, m) := by
    intro hc
    obtain ⟨e1, e2⟩ := some_2 (ite_t hc hF)
    have hcx : gxc (-1000000000001) = 1 := by decide
    rw [← e1, ← e2] at hE
    exact g_throw (text := "no such processor") h hE 9 dX7_cacheOf_9 dX7_cacheOf_12 dX7_cacheOf_13 dX7_cacheOf_16 dX7_cacheOf_19 kw_519 kw_115 (by decide) gTw_X7_cacheOf (by decide) ⟨by rw [hcx]; decide, by rw [hcx]; rfl⟩ (by decide) (Nat.le_of_ble_eq_true rfl) ⟨Nat.le_of_ble_eq_true rfl, Nat.le_of_ble_eq_true rfl⟩ ⟨Nat.le_of_ble_eq_true rfl, Nat.le_of_ble_eq_true rfl⟩ rfl
  have JF : ¬ (a_processor < 0 ∨ 2 ≤ a_processor) → G X 0 0 20 [(10, 0), (0, a_processor)] [] (s, m) := by
    intro hc
    obtain ⟨e1, e2⟩ := some_2 (ite_f hc hF)
    rw [← e1, ← e2, gxc_0 (gRi (by omega))] at hE
    refine g_aload_nq h 20 dX7_cacheOf_20 rfl rfl ?_
    refine gf_caches h 21 dX7_cacheOf_21 kw_363 ?_
    refine g_iload_n h 24 dX7_cacheOf_24 rfl ?_
    refine al_caches h 25 dX7_cacheOf_25 (by omega) ?_
    exact g_aret h 26 dX7_cacheOf_26 hE rfl ⟨Nat.le_of_ble_eq_true rfl, Nat.le_of_ble_eq_true rfl⟩
  refine g_iload_n h 0 dX7_cacheOf_0 rfl ?_
  refine g_if_lt h 1 9 (gRi (by omega)) dX7_cacheOf_1 (by decide) (fun h1 => JT (Or.inl h1)) (fun h1 => ?_)
  refine g_iload_n h 4 dX7_cacheOf_4 rfl ?_
  refine g_iconst h 5 dX7_cacheOf_5 ?_
  exact g_icmp_lt h 6 20 (gRi (by omega)) (gRi (by omega)) dX7_cacheOf_6 (by decide) (fun h3 => JF (by omega)) (fun h3 => JT (Or.inr h3))
/-! a static call of a nest mate's private method -/
theorem gMet_met {l : Launch} {w : gW} {bs : Nat} {y : MethodName} {cy : ByteArray} {nL : Nat} {ret : Option FieldType} {lev : Nat} {av : List (Nat × Int)} {S : gS} {rv : Option (Nat × Int)} {S' : gS} (h : gMet l w bs y cy nL ret lev 0 av S 0 rv S') : Met l y (gWs y cy nL ret) (gRm lev 0) (gP w bs S av) (gQ w bs 0 rv S') 0 (6 * 0) (fun q => bs ≤ q) := by
  intro p e ha hc hk s m args below hf happ hP hK
  obtain ⟨n, o, h1, h2, h3, h4⟩ := h p e ha hc hk s m args below hf happ hP hK
  refine ⟨n, o, h1, h2, h3, ?_⟩
  rcases h4 with h4 | ⟨q, -, E, ce, L, hx, -⟩
  · exact h4
  · exact absurd rfl hx.1
theorem g_callSN {X : gX} {own : String} {cc : ByteArray} {nL lev rc rs kc ks : Nat} {L st : List (Nat × Int)} {S S' : gS} {l : Launch} {w : gW} {bs mc : Nat} {ret : Option FieldType} {x0 : Nat} {rv0 : Option (Nat × Int)} {S0 : gS} (h : gOk X own cc nL lev rc rs) (hE : gEnd X l w bs mc ret x0 rv0 S0) (pc : Nat) {idx n nLy levy : Nat} {y : MethodName} {cy : ByteArray} {rety : Option FieldType} {as stk : List (Nat × Int)} {rv : Option (Nat × Int)} {host : String}
    (hd : decode cc pc = .ok (.invokestatic idx, 3)) (hM : gMet l w bs y cy nLy rety levy 0 as S 0 rv S') (hw : gMw y cy nLy rety n false) (hl : (own, idx, y, host) ∈ gNests) (hlev : levy + 1 ≤ lev) (hn : as.length = n) (hst4 : st.length ≤ 4) (hcell : kc ≤ rc ∧ ks ≤ rs) (hstk : as.reverse ++ st = stk) (hnL : L.length = nL)
    (K : G X kc ks (pc + 3) L (rv.toList ++ st) S') : G X kc ks pc L stk S := by
  subst hstk
  obtain ⟨p, l', e, R, s, m, args, below, meth, c, Q, w', bs'⟩ := X
  obtain ⟨hx, hb, hml, hown, hts, hlk, hEn, hfr, hlo, hrc, hrs, hst⟩ := h
  obtain ⟨rfl, rfl, rfl, hret, htab, rfl⟩ := hE
  obtain ⟨w1, w2, w3, w4, w5⟩ := hw
  rw [if_neg (by decide)] at w5
  intro H locs ls hW hS hL T hT X9
  have hG : GoodIn gB (gWs y cy nLy rety) := gB_in (by
    intro v hv
    simp only [gWs, List.mem_cons] at hv
    rcases hv with rfl | hv
    · exact w1
    · exact hv)
  have hr := va_runSN (As := as.map (gvl w')) (rest := st.map (gvl w')) (g := F0 m pc ls ((as.reverse ++ st).map (gvl w'))) (cells := kc) (slots := ks) (R := R) (l := l') (e := e) (below := below) (meth := meth) (H := H) (locs := locs) ⟨hx, hb, hml, hown, hts⟩ (gMet_met hM) ⟨va_cnB n hts hG rfl rfl rfl (hst.2.2.1 _ hl) (hts _ w2) w3 ⟨by show levy + 1 ≤ R.frames; omega, by
      show 8 + (nLy + 11) + 40 * levy ≤ R.locals
      omega⟩, hts _ w5, trivial⟩
    ⟨gP_blind, fun U hU hWm => ⟨rfl, by rw [hU]; exact hW, gEnv_at hEn hS hU hWm, hst.2.warm hWm⟩⟩ rfl (by rw [List.length_map]; exact hn) (gSz hL hnL) (by
      show (as.reverse ++ st).map (gvl w') = _
      rw [List.map_append, List.map_reverse]) (lv_room (by have := gvl_sum w' st; omega)) hd ⟨by rw [hrc]; exact hcell.1, by rw [hrs]; exact hcell.2⟩
  obtain ⟨v, st₀, t, T', L', h0, X', hLf, e1, e2, ⟨hx0, hv, hw', hF⟩, stp⟩ := hr T hT X9
  cases hv
  obtain ⟨k1, k2, k3⟩ := vx_keep h0 e1 hS (fun q _ h => h) (fun q h => h) hLf hF
  obtain ⟨t2, a1, b1⟩ := K T'.heap (locs ++ L') ls (by rw [e1]; exact hw') k3 hL T' rfl X'
  refine ⟨t2, stp t2 ?_, b1⟩
  rw [List.map_append] at a1
  cases rv <;> exact a1
