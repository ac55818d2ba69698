/-! a frame for a new page -/
/-- what stays while a frame is sought -/
def WF (σ μ s m : S2) : Prop := (∀ k, k ∈ [0, 16, 21, 22, 24, 25, 33, 34, 36, 37, 38, 39, 41, 42, 43, 47, 51] → s k = σ k) ∧ (∀ k, k ∈ [101, 102, 104, 105, 107, 108, 109, 110, 112, 113, 114, 115, 117, 118, 122, 125, 126, 127] → m k = μ k) ∧ (∀ e, 0 ≤ e → e ≤ 191 → s 35 (e / 32) ≠ 0 → (s 2 e = σ 2 e ∧ s 3 e = σ 3 e ∧ s 4 e = σ 4 e ∧ s 5 e = σ 5 e ∧ s 6 e = σ 6 e ∧ s 7 e = σ 7 e) ∧ ((s 8 e = σ 8 e ∧ s 9 e = σ 9 e ∧ s 10 e = σ 10 e) ∨ (σ 8 e = 1 ∧ s 8 e ≠ 1))) ∧ (∀ q, s 35 q = σ 35 q ∨ s 35 q = 0) ∧ ∀ e, 0 ≤ e → e ≤ 191 → s 8 e = 1 → σ 8 e = 1 ∧ s 9 e = σ 9 e ∧ s 10 e = σ 10 e
theorem WF_rf {σ μ : S2} : WF σ μ σ μ := ⟨fun _ _ => rfl, fun _ _ => rfl, fun _ _ _ _ => ⟨⟨rfl, rfl, rfl, rfl, rfl, rfl⟩, Or.inl ⟨rfl, rfl, rfl⟩⟩, fun _ => Or.inl rfl, fun _ _ _ h => ⟨h, rfl, rfl⟩⟩
theorem WF_tr {σ μ s m s' m' : S2} (h1 : WF σ μ s m) (h2 : WF s m s' m') : WF σ μ s' m' := by
  refine ⟨fun k hk => (h2.1 k hk).trans (h1.1 k hk), fun k hk => (h2.2.1 k hk).trans (h1.2.1 k hk), fun e e0 e1 he => ?_, fun q => ?_, fun e e0 e1 he => ?_⟩
  · have a1 := h2.2.2.2.1 (e / 32)
    have a2 := h2.2.2.1 e e0 e1 he
    have a3 := h1.2.2.1 e e0 e1 (by rcases a1 with w | w; rw [← w]; exact he; exact absurd w he)
    omega
  · have a1 := h1.2.2.2.1 q
    have a2 := h2.2.2.2.1 q
    omega
  · have a2 := h2.2.2.2.2 e e0 e1 he
    have a1 := h1.2.2.2.2 e e0 e1 a2.1
    omega
theorem WF_EF {σ μ s m : S2} (h : EF σ μ s m) : WF σ μ s m := by
  have h35 : s 35 = σ 35 := h.1 35 (by decide)
  refine ⟨fun k hk => h.1 k ?_, fun k hk => h.2.1 k ?_, fun e e0 e1 he => ⟨?_, h.2.2 e e0 e1⟩, fun q => Or.inl (by rw [h35]), fun e e0 e1 he => ?_⟩
  · simp only [List.mem_cons, List.not_mem_nil, or_false] at hk ⊢; omega
  · simp only [List.mem_cons, List.not_mem_nil, or_false] at hk ⊢; omega
  · rw [h.1 2 (by decide), h.1 3 (by decide), h.1 4 (by decide), h.1 5 (by decide), h.1 6 (by decide), h.1 7 (by decide)]
    exact ⟨rfl, rfl, rfl, rfl, rfl, rfl⟩
  · have := h.2.2 e e0 e1
    omega
theorem WF_ob {σ μ s m : S2} (h1 : ∀ k, k ∉ [1, 13, 14, 50] → s k = σ k) (h2 : ∀ k, k ∉ [135, 136, 137, 138, 139] → m k = μ k) : WF σ μ s m := by
  have g := fun k hk => h1 k hk
  refine ⟨fun k hk => h1 k ?_, fun k hk => h2 k ?_, fun e e0 e1 he => ?_, fun q => Or.inl (by rw [g 35 (by decide)]), fun e e0 e1 he => ?_⟩
  · simp only [List.mem_cons, List.not_mem_nil, or_false] at hk ⊢; omega
  · simp only [List.mem_cons, List.not_mem_nil, or_false] at hk ⊢; omega
  · rw [g 2 (by decide), g 3 (by decide), g 4 (by decide), g 5 (by decide), g 6 (by decide), g 7 (by decide), g 8 (by decide), g 9 (by decide), g 10 (by decide)]
    exact ⟨⟨rfl, rfl, rfl, rfl, rfl, rfl⟩, Or.inl ⟨rfl, rfl, rfl⟩⟩
  · rw [g 8 (by decide)] at he
    rw [g 9 (by decide), g 10 (by decide)]
    exact ⟨he, rfl, rfl⟩
/-- a kill: the space, the counter -/
theorem WF_BF {B v : Int} {σ μ s m m2 : S2} {c d : Int → Int} (hv : 0 ≤ v ∧ v ≤ 5) (h : BF v σ μ s m2) (hm : m = sc m2 140 d) (hR : Rg (-1) (-1) B (sc s 48 c) m) : WF σ μ (sc s 48 c) m := by
  obtain ⟨h1, h2, h3, h4, h5, h6⟩ := h
  have hp := hR.2.2.2.1
  have e3 : (sc s 48 c) 3 = s 3 := sc_k (by decide)
  have e8 : (sc s 48 c) 8 = s 8 := sc_k (by decide)
  refine ⟨fun k hk => ?_, fun k hk => ?_, fun e e0 e1 he => ?_, fun q => ?_, fun e e0 e1 he => ?_⟩
  · simp only [List.mem_cons, List.not_mem_nil, or_false] at hk
    rw [sc_k (by omega)]
    refine h1 k ?_
    simp only [List.mem_cons, List.not_mem_nil, or_false]
    omega
  · simp only [List.mem_cons, List.not_mem_nil, or_false] at hk
    rw [hm, sc_k (by omega)]
    refine h2 k ?_
    simp only [List.mem_cons, List.not_mem_nil, or_false]
    omega
  · simp (disch := decide) only [sc_k] at he ⊢
    rw [h6] at he
    have hne : e / 32 ≠ v := fun q => he (by rw [q]; exact uc_s)
    have g := h3 e (by omega)
    omega
  · simp (disch := decide) only [sc_k]
    rw [h6]
    unfold uc
    split <;> omega
  · simp (disch := decide) only [sc_k] at he ⊢
    by_cases hev : 32 * v ≤ e ∧ e < 32 * v + 32
    · have g1 := h4 e hev.1 hev.2
      have g2 := (hp e e0 e1).2.1 (by rw [e3]; exact g1)
      rw [e8] at g2
      omega
    · have g := h3 e hev
      omega
/-- how many pages and living spaces there are -/
def msI (σ : S2) : Int := cntI (fun f => σ 15 f ≠ 0) 24 + cntI (fun s => σ 35 s ≠ 0) 6
theorem ms_r (σ : S2) : 0 ≤ msI σ ∧ msI σ ≤ 30 := by
  have h1 := cntI_r (fun f => σ 15 f ≠ 0) 24
  have h2 := cntI_r (fun s => σ 35 s ≠ 0) 6
  unfold msI
  omega
theorem ms_ev {σ s : S2} {f : Int} (hf : 0 ≤ f ∧ f ≤ 23) (hk : σ 15 f ≠ 0) (h15 : s 15 = uc (σ 15) f 0) (h35 : s 35 = σ 35) : msI s + 1 = msI σ := by
  unfold msI
  rw [h15, h35]
  have e := cntI_one (p := fun d => uc (σ 15) f 0 d ≠ 0) (q := fun d => σ 15 d ≠ 0) (a := f) (n := 24) hf.1 (by omega) (fun i _ _ hi => by rw [uc_n hi])
  rw [if_neg (fun q => q uc_s), if_pos hk] at e
  omega
theorem ms_ki {σ s : S2} {v : Int} (hv : 0 ≤ v ∧ v ≤ 5) (hl : σ 35 v ≠ 0) (h15 : ∀ f, s 15 f = σ 15 f ∨ s 15 f = 0) (h35 : s 35 = uc (σ 35) v 0) : msI s + 1 ≤ msI σ := by
  unfold msI
  rw [h35]
  have e := cntI_one (p := fun d => uc (σ 35) v 0 d ≠ 0) (q := fun d => σ 35 d ≠ 0) (a := v) (n := 6) hv.1 (by omega) (fun i _ _ hi => by rw [uc_n hi])
  rw [if_neg (fun q => q uc_s), if_pos hl] at e
  have e2 := cntI_le (p := fun f => s 15 f ≠ 0) (q := fun f => σ 15 f ≠ 0) (n := 24) (fun i _ _ hi q => by have := h15 i; omega)
  omega
theorem L_take2 {q : Int} (hq : -1 ≤ q ∧ q ≤ 5) : ∀ (n : Nat) (B : Int) (σ μ : S2) (x : Int) (fC fM : Nat), B + 2100 * n ≤ 2147483647 → Rg (-1) (-1) B σ μ → msI σ < n → 0 ≤ x → x + 2 * n < 100000 → 2 * n < fC → 2 * n < fM → ∃ r s1 m1, gl1 fC (fun k6 (x_turn3 : Int) (s11 : S2) => if x_turn3 < 100000 then cb (FX7_lowestWithoutPage 0 s11) fun r5 s12 => if r5 ≠ (-1) then some (r5, s12) else bn (fun (s13 : S2) => k6 (x_turn3 + 1) s13) fun k7 => cb (FX7_lowestWithoutPage 1 s12) fun r6 s14 => if r6 ≠ (-1) then cb (FX7_handleAll s14) fun r10 s20 => k7 s20 else bn (fun (s15 : S2) => k7 s15) fun k8 => cb (FX7_evictOne (-1) s14) fun r7 s16 => if r7 ≠ 0 then k8 s16 else cb (FX7_victim (-1) s16) fun r8 s17 => if r8 < 0 then some ((-5), s17) else cb (FX7_bury r8 s17) fun r9 s18 => bn (upd2 s18 48 7 ((s18 48 7) + 1)) fun s19 => if r8 = q then some ((-4), s19) else k8 s19 else some ((-5), s11)) x σ = some (r, s1) ∧ gl0 fM (fun k4 (s5 : S2) => gl2 1000 (fun k5 (x_some1 : Int) (x_f1 : Int) (s6 : S2) => if x_f1 < 24 then bn (fun (s7 : S2) => some (x_f1, s7)) fun k6 => bn (fun (s8 : S2) => k5 (gOr x_some1 (if s8 121 x_f1 = 0 then 1 else 0 : Int)) (x_f1 + 1) s8) fun k7 => if s6 121 x_f1 = 0 then cb (FX8_lingers x_f1 s6) fun r2 s9 => if r2 ≠ 0 then k7 s9 else k6 s9 else k7 s6 else bn (fun (s10 : S2) => k4 s10) fun k8 => if x_some1 ≠ 0 then cb (FX8_handles 0 s6) fun r3 s11 => cb (FX8_handles 1 s11) fun r4 s12 => k8 s12 else bn (fun (s13 : S2) => k8 s13) fun k9 => cb (FX8_evicts (-1) s6) fun r5 s14 => if r5 ≠ 0 then k9 s14 else cb (FX8_kills (-1) s14) fun r6 s15 => if r6 = (-1) then some ((-5), s15) else if r6 = q then some ((-4), s15) else k9 s15) 0 0 s5) μ = some (r, m1) ∧ Rg (-1) (-1) (B + 2100 * n) s1 m1 ∧ WF σ μ s1 m1 ∧ -5 ≤ r ∧ r ≤ 23 ∧ (0 ≤ r → s1 15 r = 0) ∧ (r < 0 → (r = -4 ∧ 0 ≤ q) ∨ r = -5) ∧ (r ≠ -4 → 0 ≤ q → s1 35 q = σ 35 q)
  | n, B, σ, μ, x, 0, fM, _, _, _, _, _, hf, _ => absurd hf (Nat.not_lt_zero _)
  | n, B, σ, μ, x, fC + 1, 0, _, _, _, _, _, _, hf => absurd hf (Nat.not_lt_zero _)
  | 0, B, σ, μ, x, fC + 1, fM + 1, hB, h, hn, hx, hx2, hfC, hfM => by
    have := ms_r σ
    omega
  | n + 1, B, σ, μ, x, fC + 1, fM + 1, hB, h, hn, hx, hx2, hfC, hfM => by
    have l0 := P_low (b := 0) (by decide) h
    have l1 := P_low (b := 1) (by decide) h
    have sf := L_scanf h (fun x_some1 s6 => bn (fun (s10 : S2) => gl0 fM (fun k4 (s5 : S2) => gl2 1000 (fun k5 (x_some1 : Int) (x_f1 : Int) (s6 : S2) => if x_f1 < 24 then bn (fun (s7 : S2) => some (x_f1, s7)) fun k6 => bn (fun (s8 : S2) => k5 (gOr x_some1 (if s8 121 x_f1 = 0 then 1 else 0 : Int)) (x_f1 + 1) s8) fun k7 => if s6 121 x_f1 = 0 then cb (FX8_lingers x_f1 s6) fun r2 s9 => if r2 ≠ 0 then k7 s9 else k6 s9 else k7 s6 else bn (fun (s10 : S2) => k4 s10) fun k8 => if x_some1 ≠ 0 then cb (FX8_handles 0 s6) fun r3 s11 => cb (FX8_handles 1 s11) fun r4 s12 => k8 s12 else bn (fun (s13 : S2) => k8 s13) fun k9 => cb (FX8_evicts (-1) s6) fun r5 s14 => if r5 ≠ 0 then k9 s14 else cb (FX8_kills (-1) s14) fun r6 s15 => if r6 = (-1) then some ((-5), s15) else if r6 = q then some ((-4), s15) else k9 s15) 0 0 s5) s10) fun k8 => if x_some1 ≠ 0 then cb (FX8_handles 0 s6) fun r3 s11 => cb (FX8_handles 1 s11) fun r4 s12 => k8 s12 else bn (fun (s13 : S2) => k8 s13) fun k9 => cb (FX8_evicts (-1) s6) fun r5 s14 => if r5 ≠ 0 then k9 s14 else cb (FX8_kills (-1) s14) fun r6 s15 => if r6 = (-1) then some ((-5), s15) else if r6 = q then some ((-4), s15) else k9 s15)
    rcases fstI_cases (fun f => σ 15 f = 0 ∧ trI μ f = 0) 24 with w | w
    · rw [w.1] at l0 sf
      rw [if_pos rfl] at sf
      by_cases hfree : ∃ f : Int, 0 ≤ f ∧ f ≤ 23 ∧ σ 15 f = 0
      · -- some linger: all messages are handled
        obtain ⟨f, f0, f1, f2⟩ := hfree
        have ht1 : trI μ f = 1 := by
          have := w.2 f f0 (by omega)
          have := trI_r (μ := μ) (f := f)
          omega
        have hl1 : fstI (fun f => σ 15 f = 0 ∧ trI μ f = 1) 24 ≠ -1 := by
          rcases fstI_cases (fun f => σ 15 f = 0 ∧ trI μ f = 1) 24 with v | v
          · exact absurd ⟨f2, ht1⟩ (v.2 f f0 (by omega))
          · omega
        have hany : anyI (fun f => σ 15 f = 0) 24 ≠ 0 := anyI_iff.mpr ⟨f, f0, by omega, f2⟩
        obtain ⟨s1, m1, m2, r1, r2, c1, c2, c3, c4, c5, c6, c7⟩ := P_all h
        have l0' := P_low (b := 0) (by decide) c4
        obtain ⟨n', rfl⟩ : ∃ n', fC = n' + 1 := ⟨fC - 1, by omega⟩
        obtain ⟨n'', rfl⟩ : ∃ n', fM = n' + 1 := ⟨fM - 1, by omega⟩
        have hs15 : s1 15 = σ 15 := c5 15 (by decide)
        have hgood : ∃ r : Int, fstI (fun f => s1 15 f = 0 ∧ trI m1 f = 0) 24 = r ∧ 0 ≤ r ∧ r ≤ 23 ∧ s1 15 r = 0 := by
          rcases fstI_cases (fun f => s1 15 f = 0 ∧ trI m1 f = 0) 24 with v | v
          · exact absurd ⟨by rw [hs15]; exact f2, c7 f f0 f1 (by rw [hs15]; exact f2)⟩ (v.2 f f0 (by omega))
          · exact ⟨_, rfl, v.1, by omega, v.2.2.1.1⟩
        obtain ⟨r, g1, g2, g3, g4⟩ := hgood
        rw [g1] at l0'
        refine ⟨r, s1, m1, ?_, ?_, R_B (by omega) c4, WF_ob c5 c6, by omega, g3, fun _ => g4, fun q => by omega, fun _ _ => by rw [c5 35 (by decide)]⟩
        · rw [gl1_e, if_pos (by omega), cb_e l0, if_neg (fun z => z rfl)]
          simp only [bn]
          rw [cb_e l1, if_pos hl1, cb_e c1, gl1_e, if_pos (by omega), cb_e l0', if_pos (by omega)]
        · rw [gl0_e]
          refine sf.trans ?_
          simp only [bn]
          rw [if_pos hany, cb_e c2, cb_e c3, gl0_e]
          refine (L_scanf c4 _).trans ?_
          rw [g1, if_neg (by omega)]
      · -- none is free: a page is evicted, or somebody is killed
        have hl1 : fstI (fun f => σ 15 f = 0 ∧ trI μ f = 1) 24 = -1 := fstI_n (fun f f0 f1 z => hfree ⟨f, f0, by omega, z.1⟩)
        have hany : ¬ anyI (fun f => σ 15 f = 0) 24 ≠ 0 := fun z => by
          obtain ⟨f, f0, f1, f2⟩ := anyI_iff.mp z
          exact hfree ⟨f, f0, by omega, f2⟩
        rw [hl1] at l1
        obtain ⟨b, s1, m1, c1, c2, c3, c4, c5⟩ := P_evict (g := -1) (by decide) (by omega) h
        have s35 : s1 35 = σ 35 := c5.1 35 (by decide)
        rcases c4 with ⟨hb, c4⟩ | ⟨hb, f, f0, f1, f2, f3⟩
        · subst hb
          obtain ⟨v, m3, d1, d2, d3⟩ := P_kill (g := -1) (by decide) c3
          rcases d3 with ⟨hv, d3, d4⟩ | ⟨v0, v1, hV, s4, m4, e1, e2, e3, e4⟩
          · refine ⟨-5, s1, m3, ?_, ?_, ?_, ?_, by decide, by decide, fun z => absurd z (by decide), fun _ => Or.inr rfl, fun _ _ => by rw [s35]⟩
            · rw [gl1_e, if_pos (by omega), cb_e l0, if_neg (fun z => z rfl)]
              simp only [bn]
              rw [cb_e l1, if_neg (fun z => z rfl), cb_e c1, if_neg (fun z => z rfl), cb_e d1, if_pos (by omega)]
            · rw [gl0_e]
              refine sf.trans ?_
              simp only [bn]
              rw [if_neg hany, cb_e c2, if_neg (fun z => z rfl), cb_e d2, if_pos hv]
            · rw [d3]; exact R_B (by omega) c3
            · rw [d3]; exact WF_EF c5
          · have hWF1 := WF_tr (WF_EF c5) (WF_BF ⟨v0, v1⟩ e4 e3 e2)
            have t35 : (sc s4 48 (uc (s4 48) 7 (s4 48 7 + 1))) 35 = uc (σ 35) v 0 := by
              rw [sc_k (by decide), e4.2.2.2.2.2, s35]
            have hlv : σ 35 v ≠ 0 := by rw [← s35]; exact hV.1
            by_cases hvq : v = q
            · refine ⟨-4, sc s4 48 (uc (s4 48) 7 (s4 48 7 + 1)), m3, ?_, ?_, R_B (by omega) e2, hWF1, by decide, by decide, fun z => absurd z (by decide), fun _ => Or.inl ⟨rfl, by omega⟩, fun z => absurd rfl z⟩
              · rw [gl1_e, if_pos (by omega), cb_e l0, if_neg (fun z => z rfl)]
                simp only [bn]
                rw [cb_e l1, if_neg (fun z => z rfl), cb_e c1, if_neg (fun z => z rfl), cb_e d1, if_neg (by omega), cb_e e1, if_pos hvq, u2_sc]
              · rw [gl0_e]
                refine sf.trans ?_
                simp only [bn]
                rw [if_neg hany, cb_e c2, if_neg (fun z => z rfl), cb_e d2, if_neg (by omega), if_pos hvq]
            · have hms : msI (sc s4 48 (uc (s4 48) 7 (s4 48 7 + 1))) + 1 ≤ msI σ := ms_ki ⟨v0, v1⟩ hlv (fun f => by
                rw [sc_k (by decide)]
                have := e4.2.2.2.2.1 f
                rw [c4] at this
                exact this) t35
              obtain ⟨r, s5, m5, i1, i2, i3, i4, i5, i6, i7, i8, i9⟩ := L_take2 hq n (B + 2100) _ m3 (x + 1) fC fM (by omega) (R_B (by omega) e2) (by omega) (by omega) (by omega) (by omega) (by omega)
              refine ⟨r, s5, m5, ?_, ?_, R_B (by omega) i3, WF_tr hWF1 i4, i5, i6, i7, i8, fun z z2 => ?_⟩
              · rw [gl1_e, if_pos (by omega), cb_e l0, if_neg (fun z => z rfl)]
                simp only [bn]
                rw [cb_e l1, if_neg (fun z => z rfl), cb_e c1, if_neg (fun z => z rfl), cb_e d1, if_neg (by omega), cb_e e1, if_neg hvq, u2_sc]
                exact i1
              · rw [gl0_e]
                refine sf.trans ?_
                simp only [bn]
                rw [if_neg hany, cb_e c2, if_neg (fun z => z rfl), cb_e d2, if_neg (by omega), if_neg hvq]
                exact i2
              · rw [i9 z z2, t35]
                exact uc_n (fun z3 => hvq z3.symm)
        · subst hb
          have hms := ms_ev ⟨f0, f1⟩ f2.1 f3 s35
          obtain ⟨r, s5, m5, i1, i2, i3, i4, i5, i6, i7, i8, i9⟩ := L_take2 hq n (B + 2100) s1 m1 (x + 1) fC fM (by omega) (R_B (by omega) c3) (by omega) (by omega) (by omega) (by omega) (by omega)
          refine ⟨r, s5, m5, ?_, ?_, R_B (by omega) i3, WF_tr (WF_EF c5) i4, i5, i6, i7, i8, fun z z2 => by rw [i9 z z2, s35]⟩
          · rw [gl1_e, if_pos (by omega), cb_e l0, if_neg (fun z => z rfl)]
            simp only [bn]
            rw [cb_e l1, if_neg (fun z => z rfl), cb_e c1, if_pos (by decide)]
            exact i1
          · rw [gl0_e]
            refine sf.trans ?_
            simp only [bn]
            rw [if_neg hany, cb_e c2, if_pos (by decide)]
            exact i2
    · generalize hr : fstI (fun f => σ 15 f = 0 ∧ trI μ f = 0) 24 = r at l0 sf w
      rw [if_neg (by omega)] at sf
      refine ⟨r, σ, μ, ?_, ?_, R_B (by omega) h, WF_rf, by omega, by omega, fun _ => w.2.2.1.1, fun z => by omega, fun _ _ => rfl⟩
      · rw [gl1_e, if_pos (by omega), cb_e l0, if_pos (by omega)]
      · rw [gl0_e]
        exact sf
