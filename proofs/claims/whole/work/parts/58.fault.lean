/-! an entry is made fit for an access -/
theorem R_118 {x y B e w : Int} {σ μ : S2} (hw : σ 8 e = 1 → σ 10 e = w) (h : Rg x y B σ μ) : Rg x y B σ (sc μ 118 (uc (μ 118) e w)) := by
  obtain ⟨⟨q102, q103, q106, q107, q108, q109, q110, q111, q116, q121, q122, q123, q124, q125, q130, q135, q140⟩, hSp, hMp, hPr, hHd, hFr, hLs, hBl, hWr, hC1, hC2, hC3, hRc, hRo, hSc, hSt, hBd⟩ := h
  refine ⟨⟨?_, ?_, ?_, ?_, ?_, ?_, ?_, ?_, ?_, ?_, ?_, ?_, ?_, ?_, ?_, ?_, ?_⟩, ?_, ?_, ?_, ?_, ?_, ?_, ?_, ?_, ?_, ?_, ?_, ?_, ?_, ?_, ?_, ?_⟩
  all_goals (try simp (disch := decide) only [sc_s, sc_k])
  all_goals (try with_reducible assumption)
  intro d d0 d1
  have h1 := hPr d d0 d1
  by_cases hd : d = e
  · subst hd
    rw [uc_s]
    exact ⟨h1.1, h1.2.1, fun z => by have := h1.2.2.1 z; have := hw z; omega, h1.2.2.2⟩
  · rw [uc_n hd]
    exact h1
theorem R_22 {x y B f : Int} {σ μ : S2} (hf : σ 15 f = 2 ∨ σ 22 f = 0) (h : Rg x y B σ μ) : Rg x y B (sc σ 22 (uc (σ 22) f 0)) μ := by
  obtain ⟨⟨q102, q103, q106, q107, q108, q109, q110, q111, q116, q121, q122, q123, q124, q125, q130, q135, q140⟩, hSp, hMp, hPr, hHd, hFr, hLs, hBl, hWr, hC1, hC2, hC3, hRc, hRo, hSc, hSt, hBd⟩ := h
  refine ⟨⟨?_, ?_, ?_, ?_, ?_, ?_, ?_, ?_, ?_, ?_, ?_, ?_, ?_, ?_, ?_, ?_, ?_⟩, ?_, ?_, ?_, ?_, ?_, ?_, ?_, ?_, ?_, ?_, ?_, ?_, ?_, ?_, ?_, ?_⟩
  all_goals (try simp (disch := decide) only [sc_s, sc_k])
  all_goals (try with_reducible assumption)
  · refine ⟨fun d d0 d1 => ?_, hFr.2⟩
    have h1 := hFr.1 d d0 d1
    by_cases hd : d = f
    · subst hd
      rw [uc_s]
      exact ⟨h1.1, h1.2.1, h1.2.2.1, h1.2.2.2.1, h1.2.2.2.2.1, h1.2.2.2.2.2.1, by omega, by omega, h1.2.2.2.2.2.2.2.2.1, h1.2.2.2.2.2.2.2.2.2.1, h1.2.2.2.2.2.2.2.2.2.2.1, h1.2.2.2.2.2.2.2.2.2.2.2.1, fun z => by have := h1.2.2.2.2.2.2.2.2.2.2.2.2.1 z; omega, h1.2.2.2.2.2.2.2.2.2.2.2.2.2⟩
    · rw [uc_n hd]
      exact h1
  · refine ⟨hBl.1, hBl.2.1, fun d d0 d1 d2 => ?_⟩
    have h1 := hBl.2.2 d d0 d1 d2
    refine ⟨h1.1, h1.2.1, ?_, h1.2.2.2⟩
    unfold uc
    split
    · rfl
    · exact h1.2.2.1
  · intro d d0 d1 d2 d3
    have h1 := hWr d d0 d1 d2 d3
    refine ⟨?_, h1.2⟩
    unfold uc
    split
    · rfl
    · exact h1.1
/-- it becomes writable: the one entry of a loose page -/
theorem R_wrL {x y B e f : Int} {σ μ : S2} (he : 0 ≤ e ∧ e ≤ 191) (hf : 0 ≤ f ∧ f ≤ 23) (h8 : σ 8 e = 1) (h9 : σ 9 e = f) (hk : σ 15 f = 1) (hc : cC (σ 9) 192 f = 1) (h : Rg x y B σ μ) : Rg x y B (sc (sc σ 10 (uc (σ 10) e 1)) 22 (uc (σ 22) f 0)) (sc (sc μ 126 (uc (μ 126) f 0)) 118 (uc (μ 118) e 1)) := by
  obtain ⟨⟨q102, q103, q106, q107, q108, q109, q110, q111, q116, q121, q122, q123, q124, q125, q130, q135, q140⟩, hSp, hMp, hPr, hHd, hFr, hLs, hBl, hWr, hC1, hC2, hC3, hRc, hRo, hSc, hSt, hBd⟩ := h
  refine ⟨⟨?_, ?_, ?_, ?_, ?_, ?_, ?_, ?_, ?_, ?_, ?_, ?_, ?_, ?_, ?_, ?_, ?_⟩, ?_, ?_, ?_, ?_, ?_, ?_, ?_, ?_, ?_, ?_, ?_, ?_, ?_, ?_, ?_, ?_⟩
  all_goals (try simp (disch := decide) only [sc_s, sc_k, q102, q103, q106, q107, q108, q109, q110, q111, q116, q121, q122, q123, q124, q125, q130, q135, q140])
  all_goals (try with_reducible assumption)
  · intro d d0 d1
    have h1 := hPr d d0 d1
    by_cases hd : d = e
    · subst hd
      simp only [uc_s]
      exact ⟨h1.1, h1.2.1, fun z => by have := h1.2.2.1 z; exact ⟨this.1, this.2.1, this.2.2.1, trivial, by decide, by decide⟩, fun z => absurd h8 z, h1.2.2.2.2⟩
    · simp only [uc_n hd]
      exact h1
  · refine ⟨fun d d0 d1 => ?_, hFr.2⟩
    have h1 := hFr.1 d d0 d1
    by_cases hd : d = f
    · subst hd
      simp only [uc_s]
      exact ⟨h1.1, h1.2.1, h1.2.2.1, h1.2.2.2.1, h1.2.2.2.2.1, h1.2.2.2.2.2.1, by omega, by omega, h1.2.2.2.2.2.2.2.2.1, h1.2.2.2.2.2.2.2.2.2.1, by omega, by omega, fun _ => trivial, fun z => by omega⟩
    · simp only [uc_n hd]
      exact h1
  · refine ⟨hBl.1, hBl.2.1, fun d d0 d1 d2 => ?_⟩
    have h1 := hBl.2.2 d d0 d1 d2
    refine ⟨h1.1, h1.2.1, ?_, h1.2.2.2⟩
    unfold uc
    split
    · rfl
    · exact h1.2.2.1
  · intro d d0 d1 d2 d3
    by_cases hd : d = e
    · subst hd
      rw [h9, uc_s]
      refine ⟨rfl, fun c c0 c1 c2 => ?_⟩
      apply Classical.byContradiction
      intro q
      have := cC_two (c := σ 9) (n := 192) (f := f) c0 (by omega) d0 (by omega) c2 h9 q
      omega
    · rw [uc_n hd] at d2
      have h1 := hWr d d0 d1 d2 d3
      refine ⟨?_, h1.2⟩
      unfold uc
      split
      · rfl
      · exact h1.1
/-- it becomes writable: a cached page -/
theorem R_wrC {x y B e f : Int} {σ μ : S2} (h8 : σ 8 e = 1) (h9 : σ 9 e = f) (hk : σ 15 f = 2) (h : Rg x y B σ μ) : Rg x y B (sc (sc σ 10 (uc (σ 10) e 1)) 22 (uc (σ 22) f 0)) (sc μ 118 (uc (μ 118) e 1)) := by
  obtain ⟨⟨q102, q103, q106, q107, q108, q109, q110, q111, q116, q121, q122, q123, q124, q125, q130, q135, q140⟩, hSp, hMp, hPr, hHd, hFr, hLs, hBl, hWr, hC1, hC2, hC3, hRc, hRo, hSc, hSt, hBd⟩ := h
  refine ⟨⟨?_, ?_, ?_, ?_, ?_, ?_, ?_, ?_, ?_, ?_, ?_, ?_, ?_, ?_, ?_, ?_, ?_⟩, ?_, ?_, ?_, ?_, ?_, ?_, ?_, ?_, ?_, ?_, ?_, ?_, ?_, ?_, ?_, ?_⟩
  all_goals (try simp (disch := decide) only [sc_s, sc_k, q102, q103, q106, q107, q108, q109, q110, q111, q116, q121, q122, q123, q124, q125, q130, q135, q140])
  all_goals (try with_reducible assumption)
  · intro d d0 d1
    have h1 := hPr d d0 d1
    by_cases hd : d = e
    · subst hd
      simp only [uc_s]
      exact ⟨h1.1, h1.2.1, fun z => by have := h1.2.2.1 z; exact ⟨this.1, this.2.1, this.2.2.1, trivial, by decide, by decide⟩, fun z => absurd h8 z, h1.2.2.2.2⟩
    · simp only [uc_n hd]
      exact h1
  · refine ⟨fun d d0 d1 => ?_, hFr.2⟩
    have h1 := hFr.1 d d0 d1
    by_cases hd : d = f
    · subst hd
      rw [uc_s]
      exact ⟨h1.1, h1.2.1, h1.2.2.1, h1.2.2.2.1, h1.2.2.2.2.1, h1.2.2.2.2.2.1, by omega, by omega, h1.2.2.2.2.2.2.2.2.1, h1.2.2.2.2.2.2.2.2.2.1, h1.2.2.2.2.2.2.2.2.2.2.1, h1.2.2.2.2.2.2.2.2.2.2.2.1, fun z => by omega, h1.2.2.2.2.2.2.2.2.2.2.2.2.2⟩
    · rw [uc_n hd]
      exact h1
  · refine ⟨hBl.1, hBl.2.1, fun d d0 d1 d2 => ?_⟩
    have h1 := hBl.2.2 d d0 d1 d2
    refine ⟨h1.1, h1.2.1, ?_, h1.2.2.2⟩
    unfold uc
    split
    · rfl
    · exact h1.2.2.1
  · intro d d0 d1 d2 d3
    by_cases hd : d = e
    · subst hd
      rw [h9] at d3
      omega
    · rw [uc_n hd] at d2
      have h1 := hWr d d0 d1 d2 d3
      refine ⟨?_, h1.2⟩
      unfold uc
      split
      · rfl
      · exact h1.1
theorem e7_fcopy {s e src st v a r0 : Int} {σ s1 : S2} (hs : 0 ≤ s ∧ s ≤ 5) (he : 0 ≤ e ∧ e ≤ 191) (hsrc : -1 ≤ src ∧ src ≤ 23) (hst : 0 ≤ st ∧ st ≤ 1) (hc : ¬ ((0 ≤ src) ∧ (((¬ (st ≠ 0)) ∨ (σ 10 e ≠ 0)) ∨ ((if σ 15 src = 2 then σ 6 e else (if σ 20 src = 1 then 1 else 0 : Int) : Int) ≠ 0)))) (hv : (if 0 ≤ src then σ 16 src else (if 0 ≤ σ 11 e then σ 26 (σ 11 e) else 0 : Int) : Int) = v) (ha : (if src < 0 then 0 else 1 : Int) = a) (hr : -5 ≤ r0 ∧ r0 ≤ 23) (hX : (cb (FX7_frameFor (σ 33 s) s σ) fun r2 s6 => cb (FX7_pageIn r2 s6) fun r3 s7 => if r3 < 0 then some (r2, s7) else cb (FX2_begin r3 1 v (s7 33 s) s7) fun r4 s8 => cb (FX7_bringToEnd r3 0 s8) fun r5 s9 => bn (upd2 s9 48 6 ((s9 48 6) + a)) fun s10 => cb (FX7_give e r3 st s10) fun r6 s11 => some ((0 : Int), s11)) = some (r0, s1)) : FX7_fault s e src st σ = some (r0, s1) := by
  unfold FX7_fault
  refine rgd_eq ?_ hr.1 hr.2
  rw [gd_pos hs, gd_pos he, gd_pos hsrc, gd_pos hst, if_neg hc, hv, ha]
  exact hX
