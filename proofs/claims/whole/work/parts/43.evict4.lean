/-! a clean page of a file goes -/
theorem P_outA {B f : Int} {σ μ : S2} (hB : B + 3 ≤ 2147483647) (hf : 0 ≤ f ∧ f ≤ 23) (h2 : σ 15 f = 2) (hdty : σ 23 f = 0) (h : Rg (-1) (-1) B σ μ) : ∃ b s1 m1, FX7_putOut f σ = some (b, s1) ∧ FX8_goes f μ = some (b, m1) ∧ (b = 0 ∧ s1 15 = σ 15 ∨ b = 1 ∧ s1 15 = uc (σ 15) f 0) ∧ Rg (-1) (-1) (B + 3) s1 m1 ∧ OF σ μ s1 m1 := by
  have hk : σ 15 f ≠ 0 := by omega
  have hh := h
  obtain ⟨⟨q102, q103, q106, q107, q108, q109, q110, q111, q116, q121, q122, q123, q124, q125, q130, q135, q140⟩, hSp, hMp, hPr, hHd, hFr, hLs, hBl, hWr, hC1, hC2, hC3, hRc, hRo, hSc, hSt, hBd⟩ := h
  have hfr := hFr.1 f hf.1 hf.2
  have hhd := hHd f hf.1 hf.2
  unfold FX7_putOut FX8_goes
  rw [gd_pos hf, gd_pos hf]
  have hfr2 := hfr.2.2.2.2.2.2.2.2.2.2.2.2.2 h2
  have hK : (σ 24 f) * 8 + σ 25 f = μ 127 f := by omega
  have hK2 : 0 ≤ μ 127 f ∧ μ 127 f ≤ 23 := by omega
  have h121 : μ 121 f = 2 := by rw [q121]; exact h2
  have hB2 := hBd.2.2.2.2 2 (by decide) (by decide)
  have hB5 := hBd.2.2.2.2 5 (by decide) (by decide)
  have hR1 := R_stamp (K := μ 127 f) (w := σ 48 2 + 1) (by simp (disch := decide) only [sc_s, sc_k, uc_s]; omega) (R_cs (c := uc (σ 48) 2 (σ 48 2 + 1)) (B' := B + 3) (by omega) (fun k k0 k1 => by
    have := hBd.2.2.2.2 k k0 k1
    unfold uc
    split
    · rename_i q; subst q; omega
    · omega) hh)
  have hR2 := R_x (x := f) hR1
  have e1 : sc (sc σ 48 (uc (σ 48) 2 (σ 48 2 + 1))) 45 (uc (sc σ 48 (uc (σ 48) 2 (σ 48 2 + 1)) 45) (μ 127 f) (σ 48 2 + 1)) = mdC (σ 23) (uc (σ 48) 2 (σ 48 2 + 1)) (sc σ 45 (uc (σ 45) (μ 127 f) (σ 48 2 + 1))) := by
    funext k
    unfold mdC
    by_cases h23 : k = 23
    · subst h23; simp (disch := decide) only [sc_s, sc_k]
    by_cases h45 : k = 45
    · subst h45; simp (disch := decide) only [sc_s, sc_k]
    by_cases h48 : k = 48
    · subst h48; simp (disch := decide) only [sc_s, sc_k]
    simp only [sc, h23, h45, h48, if_false]
  rw [e1] at hR2
  obtain ⟨s1, m1, b1, b2, b3, b4, b5, b6, b7⟩ := L_out2 (σ := sc σ 45 (uc (σ 45) (μ 127 f) (σ 48 2 + 1))) (a := σ 23) hf (by decide) (by simp (disch := decide) only [sc_s, sc_k]; exact hk) (fun g _ => by simp (disch := decide) only [sc_s, sc_k]) (by simp (disch := decide) only [sc_s, sc_k]; omega) (fun q => absurd q (by decide)) (by simp (disch := decide) only [sc_s, sc_k]) hR2
  refine ⟨1, s1, m1, rgd_eq ?_ (by decide) (by decide), rgd_eq ?_ (by decide) (by decide), Or.inr ⟨rfl, by rw [b4]; simp (disch := decide) only [sc_s, sc_k]⟩, b3, ?_, ?_, ?_⟩
  · refine Eq.trans ?_ b1
    simp only [bn]
    rw [if_pos h2, if_neg (fun q => q hdty), cb_e (e7_noteEv hf hK hK2)]
  · refine Eq.trans ?_ b2
    simp (disch := decide) only [bn, u2_sc, sc_s, sc_k]
    rw [if_neg (show ¬ μ 121 f = 1 by omega), if_neg (show ¬ (μ 121 f = 1 ∧ True) from fun q => by have := q.1; omega), if_pos h121, if_neg (show ¬ (μ 126 f ≠ 0) by omega), gd_pos hK2, q140, uc_s]
  · intro k hk3
    rw [b5 k (by simp only [List.mem_cons, List.not_mem_nil, or_false, not_or] at hk3 ⊢; omega)]
    simp only [List.mem_cons, List.not_mem_nil, or_false, not_or] at hk3
    simp only [sc, hk3, if_false]
  · intro k hk3
    rw [b6 k (by simp only [List.mem_cons, List.not_mem_nil, or_false, not_or] at hk3 ⊢; omega)]
    simp only [List.mem_cons, List.not_mem_nil, or_false, not_or] at hk3
    simp only [sc, hk3, if_false]
  · intro e e0 e1
    have := b7 e e0 e1
    simp (disch := decide) only [sc_k] at this
    exact this
