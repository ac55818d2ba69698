/-! a loose page goes -/
theorem P_outC {B f : Int} {σ μ : S2} (hB : B + 3 ≤ 2147483647) (hf : 0 ≤ f ∧ f ≤ 23) (h1 : σ 15 f = 1) (h : Rg (-1) (-1) B σ μ) : ∃ b s1 m1, FX7_putOut f σ = some (b, s1) ∧ FX8_goes f μ = some (b, m1) ∧ (b = 0 ∧ s1 15 = σ 15 ∨ b = 1 ∧ s1 15 = uc (σ 15) f 0) ∧ Rg (-1) (-1) (B + 3) s1 m1 ∧ OF σ μ s1 m1 := by
  have hk : σ 15 f ≠ 0 := by omega
  have hh := h
  obtain ⟨⟨q102, q103, q106, q107, q108, q109, q110, q111, q116, q121, q122, q123, q124, q125, q130, q135, q140⟩, hSp, hMp, hPr, hHd, hFr, hLs, hBl, hWr, hC1, hC2, hC3, hRc, hRo, hSc, hSt, hBd⟩ := h
  have hfr := hFr.1 f hf.1 hf.2
  have hhd := hHd f hf.1 hf.2
  unfold FX7_putOut FX8_goes
  rw [gd_pos hf, gd_pos hf]
  have h2 : ¬ σ 15 f = 2 := by omega
  have h121 : μ 121 f = 1 := by rw [q121]; exact h1
  have hcnt := hhd.2.2.2.2 (by omega) h1
  have hex : ∃ e, 0 ≤ e ∧ e ≤ 191 ∧ σ 9 e = f := by
    apply Classical.byContradiction
    intro q
    have : cC (σ 9) 192 f = 0 := cC_0.mpr fun e e0 e1 e2 => q ⟨e, e0, by omega, e2⟩
    omega
  obtain ⟨r, s', m', k1, k2, k3, k4, k5⟩ := P_keep (by omega) ⟨hfr.1, hfr.2.1⟩ hh
  have e122 : μ 122 f = σ 16 f := by rw [q122]
  rcases k3 with ⟨hr, k3⟩ | ⟨hr0, hr1, k3⟩
  · refine ⟨0, s', m', rgd_eq ?_ (by decide) (by decide), rgd_eq ?_ (by decide) (by decide), Or.inl ⟨rfl, k4 15 (by decide)⟩, R_B (by omega) k3, ?_, ?_, ?_⟩
    · simp only [bn]
      rw [if_neg h2, cb_e k1, if_pos (by omega)]
    · simp only [bn]
      rw [if_pos h121, e122, cb_e k2]
      rw [if_pos ⟨by rw [k5 121 (by decide)]; exact h121, hr⟩]
    · intro k hk3
      exact k4 k (by simp only [List.mem_cons, List.not_mem_nil, or_false, not_or] at hk3 ⊢; omega)
    · intro k hk3
      exact k5 k (by simp only [List.mem_cons, List.not_mem_nil, or_false, not_or] at hk3 ⊢; omega)
    · intro e e0 e1
      left
      rw [k4 8 (by decide), k4 9 (by decide), k4 10 (by decide)]
      exact ⟨rfl, rfl, rfl⟩
  · have hb5 := k3.2.2.2.2.2.2.2.2.2.2.2.2.2.2.2.2.2.2.2.2
    have hR1 := R_cs (c := uc (s' 48) 2 (s' 48 2 + 1)) (B' := B + 3) (by omega) (fun k k0 k1 => by
      have := hb5 k k0 k1
      unfold uc
      split
      · rename_i q; subst q; omega
      · omega) k3
    have hR2 : Rg f r (B + 3) (mdC (s' 23) (uc (s' 48) 2 (s' 48 2 + 1)) s') (sc m' 140 (uc (s' 48) 2 (s' 48 2 + 1))) := by
      unfold mdC
      rw [sc_nop (σ := s') (k := 23) rfl]
      have h5 := hR1
      obtain ⟨z1, z2, z3, z4, z5, z6⟩ := h5
      refine ⟨z1, z2, z3, z4, ?_, z6⟩
      intro g g0 g1
      have h6 := z5 g g0 g1
      exact ⟨h6.1, h6.2.1, h6.2.2.1, fun _ => h6.2.2.2.1 (by omega), fun _ => h6.2.2.2.2 (by omega)⟩
    have s23 : s' 23 = σ 23 := k4 23 (by decide)
    obtain ⟨s1, m1, b1, b2, b3, b4, b5, b6, b7⟩ := L_out2 (r := r) (a := s' 23) hf ⟨by omega, hr1⟩ (by rw [k4 15 (by decide)]; exact hk) (fun g _ => rfl) (by rw [s23]; omega) (fun _ => by rw [k4 9 (by decide)]; exact hex) rfl hR2
    have m140 : m' 140 = s' 48 := k3.1.2.2.2.2.2.2.2.2.2.2.2.2.2.2.2.2
    refine ⟨1, s1, m1, rgd_eq ?_ (by decide) (by decide), rgd_eq ?_ (by decide) (by decide), Or.inr ⟨rfl, by rw [b4, k4 15 (by decide)]⟩, b3, ?_, ?_, ?_⟩
    · refine Eq.trans ?_ b1
      simp only [bn]
      rw [if_neg h2, cb_e k1, if_neg (by omega)]
    · refine Eq.trans ?_ b2
      have m121 : m' 121 f = 1 := by rw [k5 121 (by decide)]; exact h121
      simp only [bn]
      rw [if_pos h121, e122, cb_e k2]
      simp (disch := decide) only [u2_sc, sc_s, sc_k]
      rw [if_neg (show ¬ (m' 121 f = 1 ∧ r = -1) from fun q => by have := q.2; omega), if_neg (show ¬ m' 121 f = 2 by omega), m140]
    · intro k hk3
      rw [b5 k (by simp only [List.mem_cons, List.not_mem_nil, or_false, not_or] at hk3 ⊢; omega)]
      exact k4 k (by simp only [List.mem_cons, List.not_mem_nil, or_false, not_or] at hk3 ⊢; omega)
    · intro k hk3
      rw [b6 k (by simp only [List.mem_cons, List.not_mem_nil, or_false, not_or] at hk3 ⊢; omega)]
      simp only [List.mem_cons, List.not_mem_nil, or_false, not_or] at hk3
      rw [sc_k (by omega)]
      exact k5 k (by simp only [List.mem_cons, List.not_mem_nil, or_false, not_or]; omega)
    · intro e e0 e1
      have := b7 e e0 e1
      rw [k4 8 (by decide), k4 9 (by decide), k4 10 (by decide)] at this
      exact this

theorem P_out {B f : Int} {σ μ : S2} (hB : B + 3 ≤ 2147483647) (hf : 0 ≤ f ∧ f ≤ 23) (hk : σ 15 f ≠ 0) (h : Rg (-1) (-1) B σ μ) : ∃ b s1 m1, FX7_putOut f σ = some (b, s1) ∧ FX8_goes f μ = some (b, m1) ∧ (b = 0 ∧ s1 15 = σ 15 ∨ b = 1 ∧ s1 15 = uc (σ 15) f 0) ∧ Rg (-1) (-1) (B + 3) s1 m1 ∧ OF σ μ s1 m1 := by
  have hd := h.2.2.2.2.1 f hf.1 hf.2
  by_cases h2 : σ 15 f = 2
  · by_cases h3 : σ 23 f = 0
    · exact P_outA hB hf h2 h3 h
    · exact P_outB hB hf h2 h3 h
  · exact P_outC hB hf (by omega) h
