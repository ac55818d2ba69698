/-! calls that change little -/
theorem s_space : gSim_space Iv := by
  intro n σ μ g hI hn hg
  have h := hI
  unfold Iv at h
  have hh := h
  obtain ⟨⟨q102, q103, q106, q107, q108, q109, q110, q111, q116, q121, q122, q123, q124, q125, q130, q135, q140⟩, hSp, hMp, hPr, hHd, hFr, hLs, hBl, hWr, hC1, hC2, hC3, hRc, hRo, hSc, hSt, hBd⟩ := h
  have h41 := hSp.1
  have h416 := hSp.2.1
  have e102 : μ 102 0 = σ 41 0 := by rw [q102]
  by_cases h1 : (0 ≤ g) ∧ (g ≤ 2)
  · by_cases h2 : σ 41 0 < 6
    · refine ⟨σ 41 0, sc (sc (sc σ 41 (uc (σ 41) 0 (σ 41 0 + 1))) 33 (uc (σ 33) (σ 41 0) g)) 35 (uc (σ 35) (σ 41 0) 1), σ 41 0, sc (sc (sc (tw 0 μ) 106 (uc (μ 106) (σ 41 0) 1)) 107 (uc (μ 107) (σ 41 0) g)) 102 (uc (μ 102) 0 (σ 41 0 + 1)), ?_, ?_, Or.inl (gx_0 (by omega)), ?_, fun _ => rfl, iv_ok (B := 4000000 * (n : Int)) (by omega) ?_⟩
      · unfold FX7_space
        refine rgx_eq ?_ (Or.inr (by omega))
        rw [gd_pos hg, cb_e (x_dem h1), if_neg (by decide), cb_e (x_per (if_pos h2)), if_neg (by decide)]
        unfold FX7_begin
        have e1 : rgd 0 5 (gd (0 ≤ g ∧ g ≤ 2) <| gd (0 ≤ (σ 41 0) + 1 ∧ (σ 41 0) + 1 ≤ 6) <| bn (upd2 σ 41 0 ((σ 41 0) + 1)) fun s1 => gd (0 ≤ (if σ 41 0 < 6 then σ 41 0 else 5 : Int) ∧ (if σ 41 0 < 6 then σ 41 0 else 5 : Int) ≤ 5) <| bn (upd2 s1 33 (if σ 41 0 < 6 then σ 41 0 else 5 : Int) g) fun s2 => bn (upd2 s2 35 (if σ 41 0 < 6 then σ 41 0 else 5 : Int) 1) fun s3 => some ((if σ 41 0 < 6 then σ 41 0 else 5 : Int), s3)) = some (σ 41 0, sc (sc (sc σ 41 (uc (σ 41) 0 (σ 41 0 + 1))) 33 (uc (σ 33) (σ 41 0) g)) 35 (uc (σ 35) (σ 41 0) 1)) := by
          refine rgd_eq ?_ (by omega) (by omega)
          rw [gd_pos h1, gd_pos (by omega), if_pos h2]
          simp only [bn]
          rw [gd_pos (by omega)]
          simp (disch := decide) only [u2_sc, sc_s, sc_k]
        rw [cb_e e1]
      · unfold FX8_space
        refine rgd_eq ?_ (by omega) (by omega)
        rw [gd_pos hg, cb_e (q_2 h1 (by rw [e102]; exact h2)), if_pos (by decide)]
        have t102 : tw 0 μ 102 0 = σ 41 0 := by rw [tw_k (by decide)]; exact e102
        simp (disch := decide) only [bn, u2_sc, sc_s, sc_k]
        rw [t102, gd_pos (by omega), gd_pos (by omega), gd_pos h1, gd_pos (by omega), uc_s, tw_k (show 106 ≠ 101 by decide), tw_k (show 107 ≠ 101 by decide), tw_k (show 102 ≠ 101 by decide)]
        congr 2
        omega
      · rw [gx_0 (by omega)]
        simp (disch := decide) only [sc_s, sc_k]
        exact tw_0
      · unfold tw
        refine ⟨⟨?_, ?_, ?_, ?_, ?_, ?_, ?_, ?_, ?_, ?_, ?_, ?_, ?_, ?_, ?_, ?_, ?_⟩, ?_, ?_, ?_, ?_, ?_, ?_, ?_, ?_, ?_, ?_, ?_, ?_, ?_, ?_, ?_, ?_⟩
        all_goals (try simp (disch := decide) only [sc_s, sc_k, q102, q103, q106, q107, q108, q109, q110, q111, q116, q121, q122, q123, q124, q125, q130, q135, q140])
        all_goals (try with_reducible assumption)
        obtain ⟨a1, a2, a3, a4, a5, a6⟩ := hSp
        refine ⟨by rw [uc_s]; omega, by rw [uc_s]; omega, fun t t0 t1 => ?_, fun t t0 t1 => ?_, fun e e0 e1 => ?_, a6⟩
        · have := a3 t t0 t1
          unfold uc
          split
          · omega
          · exact this
        · rw [uc_s] at t0
          rw [uc_n (by omega)]
          exact a4 t (by omega) t1
        · rw [uc_s] at e0
          exact a5 e (by omega) e1
    · refine ⟨-1000000000003, σ, 0, tw 2 μ, ?_, ?_, by decide, by rw [gx_3]; exact tw_0, fun z => absurd z (by decide), iv_th hI⟩
      · unfold FX7_space
        refine rgx_eq ?_ (Or.inl (by decide))
        rw [gd_pos hg, cb_e (x_dem h1), if_neg (by decide), cb_e (x_perN (if_neg h2)), if_pos (by decide)]
      · unfold FX8_space
        refine rgd_eq ?_ (by decide) (by decide)
        rw [gd_pos hg, cb_e (q_2b h1 (by rw [e102]; exact h2)), if_neg (by decide)]
  · refine ⟨-1000000000002, σ, 0, tw 1 μ, ?_, ?_, by decide, by rw [gx_2]; exact tw_0, fun z => absurd z (by decide), iv_th hI⟩
    · unfold FX7_space
      refine rgx_eq ?_ (Or.inl (by decide))
      rw [gd_pos hg, cb_e (x_demN h1), if_pos (by decide)]
    · unfold FX8_space
      refine rgd_eq ?_ (by decide) (by decide)
      rw [gd_pos hg, cb_e (q_2a h1), if_neg (by decide)]
theorem s_adjust : gSim_adjust Iv := by
  intro n σ μ s by' hI hn hs hb
  have h := hI
  unfold Iv at h
  have hh := h
  obtain ⟨⟨q102, q103, q106, q107, q108, q109, q110, q111, q116, q121, q122, q123, q124, q125, q130, q135, q140⟩, hSp, hMp, hPr, hHd, hFr, hLs, hBl, hWr, hC1, hC2, hC3, hRc, hRo, hSc, hSt, hBd⟩ := h
  have h416 := hSp.2.1
  have e102 : μ 102 0 = σ 41 0 := by rw [q102]
  by_cases h1 : (0 ≤ s) ∧ (s ≤ σ 41 0 - 1)
  · have hk := hSp.2.2.1 s (by omega) (by omega)
    by_cases h2 : ((-50) ≤ by') ∧ (by' ≤ 50)
    · refine ⟨σ 34 s, sc σ 34 (uc (σ 34) s by'), σ 34 s, sc (tw 0 μ) 108 (uc (μ 108) s by'), ?_, ?_, Or.inl (gx_0 (by omega)), ?_, fun _ => rfl, iv_ok (B := 4000000 * (n : Int)) (by omega) ?_⟩
      · unfold FX7_adjust
        refine rgx_eq ?_ (Or.inr (by omega))
        rw [gd_pos hs, gd_pos hb, cb_e (x_kn hs h1 h416), if_neg (by rw [gx_0 hs.1]; decide), cb_e (x_dem h2), if_neg (by decide), gd_pos h2]
        simp only [bn]
        rw [u2_sc]
      · unfold FX8_adjust
        refine rgd_eq ?_ (by omega) (by omega)
        rw [gd_pos hs, gd_pos hb, cb_e (q_2 (by rw [e102]; exact h1) h2), if_pos (by decide), gd_pos (by omega), gd_pos h2]
        simp only [bn]
        rw [u2_sc, tw_k (show 108 ≠ 101 by decide), q108]
      · rw [gx_0 (by omega)]
        simp (disch := decide) only [sc_s, sc_k]
        exact tw_0
      · unfold tw
        refine ⟨⟨?_, ?_, ?_, ?_, ?_, ?_, ?_, ?_, ?_, ?_, ?_, ?_, ?_, ?_, ?_, ?_, ?_⟩, ?_, ?_, ?_, ?_, ?_, ?_, ?_, ?_, ?_, ?_, ?_, ?_, ?_, ?_, ?_, ?_⟩
        all_goals (try simp (disch := decide) only [sc_s, sc_k, q102, q103, q106, q107, q108, q109, q110, q111, q116, q121, q122, q123, q124, q125, q130, q135, q140])
        all_goals (try with_reducible assumption)
        obtain ⟨a1, a2, a3, a4, a5, a6⟩ := hSp
        refine ⟨a1, a2, fun t t0 t1 => ?_, a4, a5, a6⟩
        have := a3 t t0 t1
        unfold uc
        split <;> omega
    · refine ⟨-1000000000002, σ, 0, tw 2 μ, ?_, ?_, by decide, by rw [gx_2]; exact tw_0, fun z => absurd z (by decide), iv_th hI⟩
      · unfold FX7_adjust
        refine rgx_eq ?_ (Or.inl (by decide))
        rw [gd_pos hs, gd_pos hb, cb_e (x_kn hs h1 h416), if_neg (by rw [gx_0 hs.1]; decide), cb_e (x_demN h2), if_pos (by decide)]
      · unfold FX8_adjust
        refine rgd_eq ?_ (by decide) (by decide)
        rw [gd_pos hs, gd_pos hb, cb_e (q_2b (by rw [e102]; exact h1) h2), if_neg (by decide)]
  · refine ⟨-1000000000001, σ, 0, tw 1 μ, ?_, ?_, by decide, by rw [gx_1]; exact tw_0, fun z => absurd z (by decide), iv_th hI⟩
    · unfold FX7_adjust
      refine rgx_eq ?_ (Or.inl (by decide))
      rw [gd_pos hs, gd_pos hb, cb_e (x_knN hs h1), if_pos (by decide)]
    · unfold FX8_adjust
      refine rgd_eq ?_ (by decide) (by decide)
      rw [gd_pos hs, gd_pos hb, cb_e (q_2a (by rw [e102]; exact h1)), if_neg (by decide)]
theorem s_limit : gSim_limit Iv := by
  intro n σ μ g p hI hn hg hp
  have h := hI
  unfold Iv at h
  have hh := h
  obtain ⟨⟨q102, q103, q106, q107, q108, q109, q110, q111, q116, q121, q122, q123, q124, q125, q130, q135, q140⟩, hSp, hMp, hPr, hHd, hFr, hLs, hBl, hWr, hC1, hC2, hC3, hRc, hRo, hSc, hSt, hBd⟩ := h
  by_cases h1 : ((0 ≤ g) ∧ (g ≤ 2)) ∧ ((p = (-1)) ∨ ((1 ≤ p) ∧ (p ≤ 24)))
  · have hR : Rg (-1) (-1) (4000000 * (n : Int)) (sc σ 47 (uc (σ 47) g p)) (sc (tw 0 μ) 110 (uc (μ 110) g p)) := by
      unfold tw
      refine ⟨⟨?_, ?_, ?_, ?_, ?_, ?_, ?_, ?_, ?_, ?_, ?_, ?_, ?_, ?_, ?_, ?_, ?_⟩, ?_, ?_, ?_, ?_, ?_, ?_, ?_, ?_, ?_, ?_, ?_, ?_, ?_, ?_, ?_, ?_⟩
      all_goals (try simp (disch := decide) only [sc_s, sc_k, q102, q103, q106, q107, q108, q109, q110, q111, q116, q121, q122, q123, q124, q125, q130, q135, q140])
      all_goals (try with_reducible assumption)
      obtain ⟨a1, a2, a3, a4, a5, a6⟩ := hSp
      refine ⟨a1, a2, a3, a4, a5, fun t t0 t1 => ?_⟩
      have := a6 t t0 t1
      unfold uc
      split <;> omega
    obtain ⟨b1, b2, b3⟩ := P_pages (g := g) (by omega) hR
    have hr := cntI_r (isP (sc σ 47 (uc (σ 47) g p)) g) 24
    refine ⟨cntI (isP (sc σ 47 (uc (σ 47) g p)) g) 24, _, cntI (isP (sc σ 47 (uc (σ 47) g p)) g) 24, _, ?_, ?_, Or.inl (gx_0 (by omega)), ?_, fun _ => rfl, iv_ok (B := 4000000 * (n : Int)) (by omega) hR⟩
    · unfold FX7_limit
      refine rgx_eq ?_ (Or.inr (by omega))
      rw [gd_pos hg, gd_pos hp, cb_e (x_dem h1), if_neg (by decide), gd_pos h1.1, gd_pos (by omega)]
      simp only [bn]
      rw [u2_sc, cb_e b1]
    · unfold FX8_limit
      refine rgd_eq ?_ (by omega) (by omega)
      rw [gd_pos hg, gd_pos hp, cb_e (q_1 h1), if_pos (by decide), gd_pos h1.1, gd_pos (by omega)]
      simp only [bn]
      rw [u2_sc, tw_k (show 110 ≠ 101 by decide), cb_e b2]
    · rw [gx_0 (by omega)]
      simp (disch := decide) only [sc_s, sc_k]
      exact tw_0
  · refine ⟨-1000000000002, σ, 0, tw 1 μ, ?_, ?_, by decide, by rw [gx_2]; exact tw_0, fun z => absurd z (by decide), iv_th hI⟩
    · unfold FX7_limit
      refine rgx_eq ?_ (Or.inl (by decide))
      rw [gd_pos hg, gd_pos hp, cb_e (x_demN h1), if_pos (by decide)]
    · unfold FX8_limit
      refine rgd_eq ?_ (by decide) (by decide)
      rw [gd_pos hg, gd_pos hp, cb_e (q_1N h1), if_neg (by decide)]
theorem s_disk : gSim_disk Iv := by
  intro n σ μ f i hI hn hf hi
  have h := hI
  unfold Iv at h
  have hh := h
  obtain ⟨⟨q102, q103, q106, q107, q108, q109, q110, q111, q116, q121, q122, q123, q124, q125, q130, q135, q140⟩, hSp, hMp, hPr, hHd, hFr, hLs, hBl, hWr, hC1, hC2, hC3, hRc, hRo, hSc, hSt, hBd⟩ := h
  by_cases h1 : ((0 ≤ f) ∧ (f ≤ 2)) ∧ ((0 ≤ i) ∧ (i ≤ 7))
  · have hd := hFr.2 (f * 8 + i) (by omega) (by omega)
    refine ⟨σ 44 (f * 8 + i), σ, σ 44 (f * 8 + i), tw 0 μ, ?_, ?_, Or.inl (gx_0 (by omega)), by rw [gx_0 (by omega)]; exact tw_0, fun _ => rfl, iv_ok (B := 4000000 * (n : Int)) (by omega) (R_tw hh)⟩
    · unfold FX7_disk
      refine rgx_eq ?_ (Or.inr (by omega))
      rw [gd_pos hf, gd_pos hi, cb_e (x_dem h1), if_neg (by decide), gd_pos (by omega)]
    · unfold FX8_disk
      refine rgd_eq ?_ (by omega) (by omega)
      rw [gd_pos hf, gd_pos hi]
      simp only [bn]
      rw [cb_e (q_1 h1), if_pos (by decide), gd_pos (by omega), tw_k (by decide), q130, show 8 * f + i = f * 8 + i by omega]
  · refine ⟨-1000000000002, σ, 0, tw 1 μ, ?_, ?_, by decide, by rw [gx_2]; exact tw_0, fun z => absurd z (by decide), iv_th hI⟩
    · unfold FX7_disk
      refine rgx_eq ?_ (Or.inl (by decide))
      rw [gd_pos hf, gd_pos hi, cb_e (x_demN h1), if_pos (by decide)]
    · unfold FX8_disk
      refine rgd_eq ?_ (by decide) (by decide)
      rw [gd_pos hf, gd_pos hi]
      simp only [bn]
      rw [cb_e (q_1N h1), if_neg (by decide)]
theorem s_merge : gSim_merge Iv := by
  intro n σ μ s b hI hn hs hb
  have h := hI
  unfold Iv at h
  have hh := h
  obtain ⟨⟨q102, q103, q106, q107, q108, q109, q110, q111, q116, q121, q122, q123, q124, q125, q130, q135, q140⟩, hSp, hMp, hPr, hHd, hFr, hLs, hBl, hWr, hC1, hC2, hC3, hRc, hRo, hSc, hSt, hBd⟩ := h
  have h416 := hSp.2.1
  have e102 : μ 102 0 = σ 41 0 := by rw [q102]
  by_cases h1 : (0 ≤ s) ∧ (s ≤ σ 41 0 - 1)
  · refine ⟨0, sc σ 36 (uc (σ 36) s b), 0, sc (tw 0 μ) 109 (uc (μ 109) s b), ?_, ?_, Or.inl (by decide), ?_, ?_⟩
    · unfold FX7_merge
      rw [gd_pos hs, gd_pos hb, cb_e (x_kn hs h1 h416), if_neg (by rw [gx_0 hs.1]; decide)]
      simp only [bn]
      rw [u2_sc]
    · unfold FX8_merge
      rw [gd_pos hs, gd_pos hb]
      simp only [bn]
      rw [cb_e (q_1 (by rw [e102]; exact h1)), if_pos (by decide), gd_pos (by omega), u2_sc, tw_k (by decide)]
    · rw [gx_0 (by decide)]
      simp (disch := decide) only [sc_s, sc_k]
      exact tw_0
    · unfold Iv
      refine R_B (B := 4000000 * (n : Int)) (by omega) ?_
      unfold tw
      refine ⟨⟨?_, ?_, ?_, ?_, ?_, ?_, ?_, ?_, ?_, ?_, ?_, ?_, ?_, ?_, ?_, ?_, ?_⟩, ?_, ?_, ?_, ?_, ?_, ?_, ?_, ?_, ?_, ?_, ?_, ?_, ?_, ?_, ?_, ?_⟩
      all_goals (try simp (disch := decide) only [sc_s, sc_k, q102, q103, q106, q107, q108, q109, q110, q111, q116, q121, q122, q123, q124, q125, q130, q135, q140])
      all_goals (try with_reducible assumption)
      obtain ⟨a1, a2, a3, a4, a5, a6⟩ := hSp
      refine ⟨a1, a2, fun t t0 t1 => ?_, a4, a5, a6⟩
      have := a3 t t0 t1
      unfold uc
      split <;> omega
  · refine ⟨-1000000000001, σ, 0, tw 1 μ, ?_, ?_, by decide, by rw [gx_1]; exact tw_0, ?_⟩
    · unfold FX7_merge
      rw [gd_pos hs, gd_pos hb, cb_e (x_knN hs h1), if_pos (by decide)]
    · unfold FX8_merge
      rw [gd_pos hs, gd_pos hb]
      simp only [bn]
      rw [cb_e (q_1N (by rw [e102]; exact h1)), if_neg (by decide)]
    · unfold Iv
      exact R_B (B := 4000000 * (n : Int)) (by omega) (R_tw hh)
theorem s_handle : gSim_handle Iv := by
  intro n σ μ p hI hn hp
  have h := hI
  unfold Iv at h
  by_cases h1 : (0 ≤ p) ∧ (p ≤ 1)
  · obtain ⟨r, s1, m1, a1, a2, a3, a4, a5, a6⟩ := P_obey h1 (R_tw (c := 0) h)
    have hr : 0 ≤ r ∧ r ≤ 4 := by
      unfold FX0_obey at a1
      exact (rgd_some a1).2
    refine ⟨r, s1, r, m1, ?_, ?_, Or.inl (gx_0 (by omega)), ?_, fun _ => rfl, iv_ok (B := 4000000 * (n : Int)) (by omega) a3⟩
    · unfold FX7_handle
      refine rgx_eq ?_ (Or.inr (by omega))
      rw [gd_pos hp, cb_e (x_ca h1), if_neg (by rw [gx_0 hp.1]; decide), cb_e a1]
    · unfold FX8_handle
      refine rgd_eq ?_ (by omega) (by omega)
      rw [gd_pos hp]
      simp only [bn]
      rw [cb_e (q_1 h1), if_pos (by decide), cb_e a2]
    · rw [gx_0 (by omega), a5 101 (by decide)]
      exact tw_0
  · refine ⟨-1000000000001, σ, 0, tw 1 μ, ?_, ?_, by decide, by rw [gx_1]; exact tw_0, fun z => absurd z (by decide), iv_th hI⟩
    · unfold FX7_handle
      refine rgx_eq ?_ (Or.inl (by decide))
      rw [gd_pos hp, cb_e (x_caN hp h1), if_pos (by decide)]
    · unfold FX8_handle
      refine rgd_eq ?_ (by decide) (by decide)
      rw [gd_pos hp]
      simp only [bn]
      rw [cb_e (q_1N h1), if_neg (by decide)]
