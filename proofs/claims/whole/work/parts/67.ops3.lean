/-! calls: load, store -/
theorem s_load : gSim_load Iv := by
  intro n σ μ p s a hI hn hp hs ha
  have h := hI
  unfold Iv at h
  obtain ⟨e106, e102'⟩ := lv_al h
  have h416 := h.2.1.2.1
  have e102 : μ 102 0 = σ 41 0 := by rw [e102']
  have e106s : μ 106 s = σ 35 s := by rw [e106]
  by_cases h0 : (0 ≤ p) ∧ (p ≤ 1)
  · by_cases h1 : (0 ≤ s) ∧ (s ≤ σ 41 0 - 1)
    · have hk := h.2.1.2.2.1 s (by omega) (by omega)
      by_cases h2 : (0 ≤ a) ∧ (a ≤ 31)
      · by_cases h3 : σ 35 s = 1
        · obtain ⟨r, s1, m1, a1, a2, a3, a4, a5, a6⟩ := P_access h0 (show 0 ≤ s ∧ s ≤ 5 by omega) h2 (v := -1) (st := 0) (w := 0) (Or.inl ⟨rfl, rfl, rfl⟩) (by omega) (by omega) (R_tw (c := 0) h)
          refine ⟨r, s1, r, m1, ?_, ?_, Or.inl (gx_0 (by omega)), ?_, fun _ => rfl, iv_ok (by omega) a3⟩
          · unfold FX7_load
            refine rgx_eq ?_ (Or.inr (by omega))
            rw [gd_pos hp, gd_pos hs, gd_pos ha, cb_e (x_ca h0), if_neg (by rw [gx_0 hp.1]; decide), cb_e (x_kn hs h1 h416), if_neg (by rw [gx_0 hs.1]; decide), cb_e (x_dem h2), if_neg (by decide), cb_e (x_per h3), if_neg (by decide), cb_e a1]
          · unfold FX8_load
            refine rgd_eq ?_ (by omega) (by omega)
            rw [gd_pos hp, gd_pos hs, gd_pos ha]
            simp only [bn]
            rw [cb_e (q_3 (by rw [e102]; exact ⟨h0, h1⟩) h2 (if_pos (by rw [e102, e106s]; exact ⟨h1, by omega⟩))), if_pos (by decide), cb_e a2]
          · rw [gx_0 (by omega), a6]
            exact tw_0
        · refine ⟨-1000000000003, σ, 0, tw 3 μ, ?_, ?_, by decide, by rw [gx_3]; exact tw_0, fun z => absurd z (by decide), iv_th hI⟩
          · unfold FX7_load
            refine rgx_eq ?_ (Or.inl (by decide))
            rw [gd_pos hp, gd_pos hs, gd_pos ha, cb_e (x_ca h0), if_neg (by rw [gx_0 hp.1]; decide), cb_e (x_kn hs h1 h416), if_neg (by rw [gx_0 hs.1]; decide), cb_e (x_dem h2), if_neg (by decide), cb_e (x_perN (show σ 35 s = 0 by omega)), if_pos (by decide)]
          · unfold FX8_load
            refine rgd_eq ?_ (by decide) (by decide)
            rw [gd_pos hp, gd_pos hs, gd_pos ha]
            simp only [bn]
            rw [cb_e (q_3c (by rw [e102]; exact ⟨h0, h1⟩) h2 (if_neg (by rw [e106s]; omega))), if_neg (by decide)]
      · refine ⟨-1000000000002, σ, 0, tw 2 μ, ?_, ?_, by decide, by rw [gx_2]; exact tw_0, fun z => absurd z (by decide), iv_th hI⟩
        · unfold FX7_load
          refine rgx_eq ?_ (Or.inl (by decide))
          rw [gd_pos hp, gd_pos hs, gd_pos ha, cb_e (x_ca h0), if_neg (by rw [gx_0 hp.1]; decide), cb_e (x_kn hs h1 h416), if_neg (by rw [gx_0 hs.1]; decide), cb_e (x_demN h2), if_pos (by decide)]
        · unfold FX8_load
          refine rgd_eq ?_ (by decide) (by decide)
          rw [gd_pos hp, gd_pos hs, gd_pos ha]
          simp only [bn]
          rw [cb_e (q_3b (by rw [e102]; exact ⟨h0, h1⟩) h2 (by split <;> decide)), if_neg (by decide)]
    · refine ⟨-1000000000001, σ, 0, tw 1 μ, ?_, ?_, by decide, by rw [gx_1]; exact tw_0, fun z => absurd z (by decide), iv_th hI⟩
      · unfold FX7_load
        refine rgx_eq ?_ (Or.inl (by decide))
        rw [gd_pos hp, gd_pos hs, gd_pos ha, cb_e (x_ca h0), if_neg (by rw [gx_0 hp.1]; decide), cb_e (x_knN hs h1), if_pos (by decide)]
      · unfold FX8_load
        refine rgd_eq ?_ (by decide) (by decide)
        rw [gd_pos hp, gd_pos hs, gd_pos ha]
        simp only [bn]
        rw [cb_e (q_3a (by rw [e102]; exact fun z => h1 z.2) (by split <;> decide)), if_neg (by decide)]
  · refine ⟨-1000000000001, σ, 0, tw 1 μ, ?_, ?_, by decide, by rw [gx_1]; exact tw_0, fun z => absurd z (by decide), iv_th hI⟩
    · unfold FX7_load
      refine rgx_eq ?_ (Or.inl (by decide))
      rw [gd_pos hp, gd_pos hs, gd_pos ha, cb_e (x_caN hp h0), if_pos (by decide)]
    · unfold FX8_load
      refine rgd_eq ?_ (by decide) (by decide)
      rw [gd_pos hp, gd_pos hs, gd_pos ha]
      simp only [bn]
      rw [cb_e (q_3a (fun z => h0 z.1) (by split <;> decide)), if_neg (by decide)]
theorem s_store : gSim_store Iv := by
  intro n σ μ p s a v hI hn hp hs ha hv
  have h := hI
  unfold Iv at h
  obtain ⟨e106, e102'⟩ := lv_al h
  have h416 := h.2.1.2.1
  have e102 : μ 102 0 = σ 41 0 := by rw [e102']
  have e106s : μ 106 s = σ 35 s := by rw [e106]
  by_cases h0 : (0 ≤ p) ∧ (p ≤ 1)
  · by_cases h1 : (0 ≤ s) ∧ (s ≤ σ 41 0 - 1)
    · have hk := h.2.1.2.2.1 s (by omega) (by omega)
      by_cases h2 : ((0 ≤ a) ∧ (a ≤ 31)) ∧ ((0 ≤ v) ∧ (v ≤ 99999))
      · by_cases h3 : σ 35 s = 1
        · obtain ⟨r, s1, m1, a1, a2, a3, a4, a5, a6⟩ := P_access h0 (show 0 ≤ s ∧ s ≤ 5 by omega) h2.1 (v := v) (st := 1) (w := v) (Or.inr ⟨h2.2.1, h2.2.2, rfl, rfl⟩) (by omega) (by omega) (R_tw (c := 0) h)
          refine ⟨r, s1, r, m1, ?_, ?_, Or.inl (gx_0 (by omega)), ?_, fun _ => rfl, iv_ok (by omega) a3⟩
          · unfold FX7_store
            refine rgx_eq ?_ (Or.inr (by omega))
            rw [gd_pos hp, gd_pos hs, gd_pos ha, gd_pos hv, cb_e (x_ca h0), if_neg (by rw [gx_0 hp.1]; decide), cb_e (x_kn hs h1 h416), if_neg (by rw [gx_0 hs.1]; decide), cb_e (x_dem h2), if_neg (by decide), cb_e (x_per h3), if_neg (by decide), cb_e a1]
          · unfold FX8_store
            refine rgd_eq ?_ (by omega) (by omega)
            rw [gd_pos hp, gd_pos hs, gd_pos ha, gd_pos hv]
            simp only [bn]
            rw [cb_e (q_3 (by rw [e102]; exact ⟨h0, h1⟩) h2 (if_pos (by rw [e102, e106s]; exact ⟨h1, by omega⟩))), if_pos (by decide), cb_e a2]
          · rw [gx_0 (by omega), a6]
            exact tw_0
        · refine ⟨-1000000000003, σ, 0, tw 3 μ, ?_, ?_, by decide, by rw [gx_3]; exact tw_0, fun z => absurd z (by decide), iv_th hI⟩
          · unfold FX7_store
            refine rgx_eq ?_ (Or.inl (by decide))
            rw [gd_pos hp, gd_pos hs, gd_pos ha, gd_pos hv, cb_e (x_ca h0), if_neg (by rw [gx_0 hp.1]; decide), cb_e (x_kn hs h1 h416), if_neg (by rw [gx_0 hs.1]; decide), cb_e (x_dem h2), if_neg (by decide), cb_e (x_perN (show σ 35 s = 0 by omega)), if_pos (by decide)]
          · unfold FX8_store
            refine rgd_eq ?_ (by decide) (by decide)
            rw [gd_pos hp, gd_pos hs, gd_pos ha, gd_pos hv]
            simp only [bn]
            rw [cb_e (q_3c (by rw [e102]; exact ⟨h0, h1⟩) h2 (if_neg (by rw [e106s]; omega))), if_neg (by decide)]
      · refine ⟨-1000000000002, σ, 0, tw 2 μ, ?_, ?_, by decide, by rw [gx_2]; exact tw_0, fun z => absurd z (by decide), iv_th hI⟩
        · unfold FX7_store
          refine rgx_eq ?_ (Or.inl (by decide))
          rw [gd_pos hp, gd_pos hs, gd_pos ha, gd_pos hv, cb_e (x_ca h0), if_neg (by rw [gx_0 hp.1]; decide), cb_e (x_kn hs h1 h416), if_neg (by rw [gx_0 hs.1]; decide), cb_e (x_demN h2), if_pos (by decide)]
        · unfold FX8_store
          refine rgd_eq ?_ (by decide) (by decide)
          rw [gd_pos hp, gd_pos hs, gd_pos ha, gd_pos hv]
          simp only [bn]
          rw [cb_e (q_3b (by rw [e102]; exact ⟨h0, h1⟩) h2 (by split <;> decide)), if_neg (by decide)]
    · refine ⟨-1000000000001, σ, 0, tw 1 μ, ?_, ?_, by decide, by rw [gx_1]; exact tw_0, fun z => absurd z (by decide), iv_th hI⟩
      · unfold FX7_store
        refine rgx_eq ?_ (Or.inl (by decide))
        rw [gd_pos hp, gd_pos hs, gd_pos ha, gd_pos hv, cb_e (x_ca h0), if_neg (by rw [gx_0 hp.1]; decide), cb_e (x_knN hs h1), if_pos (by decide)]
      · unfold FX8_store
        refine rgd_eq ?_ (by decide) (by decide)
        rw [gd_pos hp, gd_pos hs, gd_pos ha, gd_pos hv]
        simp only [bn]
        rw [cb_e (q_3a (by rw [e102]; exact fun z => h1 z.2) (by split <;> decide)), if_neg (by decide)]
  · refine ⟨-1000000000001, σ, 0, tw 1 μ, ?_, ?_, by decide, by rw [gx_1]; exact tw_0, fun z => absurd z (by decide), iv_th hI⟩
    · unfold FX7_store
      refine rgx_eq ?_ (Or.inl (by decide))
      rw [gd_pos hp, gd_pos hs, gd_pos ha, gd_pos hv, cb_e (x_caN hp h0), if_pos (by decide)]
    · unfold FX8_store
      refine rgd_eq ?_ (by decide) (by decide)
      rw [gd_pos hp, gd_pos hs, gd_pos ha, gd_pos hv]
      simp only [bn]
      rw [cb_e (q_3a (fun z => h0 z.1) (by split <;> decide)), if_neg (by decide)]
