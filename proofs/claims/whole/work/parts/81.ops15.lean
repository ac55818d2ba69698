/-! calls: scan: the call -/
theorem s_scan : gSim_scan Iv := by
  intro n σ μ a hI hn ha
  have h := hI
  unfold Iv at h
  by_cases h1 : (1 ≤ a) ∧ (a ≤ 192)
  · have hT := R_tw (c := 0) h
    have hany := e7_isSome (σ := σ)
    have hr := anyI_r (fun s => (σ 35 s ≠ 0) ∧ (σ 36 s ≠ 0)) 6
    have m102 : tw 0 μ 102 = σ 41 := hT.1.1
    have m106 : tw 0 μ 106 = σ 35 := hT.1.2.2.1
    have m109 : tw 0 μ 109 = σ 36 := hT.1.2.2.2.2.2.1
    have h41 := hT.2.1.1
    have h416 := hT.2.1.2.1
    have hlv := hT.2.1.2.2.2.1
    obtain ⟨N, hN⟩ := Int.eq_ofNat_of_zero_le h41
    have hN2 : tw 0 μ 102 0 = N := by rw [m102]; exact hN
    have heq : anyI (fun s => (((0 ≤ s) ∧ (s ≤ (tw 0 μ 102 0) - 1)) ∧ (tw 0 μ 106 s ≠ 0)) ∧ (tw 0 μ 109 s ≠ 0)) N = anyI (fun s => (σ 35 s ≠ 0) ∧ (σ 36 s ≠ 0)) 6 := by
      refine anyI_cg ?_
      rw [hN2, m106, m109]
      constructor
      · rintro ⟨i, i0, i1, i2⟩
        exact ⟨i, i0, by omega, i2.1.2, i2.2⟩
      · rintro ⟨i, i0, i1, i2⟩
        have hi : i < σ 41 0 := by
          apply Classical.byContradiction
          intro q
          exact i2.1 (hlv i (by omega) (by omega))
        exact ⟨i, i0, by omega, ⟨⟨i0, by omega⟩, i2.1⟩, i2.2⟩
    have hloop : gl2 1000 (fun k1 (x_some1 : Int) (x_s1 : Int) (s2 : S2) => if x_s1 < s2 102 0 then k1 (gOr x_some1 (if (((0 ≤ x_s1) ∧ (x_s1 ≤ (s2 102 0) - 1)) ∧ (s2 106 x_s1 ≠ 0)) ∧ (s2 109 x_s1 ≠ 0) then 1 else 0 : Int)) (x_s1 + 1) s2 else gl2 1000 (scO x_some1 a) 0 0 s2) 0 0 (tw 0 μ) = gl2 1000 (scO (anyI (fun s => (σ 35 s ≠ 0) ∧ (σ 36 s ≠ 0)) 6) a) 0 0 (tw 0 μ) := by
      rw [← heq]
      exact gl2_any (P := fun s => (((0 ≤ s) ∧ (s ≤ (tw 0 μ 102 0) - 1)) ∧ (tw 0 μ 106 s ≠ 0)) ∧ (tw 0 μ 109 s ≠ 0)) (N := N) (Z := fun sm => gl2 1000 (scO sm a) 0 0 (tw 0 μ)) (by omega) (fun k j b hj => if_pos (by omega)) (fun k b => if_neg (by omega))
    by_cases h0 : anyI (fun s => (σ 35 s ≠ 0) ∧ (σ 36 s ≠ 0)) 6 = 0
    · refine ⟨0, σ, 0, tw 0 μ, ?_, ?_, Or.inl (gx_0 (by omega)), by rw [gx_0 (by omega)]; exact tw_0, fun _ => rfl, iv_ok (B := 4000000 * (n : Int)) (by omega) hT⟩
      · unfold FX7_scan
        refine rgx_eq ?_ (Or.inr (by omega))
        rw [gd_pos ha, cb_e (x_dem h1), if_neg (by decide), cb_e hany, h0]
        show gl3 (999 + 1) (scG 0 a) 0 0 0 σ = _
        rw [gl3_e, scG_eq, if_neg (fun w => w.1.1 rfl)]
      · unfold FX8_scan
        refine rgd_eq ?_ (by omega) (by omega)
        rw [gd_pos ha, cb_e (q_1 h1), if_pos (by decide)]
        refine Eq.trans hloop ?_
        rw [h0, gl2_e (n := 999), scO_eq, if_neg (fun w => w.2 rfl)]
    · obtain ⟨z, z0, z1, z2⟩ := anyI_iff.mp h0
      have hSc := hT.2.2.2.2.2.2.2.2.2.2.2.2.2.2.1
      have s3 := hSc.2.2.1
      have s4 := hSc.2.2.2.1
      obtain ⟨v, s1, m1, b1, b2, b3, b4, b5, b6⟩ := L_scan (r := anyI (fun s => (σ 35 s ≠ 0) ∧ (σ 36 s ≠ 0)) 6) (sm := anyI (fun s => (σ 35 s ≠ 0) ∧ (σ 36 s ≠ 0)) 6) (z := z) h0 h0 (by omega) h1.2 300 σ (tw 0 μ) 0 0 0 1000 1000 999 hT z2.1 z2.2 (by decide) (by omega) (by decide) (by decide) (by decide) (by decide) (by omega) (by decide) (by omega) (by omega)
      refine ⟨v, s1, v, m1, ?_, ?_, Or.inl (gx_0 (by omega)), ?_, fun _ => rfl, iv_ok (B := 4000000 * (n : Int)) (by omega) b3⟩
      · unfold FX7_scan
        refine rgx_eq ?_ (Or.inr (by omega))
        rw [gd_pos ha, cb_e (x_dem h1), if_neg (by decide), cb_e hany]
        exact b1
      · unfold FX8_scan
        refine rgd_eq ?_ (by omega) (by omega)
        rw [gd_pos ha, cb_e (q_1 h1), if_pos (by decide)]
        refine Eq.trans hloop ?_
        rw [gl2_e (n := 999), scO_eq, if_pos ⟨by omega, h0⟩]
        exact b2
      · rw [gx_0 (by omega), b6]
        exact tw_0
  · refine ⟨-1000000000002, σ, 0, tw 1 μ, ?_, ?_, by decide, by rw [gx_2]; exact tw_0, fun z => absurd z (by decide), iv_th hI⟩
    · unfold FX7_scan
      refine rgx_eq ?_ (Or.inl (by decide))
      rw [gd_pos ha, cb_e (x_demN h1), if_pos (by decide)]
    · unfold FX8_scan
      refine rgd_eq ?_ (by decide) (by decide)
      rw [gd_pos ha, cb_e (q_1N h1), if_neg (by decide)]
theorem s_all : gSimAll Iv := ⟨fun n σ μ h => R_B (B := 4000000 * (n : Int)) (by omega) h, s_space, s_map, s_unmap, s_protect, s_move, s_fork, s_end, s_adjust, s_limit, s_load, s_store, s_read, s_write, s_sync, s_disk, s_reclaim, s_handle, s_join, s_merge, s_scan, s_entry, s_frame, s_list, s_about, s_count⟩
