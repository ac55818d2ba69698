/-! calls: count, map, unmap -/
theorem s_count : gSim_count Iv := by
  intro n σ μ w hI hn hw
  have h := hI
  unfold Iv at h
  have hh := h
  obtain ⟨⟨q102, q103, q106, q107, q108, q109, q110, q111, q116, q121, q122, q123, q124, q125, q130, q135, q140⟩, hSp, hMp, hPr, hHd, hFr, hLs, hBl, hWr, hC1, hC2, hC3, hRc, hRo, hSc, hSt, hBd⟩ := h
  by_cases h1 : (0 ≤ w) ∧ (w ≤ 10)
  · have hT := R_tw (c := 0) hh
    by_cases hw8 : w < 8
    · have hb := hBd.2.2.2.2 w (by omega) (by omega)
      refine ⟨σ 48 w, σ, σ 48 w, tw 0 μ, ?_, ?_, Or.inl (gx_0 (by omega)), by rw [gx_0 (by omega)]; exact tw_0, fun _ => rfl, iv_ok (B := 4000000 * (n : Int)) (by omega) (R_tw hh)⟩
      · unfold FX7_count
        refine rgx_eq ?_ (Or.inr (by omega))
        rw [gd_pos hw, cb_e (x_dem h1), if_neg (by decide), if_pos hw8, gd_pos (by omega), gd_pos (by omega)]
      · unfold FX8_count
        refine rgd_eq ?_ (by omega) (by omega)
        rw [gd_pos hw, cb_e (q_1 h1), if_pos (by decide), if_pos hw8, gd_pos (by omega), tw_k (show 140 ≠ 101 by decide), q140]
    · have hu := P_used hT
      have hms := P_msgs hT
      have hpl := e7_placesTaken (σ := σ)
      have hr1 := cntI_r (fun r => (0 ≤ tw 0 μ 132 r) ∧ (tw 0 μ 132 r ≤ 9)) 18
      have hr2 := cntI_r (fun t => (t % 4 < tw 0 μ 135 (t / 4)) ∧ (tw 0 μ 139 t ≠ 0)) 8
      have hp1 : cntI (fun r => (0 ≤ tw 0 μ 132 r) ∧ (tw 0 μ 132 r ≤ 9)) 18 = cntI (fun q => σ 49 q ≠ 0) 10 := by
        have e1 := cnt_places hRo 10 (by decide)
        rw [← e1, tw_k (show 132 ≠ 101 by decide)]
        exact cntI_congr fun i _ _ => by omega
      obtain ⟨v, hv⟩ : ∃ v : Int, v = (if w = 8 then σ 31 0 else if w = 9 then cntI (fun r => (0 ≤ tw 0 μ 132 r) ∧ (tw 0 μ 132 r ≤ 9)) 18 else cntI (fun t => (t % 4 < tw 0 μ 135 (t / 4)) ∧ (tw 0 μ 139 t ≠ 0)) 8) := ⟨_, rfl⟩
      have hvb : 0 ≤ v ∧ v ≤ 18 := by
        rw [hv]
        repeat' split
        all_goals omega
      refine ⟨v, σ, v, tw 0 μ, ?_, ?_, Or.inl (gx_0 (by omega)), by rw [gx_0 (by omega)]; exact tw_0, fun _ => rfl, iv_ok (B := 4000000 * (n : Int)) (by omega) (R_tw hh)⟩
      · unfold FX7_count
        refine rgx_eq ?_ (Or.inr (by omega))
        rw [gd_pos hw, cb_e (x_dem h1), if_neg (by decide), if_neg hw8]
        simp only [bn]
        by_cases z8 : w = 8
        · rw [if_pos z8, hv, if_pos z8]
        · rw [if_neg z8]
          by_cases z9 : w = 9
          · rw [if_pos z9, cb_e hpl, hv, if_neg z8, if_pos z9, hp1]
          · rw [if_neg z9, cb_e hms, hv, if_neg z8, if_neg z9]
      · unfold FX8_count
        refine rgd_eq ?_ (by omega) (by omega)
        rw [gd_pos hw, cb_e (q_1 h1), if_pos (by decide), if_neg hw8]
        refine Eq.trans (gl2_cntg (p := fun r => (0 ≤ tw 0 μ 132 r) ∧ (tw 0 μ 132 r ≤ 9)) (N := 18) (x0 := 0) (a0 := 0) (by decide) (fun k j a hj g1 g2 => ?_) (fun k a => if_neg (by decide))) ?_
        · rw [Int.zero_add, if_pos (by omega), gd_pos (by split <;> omega)]
        · refine Eq.trans (gl2_cntg (p := fun t => (t % 4 < tw 0 μ 135 (t / 4)) ∧ (tw 0 μ 139 t ≠ 0)) (N := 8) (x0 := 0) (a0 := 0) (by decide) (fun k j a hj g1 g2 => ?_) (fun k a => if_neg (by decide))) ?_
          · rw [Int.zero_add, if_pos (by omega), gd_pos (by omega), gd_pos (fun _ => by omega), gd_pos (by split <;> omega), gd_pos (by omega)]
          · simp only [bn]
            rw [Int.zero_add, Int.zero_add]
            by_cases z8 : w = 8
            · rw [if_pos z8, cb_e hu.1, hv, if_pos z8]
            · rw [if_neg z8, hv, if_neg z8]
  · refine ⟨-1000000000002, σ, 0, tw 1 μ, ?_, ?_, by decide, by rw [gx_2]; exact tw_0, fun z => absurd z (by decide), iv_th hI⟩
    · unfold FX7_count
      refine rgx_eq ?_ (Or.inl (by decide))
      rw [gd_pos hw, cb_e (x_demN h1), if_pos (by decide)]
    · unfold FX8_count
      refine rgd_eq ?_ (by decide) (by decide)
      rw [gd_pos hw, cb_e (q_1N h1), if_neg (by decide)]
theorem run2 {β : Type} {f : (Int → Int → S2 → Option β) → Int → Int → S2 → Option β} {M : Nat → S2} {A : Nat → Int} {N : Nat} {x0 : Int} {Z : Option β} (hN : N ≤ 900) (hs : ∀ k (j : Nat), j < N → f k (A j) (x0 + j) (M j) = k (A (j + 1)) (x0 + j + 1) (M (j + 1))) (he : ∀ k, f k (A N) (x0 + N) (M N) = Z) : gl2 1000 f (A 0) x0 (M 0) = Z := by
  refine glw2 N (fun j a x s => j ≤ N ∧ a = A j ∧ x = x0 + j ∧ s = M j) (fun o => o = Z) ?_ 1000 0 (A 0) x0 (M 0) (by omega) (Nat.zero_le _) ⟨Nat.zero_le _, rfl, by omega, rfl⟩
  rintro k j a x s ⟨hj, rfl, rfl, rfl⟩ ih
  by_cases hjN : j < N
  · rw [hs k j hjN]
    exact ih hjN _ _ _ ⟨hjN, rfl, by omega, rfl⟩
  · have : j = N := by omega
    subst this
    exact he k
/-- how many of some addresses are mapped -/
theorem P_mapd {x y B s a n : Int} {σ μ : S2} {N : Nat} (hs : 0 ≤ s ∧ s ≤ 5) (ha : 0 ≤ a ∧ a ≤ 31) (hN : n = N) (hn : 1 ≤ n ∧ n ≤ 32) (h32 : a + n ≤ 32) (h : Rg x y B σ μ) : ∃ c, FX5_mapped s a n σ = some (c, σ) ∧ (∀ al, 0 ≤ al → al ≤ 1 → FX8_areMapped s a n al μ = some (if c = (if al ≠ 0 then n else 0) then 1 else 0, μ)) ∧ c = cntI (fun k => 0 < μ 111 (32 * s + a + k)) N ∧ 0 ≤ c ∧ c ≤ 32 ∧ (c = 0 → ∀ d, 32 * s + a ≤ d → d < 32 * s + a + n → σ 3 d = 0) ∧ (c = n → ∀ d, 32 * s + a ≤ d → d < 32 * s + a + n → σ 3 d ≠ 0) := by
  obtain ⟨⟨q102, q103, q106, q107, q108, q109, q110, q111, q116, q121, q122, q123, q124, q125, q130, q135, q140⟩, hSp, hMp, hPr, hHd, hFr, hLs, hBl, hWr, hC1, hC2, hC3, hRc, hRo, hSc, hSt, hBd⟩ := h
  have hr := cntI_r (fun k => 0 < μ 111 (32 * s + a + k)) N
  have e1 : cntI (fun k => σ 2 (32 * s + (a + k)) ≠ 0) N = cntI (fun k => 0 < μ 111 (32 * s + a + k)) N := by
    refine cntI_congr fun k k0 k1 => ?_
    have hm := hMp (32 * s + a + k) (by omega) (by omega)
    rw [q111, show 32 * s + (a + k) = 32 * s + a + k by omega]
    by_cases h3 : σ 3 (32 * s + a + k) = 0
    · have := hm.2.2.1 h3
      omega
    · have := (hm.2.2.2 h3).1
      omega
  refine ⟨_, e7_mapped hs ha hN hn h32, fun al a0 a1 => ?_, e1, by omega, by omega, fun z d d0 d1 => ?_, fun z d d0 d1 => ?_⟩
  · rw [e8_areMapped hs ha hN hn h32 ⟨a0, a1⟩, e1]
  · rw [e1] at z
    have h1 := cntI_0.mp z (d - (32 * s + a)) (by omega) (by omega)
    rw [show 32 * s + a + (d - (32 * s + a)) = d by omega, q111] at h1
    have := hMp d (by omega) (by omega)
    omega
  · rw [e1] at z
    intro w
    have h1 := cntI_lt (p := fun k => 0 < μ 111 (32 * s + a + k)) (n := N) (a := d - (32 * s + a)) (by omega) (by omega) (by
      rw [show 32 * s + a + (d - (32 * s + a)) = d by omega, q111]
      omega)
    omega
theorem s_map : gSim_map Iv := by
  intro n σ μ s a c r f i sh g hI hn hs ha hc hr hf hi hsh hg
  have h := hI
  unfold Iv at h
  have h416 := h.2.1.2.1
  obtain ⟨e106, e102'⟩ := lv_al h
  have e102 : μ 102 0 = σ 41 0 := by rw [e102']
  have e106s : μ 106 s = σ 35 s := by rw [e106]
  by_cases h1 : (0 ≤ s) ∧ (s ≤ σ 41 0 - 1)
  · have hk := h.2.1.2.2.1 s (by omega) (by omega)
    by_cases h2 : ((((((0 ≤ a) ∧ (a ≤ 31)) ∧ ((1 ≤ c) ∧ (c ≤ 32))) ∧ (a + c ≤ 32)) ∧ ((1 ≤ r) ∧ (r ≤ 3))) ∧ (((-1) ≤ f) ∧ (f ≤ 2))) ∧ ((f = (-1)) ∨ (((0 ≤ i) ∧ (i ≤ 7)) ∧ (i + c ≤ 8)))
    · have hd1 : ((((0 ≤ a) ∧ (a ≤ 31)) ∧ ((1 ≤ c) ∧ (c ≤ 32 - a))) ∧ ((1 ≤ r) ∧ (r ≤ 3))) ∧ (((-1) ≤ f) ∧ (f ≤ 2)) := by omega
      have hd2 : (f = (-1)) ∨ ((0 ≤ i) ∧ (i ≤ 8 - c)) := by omega
      by_cases h35 : σ 35 s = 1
      · obtain ⟨N, hN⟩ := Int.eq_ofNat_of_zero_le (show 0 ≤ c by omega)
        obtain ⟨cn, a1, a2, a3, a4, a5, a6, a7⟩ := P_mapd (s := s) (a := a) (n := c) (by omega) h2.1.1.1.1.1 hN h2.1.1.1.1.2 h2.1.1.1.2 h
        have a2' := a2 0 (by decide) (by decide)
        by_cases hz : cn = 0
        · rw [if_neg (show ¬ ((0 : Int) ≠ 0) by decide), if_pos hz] at a2'
          have hT := R_tw (c := 0) h
          obtain ⟨S, M, hS0, hM0, hJ, hT2⟩ := chain (J := fun j p q => Rg (-1) (-1) (4000000 * (n : Int)) p q ∧ (∀ k, k ∉ [2, 3, 4, 5, 6, 7] → p k = σ k) ∧ q 101 = tw 0 μ 101 ∧ ∀ d : Int, 32 * s + a + j ≤ d → d < 32 * s + a + c → p 3 d = 0)
            (T := fun j p q p' q' => FX1_establish (32 * s + (a + j)) r f (i + j) sh g p = some (0, p') ∧ FX8_lays (((32 * s) + a) + j) r f (i + j) sh g q = some (0, q')) N (by
            rintro j p q hj ⟨g1, g2, g3, g4⟩
            have hR := R_lay (e := 32 * s + (a + j)) (r := r) (f := f) (i := i + j) (h' := sh) (g := g) (by omega) (by omega) (by omega) (by omega) hg (g4 (32 * s + (a + j)) (by omega) (by omega)) (by rw [g2 41 (by decide)]; omega) g1
            refine ⟨_, _, ⟨e7_est (by omega) (by omega) (by omega) (by omega) hsh hg, ?_⟩, hR, ?_, ?_, ?_⟩
            · rw [show 32 * s + a + (j : Int) = 32 * s + (a + j) by omega]
              exact e8_lays (by omega) (by omega) (by omega) (by omega) hsh hg
            · intro k hk2
              exact (esC_k (e := 32 * s + (a + (j : Int))) (r := r) (f := f) (i := i + j) (h := sh) (g := g) hk2).trans (g2 k hk2)
            · unfold laM
              simp (disch := decide) only [sc_s, sc_k]
              exact g3
            · intro d d0 d1
              simp (disch := decide) only [sc_s, sc_k]
              rw [uc_n (by omega)]
              exact g4 d (by omega) d1) σ (tw 0 μ) ⟨hT, fun _ _ => rfl, rfl, fun d d0 d1 => a6 hz d (by omega) d1⟩
          obtain ⟨g1, g2, g3, g4⟩ := hJ N (Nat.le_refl _)
          obtain ⟨rr, b1, b2, b3, b4⟩ := P_regions (s := s) (by omega) g1
          refine ⟨rr, S N, rr, M N, ?_, ?_, Or.inl (gx_0 (by omega)), ?_, fun _ => rfl, iv_ok (B := 4000000 * (n : Int)) (by omega) g1⟩
          · unfold FX7_map
            refine rgx_eq ?_ (Or.inr (by omega))
            rw [gd_pos hs, gd_pos ha, gd_pos hc, gd_pos hr, gd_pos hf, gd_pos hi, gd_pos hsh, gd_pos hg, cb_e (x_kn hs h1 h416), if_neg (by rw [gx_0 hs.1]; decide), cb_e (x_dem hd1), if_neg (by decide), gd_pos (fun _ => by omega), cb_e (x_dem hd2), if_neg (by decide)]
            simp only [bn]
            rw [if_pos (by omega), cb_e a1, if_pos hz, cb_e (x_per rfl), if_neg (by decide), ← hS0]
            refine run1 (N := N) (x0 := 0) (by omega) ?_ ?_
            · intro k j hj
              rw [Int.zero_add, if_pos (by omega), gd_pos (by omega), cb_e (hT2 j hj).1]
            · intro k
              rw [if_neg (by omega), cb_e b1]
          · unfold FX8_map
            refine rgd_eq ?_ (by omega) (by omega)
            rw [gd_pos hs, gd_pos ha, gd_pos hc, gd_pos hr, gd_pos hf, gd_pos hi, gd_pos hsh, gd_pos hg]
            simp only [bn]
            rw [if_pos ⟨by rw [e102, e106s]; exact ⟨h1, by omega⟩, h2⟩, cb_e a2', if_pos (by decide), cb_e (q_3 (by rw [e102]; exact h1) h2 rfl), if_pos (by decide), ← hM0]
            refine run1 (N := N) (x0 := 0) (by omega) ?_ ?_
            · intro k j hj
              rw [Int.zero_add, if_pos (by omega), cb_e (hT2 j hj).2]
            · intro k
              rw [if_neg (by omega), cb_e b2]
          · rw [gx_0 (by omega), g3]
            exact tw_0
        · rw [if_neg (show ¬ ((0 : Int) ≠ 0) by decide), if_neg hz] at a2'
          refine ⟨-1000000000003, σ, 0, tw 3 μ, ?_, ?_, by decide, by rw [gx_3]; exact tw_0, fun z => absurd z (by decide), iv_th hI⟩
          · unfold FX7_map
            refine rgx_eq ?_ (Or.inl (by decide))
            rw [gd_pos hs, gd_pos ha, gd_pos hc, gd_pos hr, gd_pos hf, gd_pos hi, gd_pos hsh, gd_pos hg, cb_e (x_kn hs h1 h416), if_neg (by rw [gx_0 hs.1]; decide), cb_e (x_dem hd1), if_neg (by decide), gd_pos (fun _ => by omega), cb_e (x_dem hd2), if_neg (by decide)]
            simp only [bn]
            rw [if_pos (by omega), cb_e a1, if_neg hz, cb_e (x_perN rfl), if_pos (by decide)]
          · unfold FX8_map
            refine rgd_eq ?_ (by decide) (by decide)
            rw [gd_pos hs, gd_pos ha, gd_pos hc, gd_pos hr, gd_pos hf, gd_pos hi, gd_pos hsh, gd_pos hg]
            simp only [bn]
            rw [if_pos ⟨by rw [e102, e106s]; exact ⟨h1, by omega⟩, h2⟩, cb_e a2', if_neg (by decide), cb_e (q_3c (by rw [e102]; exact h1) h2 rfl), if_neg (by decide)]
      · refine ⟨-1000000000003, σ, 0, tw 3 μ, ?_, ?_, by decide, by rw [gx_3]; exact tw_0, fun z => absurd z (by decide), iv_th hI⟩
        · unfold FX7_map
          refine rgx_eq ?_ (Or.inl (by decide))
          rw [gd_pos hs, gd_pos ha, gd_pos hc, gd_pos hr, gd_pos hf, gd_pos hi, gd_pos hsh, gd_pos hg, cb_e (x_kn hs h1 h416), if_neg (by rw [gx_0 hs.1]; decide), cb_e (x_dem hd1), if_neg (by decide), gd_pos (fun _ => by omega), cb_e (x_dem hd2), if_neg (by decide)]
          simp only [bn]
          rw [if_neg (by omega), cb_e (x_perN rfl), if_pos (by decide)]
        · unfold FX8_map
          refine rgd_eq ?_ (by decide) (by decide)
          rw [gd_pos hs, gd_pos ha, gd_pos hc, gd_pos hr, gd_pos hf, gd_pos hi, gd_pos hsh, gd_pos hg]
          simp only [bn]
          rw [if_neg (fun q => q.1.2 (by rw [e106s]; omega)), cb_e (q_3c (by rw [e102]; exact h1) h2 rfl), if_neg (by decide)]
    · refine ⟨-1000000000002, σ, 0, tw 2 μ, ?_, ?_, by decide, by rw [gx_2]; exact tw_0, fun z => absurd z (by decide), iv_th hI⟩
      · unfold FX7_map
        refine rgx_eq ?_ (Or.inl (by decide))
        rw [gd_pos hs, gd_pos ha, gd_pos hc, gd_pos hr, gd_pos hf, gd_pos hi, gd_pos hsh, gd_pos hg, cb_e (x_kn hs h1 h416), if_neg (by rw [gx_0 hs.1]; decide)]
        by_cases hd1 : ((((0 ≤ a) ∧ (a ≤ 31)) ∧ ((1 ≤ c) ∧ (c ≤ 32 - a))) ∧ ((1 ≤ r) ∧ (r ≤ 3))) ∧ (((-1) ≤ f) ∧ (f ≤ 2))
        · have hd2 : ¬ ((f = (-1)) ∨ ((0 ≤ i) ∧ (i ≤ 8 - c))) := by omega
          rw [cb_e (x_dem hd1), if_neg (by decide), gd_pos (fun _ => by omega), cb_e (x_demN hd2), if_pos (by decide)]
        · rw [cb_e (x_demN hd1), if_pos (by decide)]
      · unfold FX8_map
        refine rgd_eq ?_ (by decide) (by decide)
        rw [gd_pos hs, gd_pos ha, gd_pos hc, gd_pos hr, gd_pos hf, gd_pos hi, gd_pos hsh, gd_pos hg]
        simp only [bn]
        rw [if_neg (fun q => h2 q.2), cb_e (q_3b (by rw [e102]; exact h1) h2 (by decide)), if_neg (by decide)]
  · refine ⟨-1000000000001, σ, 0, tw 1 μ, ?_, ?_, by decide, by rw [gx_1]; exact tw_0, fun z => absurd z (by decide), iv_th hI⟩
    · unfold FX7_map
      refine rgx_eq ?_ (Or.inl (by decide))
      rw [gd_pos hs, gd_pos ha, gd_pos hc, gd_pos hr, gd_pos hf, gd_pos hi, gd_pos hsh, gd_pos hg, cb_e (x_knN hs h1), if_pos (by decide)]
    · unfold FX8_map
      refine rgd_eq ?_ (by decide) (by decide)
      rw [gd_pos hs, gd_pos ha, gd_pos hc, gd_pos hr, gd_pos hf, gd_pos hi, gd_pos hsh, gd_pos hg]
      simp only [bn]
      rw [if_neg (fun q => h1 (by rw [← e102]; exact q.1.1)), cb_e (q_3a (by rw [e102]; exact h1) (by decide)), if_neg (by decide)]
theorem s_unmap : gSim_unmap Iv := by
  intro n σ μ s a c hI hn hs ha hc
  have h := hI
  unfold Iv at h
  have h416 := h.2.1.2.1
  obtain ⟨e106, e102'⟩ := lv_al h
  have e102 : μ 102 0 = σ 41 0 := by rw [e102']
  have e106s : μ 106 s = σ 35 s := by rw [e106]
  by_cases h1 : (0 ≤ s) ∧ (s ≤ σ 41 0 - 1)
  · have hk := h.2.1.2.2.1 s (by omega) (by omega)
    by_cases h2 : (((0 ≤ a) ∧ (a ≤ 31)) ∧ ((1 ≤ c) ∧ (c ≤ 32))) ∧ (a + c ≤ 32)
    · have hd1 : ((0 ≤ a) ∧ (a ≤ 31)) ∧ ((1 ≤ c) ∧ (c ≤ 32 - a)) := by omega
      by_cases h35 : σ 35 s = 1
      · have hT := R_tw (c := 0) h
        obtain ⟨N, hN⟩ := Int.eq_ofNat_of_zero_le (show 0 ≤ c by omega)
        obtain ⟨cn, a1, a2, a3, a4, a5, a6, a7⟩ := P_mapd (s := s) (a := a) (n := c) (by omega) h2.1.1 hN h2.1.2 h2.2 hT
        have t111 : tw 0 μ 111 = μ 111 := tw_k (by decide)
        rw [t111] at a3
        have m111 : μ 111 = σ 3 := h.1.2.2.2.2.2.2.2.1
        obtain ⟨S, M, hS0, hM0, hJ, hT2⟩ := chain (J := fun j p q => Rg (-1) (-1) (4000000 * (n : Int)) p q ∧ q 101 = tw 0 μ 101 ∧ ∀ d : Int, 32 * s + a + j ≤ d → q 111 d = μ 111 d)
          (T := fun j p q p' q' => FX7_remove (32 * s + (a + j)) p = some (0, p') ∧ (0 < q 111 (32 * s + a + j) → FX8_unmaps (32 * s + a + j) q = some (0, q')) ∧ (¬ 0 < q 111 (32 * s + a + j) → q' = q)) N (by
          rintro j p q hj ⟨g1, g2, g3⟩
          have e1 : 32 * s + (a + (j : Int)) = 32 * s + a + j := by omega
          rw [e1]
          obtain ⟨s1, m1, b1, b2, b3, b4⟩ := P_unm (e := 32 * s + a + j) (by omega) g1
          have p111 : q 111 = p 3 := g1.1.2.2.2.2.2.2.2.1
          have hm := g1.2.2.1 (32 * s + a + j) (by omega) (by omega)
          by_cases hz : 0 < q 111 (32 * s + a + j)
          · refine ⟨s1, m1, ⟨b1, fun _ => b2, fun w => absurd hz w⟩, b3, ?_, ?_⟩
            · rw [b4.2.1 101 (by decide), g2]
            · intro d d0
              have m1111 : m1 111 = s1 3 := b3.1.2.2.2.2.2.2.2.1
              rw [m1111, (b4.2.2.1 d (by omega)).2.1, ← p111]
              exact g3 d (by omega)
          · refine ⟨p, q, ⟨?_, fun w => absurd w hz, fun _ => rfl⟩, g1, g2, fun d d0 => g3 d (by omega)⟩
            have h30 : p 3 (32 * s + a + j) = 0 := by rw [p111] at hz; omega
            unfold FX7_remove
            rw [gd_pos (by omega)]
            simp only [bn]
            rw [if_neg (fun w => w (hm.2.2.1 h30))]) σ (tw 0 μ) ⟨hT, rfl, fun d _ => by rw [t111]⟩
        obtain ⟨g1, g2, g3⟩ := hJ N (Nat.le_refl _)
        refine ⟨cn, S N, cn, M N, ?_, ?_, Or.inl (gx_0 (by omega)), ?_, fun _ => rfl, iv_ok (B := 4000000 * (n : Int)) (by omega) g1⟩
        · unfold FX7_unmap
          refine rgx_eq ?_ (Or.inr (by omega))
          rw [gd_pos hs, gd_pos ha, gd_pos hc, cb_e (x_kn hs h1 h416), if_neg (by rw [gx_0 hs.1]; decide), cb_e (x_dem hd1), if_neg (by decide), cb_e (x_per h35), if_neg (by decide), cb_e a1, ← hS0]
          refine run1 (N := N) (x0 := a) (by omega) ?_ ?_
          · intro k j hj
            rw [gd_pos (by omega), gd_pos (by omega), if_pos (by omega), gd_pos (by omega), cb_e (hT2 j hj).1]
          · intro k
            rw [gd_pos (by omega), gd_pos (by omega), if_neg (by omega)]
        · unfold FX8_unmap
          refine rgd_eq ?_ (by omega) (by omega)
          rw [gd_pos hs, gd_pos ha, gd_pos hc, cb_e (q_3 (by rw [e102]; exact h1) h2 (if_pos (by rw [e102, e106s]; exact ⟨h1, by omega⟩))), if_pos (by decide), gd_pos (by omega), ← hM0]
          refine run2 (A := fun j => cntI (fun k => 0 < μ 111 (32 * s + a + k)) j) (N := N) (x0 := 32 * s + a) (by omega) ?_ ?_
          · intro k j hj
            have g3j := (hJ j (by omega)).2.2 (32 * s + a + j) (by omega)
            have hcr := cntI_r (fun k => 0 < μ 111 (32 * s + a + k)) j
            try dsimp only
            have e2 : cntI (fun k => 0 < μ 111 (32 * s + a + k)) (j + 1) = cntI (fun k => 0 < μ 111 (32 * s + a + k)) j + if 0 < μ 111 (32 * s + a + (j : Int)) then 1 else 0 := rfl
            rw [gd_pos (by omega), if_pos (by omega)]
            simp only [bn]
            rw [gd_pos (by omega)]
            show _ = k (cntI (fun k => 0 < μ 111 (32 * s + a + k)) (j + 1)) _ _
            rw [e2]
            by_cases hz : 0 < M j 111 (32 * s + a + j)
            · rw [if_pos hz, cb_e ((hT2 j hj).2.1 hz), gd_pos (by omega), if_pos (by rw [← g3j]; exact hz)]
            · rw [if_neg hz, if_neg (by rw [← g3j]; exact hz), Int.add_zero, (hT2 j hj).2.2 hz]
          · intro k
            try dsimp only
            rw [gd_pos (by omega), if_neg (by omega), a3]
        · rw [gx_0 (by omega), g2]
          exact tw_0
      · refine ⟨-1000000000003, σ, 0, tw 3 μ, ?_, ?_, by decide, by rw [gx_3]; exact tw_0, fun z => absurd z (by decide), iv_th hI⟩
        · unfold FX7_unmap
          refine rgx_eq ?_ (Or.inl (by decide))
          rw [gd_pos hs, gd_pos ha, gd_pos hc, cb_e (x_kn hs h1 h416), if_neg (by rw [gx_0 hs.1]; decide), cb_e (x_dem hd1), if_neg (by decide), cb_e (x_perN (show σ 35 s = 0 by omega)), if_pos (by decide)]
        · unfold FX8_unmap
          refine rgd_eq ?_ (by decide) (by decide)
          rw [gd_pos hs, gd_pos ha, gd_pos hc, cb_e (q_3c (by rw [e102]; exact h1) h2 (if_neg (by rw [e106s]; omega))), if_neg (by decide)]
    · have hd1 : ¬ (((0 ≤ a) ∧ (a ≤ 31)) ∧ ((1 ≤ c) ∧ (c ≤ 32 - a))) := by omega
      refine ⟨-1000000000002, σ, 0, tw 2 μ, ?_, ?_, by decide, by rw [gx_2]; exact tw_0, fun z => absurd z (by decide), iv_th hI⟩
      · unfold FX7_unmap
        refine rgx_eq ?_ (Or.inl (by decide))
        rw [gd_pos hs, gd_pos ha, gd_pos hc, cb_e (x_kn hs h1 h416), if_neg (by rw [gx_0 hs.1]; decide), cb_e (x_demN hd1), if_pos (by decide)]
      · unfold FX8_unmap
        refine rgd_eq ?_ (by decide) (by decide)
        rw [gd_pos hs, gd_pos ha, gd_pos hc, cb_e (q_3b (by rw [e102]; exact h1) h2 (by split <;> decide)), if_neg (by decide)]
  · refine ⟨-1000000000001, σ, 0, tw 1 μ, ?_, ?_, by decide, by rw [gx_1]; exact tw_0, fun z => absurd z (by decide), iv_th hI⟩
    · unfold FX7_unmap
      refine rgx_eq ?_ (Or.inl (by decide))
      rw [gd_pos hs, gd_pos ha, gd_pos hc, cb_e (x_knN hs h1), if_pos (by decide)]
    · unfold FX8_unmap
      refine rgd_eq ?_ (by decide) (by decide)
      rw [gd_pos hs, gd_pos ha, gd_pos hc, cb_e (q_3a (by rw [e102]; exact h1) (by split <;> decide)), if_neg (by decide)]
