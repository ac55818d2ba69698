/-! calls: end, reclaim, load, store, read, write -/
theorem lv_al {x y B : Int} {σ μ : S2} (h : Rg x y B σ μ) : μ 106 = σ 35 ∧ μ 102 = σ 41 := ⟨h.1.2.2.1, h.1.1⟩
theorem s_end : gSim_end Iv := by
  intro n σ μ s hI hn hs
  have h := hI
  unfold Iv at h
  obtain ⟨e106, e102'⟩ := lv_al h
  have h416 := h.2.1.2.1
  have e102 : μ 102 0 = σ 41 0 := by rw [e102']
  have e106s : μ 106 s = σ 35 s := by rw [e106]
  by_cases h1 : (0 ≤ s) ∧ (s ≤ σ 41 0 - 1)
  · have hk := h.2.1.2.2.1 s (by omega) (by omega)
    by_cases h2 : σ 35 s = 1
    · have hs5 : 0 ≤ s ∧ s ≤ 5 := by omega
      have hT := R_tw (c := 0) h
      obtain ⟨a1, a2⟩ := P_score hs5 hT
      obtain ⟨s1, m1, b1, b2, b3, b4⟩ := P_bury hs5 hT
      have t108 : tw 0 μ 108 s = σ 34 s := by
        rw [tw_k (by decide)]
        have : μ 108 = σ 34 := h.1.2.2.2.2.1
        rw [this]
      have hc0 := cntI_r (fun a => (σ 2 (32 * s + a) ≠ 0) ∧ (σ 8 (32 * s + a) = 1)) 32
      have hc1 := cntI_r (fun a => (σ 2 (32 * s + a) ≠ 0) ∧ (σ 8 (32 * s + a) = 2)) 32
      have hsc : scI σ s = cntI (fun a => (σ 2 (32 * s + a) ≠ 0) ∧ (σ 8 (32 * s + a) = 1)) 32 + cntI (fun a => (σ 2 (32 * s + a) ≠ 0) ∧ (σ 8 (32 * s + a) = 2)) 32 + σ 34 s := rfl
      refine ⟨scI σ s - σ 34 s, s1, scI σ s - σ 34 s, m1, ?_, ?_, Or.inl (gx_0 (by omega)), ?_, fun _ => rfl, iv_ok (B := 4000000 * (n : Int)) (by omega) b3⟩
      · unfold FX7_end
        refine rgx_eq ?_ (Or.inr (by omega))
        rw [gd_pos hs, cb_e (x_kn hs h1 h416), if_neg (by rw [gx_0 hs.1]; decide), cb_e (x_per h2), if_neg (by decide), cb_e (e7_having hs5 (by decide)), cb_e (e7_having hs5 (by decide)), cb_e b1, gd_pos (by omega)]
        congr 2
        omega
      · unfold FX8_end
        refine rgd_eq ?_ (by omega) (by omega)
        rw [gd_pos hs, cb_e (q_2 (by rw [e102]; exact h1) (by rw [e102, e106s]; exact ⟨h1, by omega⟩)), if_pos (by decide), cb_e a2, gd_pos hs5, cb_e b2, t108]
      · rw [gx_0 (by omega), b4.2.1 101 (by decide)]
        exact tw_0
    · refine ⟨-1000000000003, σ, 0, tw 2 μ, ?_, ?_, by decide, by rw [gx_3]; exact tw_0, fun z => absurd z (by decide), iv_th hI⟩
      · unfold FX7_end
        refine rgx_eq ?_ (Or.inl (by decide))
        rw [gd_pos hs, cb_e (x_kn hs h1 h416), if_neg (by rw [gx_0 hs.1]; decide), cb_e (x_perN (show σ 35 s = 0 by omega)), if_pos (by decide)]
      · unfold FX8_end
        refine rgd_eq ?_ (by decide) (by decide)
        rw [gd_pos hs, cb_e (q_2b (by rw [e102]; exact h1) (by rw [e106s]; omega)), if_neg (by decide)]
  · refine ⟨-1000000000001, σ, 0, tw 1 μ, ?_, ?_, by decide, by rw [gx_1]; exact tw_0, fun z => absurd z (by decide), iv_th hI⟩
    · unfold FX7_end
      refine rgx_eq ?_ (Or.inl (by decide))
      rw [gd_pos hs, cb_e (x_knN hs h1), if_pos (by decide)]
    · unfold FX8_end
      refine rgd_eq ?_ (by decide) (by decide)
      rw [gd_pos hs, cb_e (q_2a (by rw [e102]; exact h1)), if_neg (by decide)]
theorem L_recl {p : Int} (hp : 1 ≤ p ∧ p ≤ 24) : ∀ (k : Nat) (B : Int) (σ μ : S2) (x : Int) (fC fM : Nat), B + 2000 * k ≤ 2147483647 → Rg (-1) (-1) B σ μ → x + k = p → 0 ≤ x → k < fC → k < fM → ∃ r s1 m1, gl1 fC (fun k1 (x_evicted1 : Int) (s2 : S2) => bn (fun (s3 : S2) => gd ((-2147483648) ≤ x_evicted1 + 1 ∧ x_evicted1 + 1 ≤ 2147483647) <| k1 (x_evicted1 + 1) s3) fun k2 => bn (fun (s4 : S2) => some (x_evicted1, s4)) fun k3 => if x_evicted1 < p then cb (FX7_evictOne (-1) s2) fun r2 s5 => if r2 ≠ 0 then k2 s5 else k3 s5 else k3 s2) x σ = some (r, s1) ∧ gl1 fM (fun k1 (x_n1 : Int) (s2 : S2) => bn (fun (s3 : S2) => gd ((-2147483648) ≤ x_n1 + 1 ∧ x_n1 + 1 ≤ 2147483647) <| k1 (x_n1 + 1) s3) fun k2 => bn (fun (s4 : S2) => some (x_n1, s4)) fun k3 => if x_n1 < p then cb (FX8_evicts (-1) s2) fun r2 s5 => if r2 ≠ 0 then k2 s5 else k3 s5 else k3 s2) x μ = some (r, m1) ∧ Rg (-1) (-1) (B + 2000 * k) s1 m1 ∧ x ≤ r ∧ r ≤ p ∧ m1 101 = μ 101
  | k, B, σ, μ, x, 0, fM, _, _, _, _, hf, _ => absurd hf (Nat.not_lt_zero _)
  | k, B, σ, μ, x, fC + 1, 0, _, _, _, _, _, hf => absurd hf (Nat.not_lt_zero _)
  | 0, B, σ, μ, x, fC + 1, fM + 1, hB, h, hx, hx0, hfC, hfM => by
    refine ⟨x, σ, μ, ?_, ?_, R_B (by omega) h, by omega, by omega, rfl⟩
    · rw [gl1_e]
      simp only [bn]
      rw [if_neg (by omega)]
    · rw [gl1_e]
      simp only [bn]
      rw [if_neg (by omega)]
  | k + 1, B, σ, μ, x, fC + 1, fM + 1, hB, h, hx, hx0, hfC, hfM => by
    obtain ⟨b, s1, m1, a1, a2, a3, a4, a5⟩ := P_evict (g := -1) (by decide) (by omega) h
    have h101 : m1 101 = μ 101 := a5.2.1 101 (by decide)
    rcases a4 with ⟨hb, _⟩ | ⟨hb, _⟩
    · refine ⟨x, s1, m1, ?_, ?_, R_B (by omega) a3, by omega, by omega, h101⟩
      · rw [gl1_e]
        simp only [bn]
        rw [if_pos (by omega), cb_e a1, if_neg (fun z => z hb)]
      · rw [gl1_e]
        simp only [bn]
        rw [if_pos (by omega), cb_e a2, if_neg (fun z => z hb)]
    · obtain ⟨r, s2, m2, b1, b2, b3, b4, b5, b6⟩ := L_recl hp k (B + 2000) s1 m1 (x + 1) fC fM (by omega) a3 (by omega) (by omega) (by omega) (by omega)
      refine ⟨r, s2, m2, ?_, ?_, R_B (by omega) b3, by omega, b5, b6.trans h101⟩
      · rw [gl1_e]
        simp only [bn]
        rw [if_pos (by omega), cb_e a1, if_pos (by omega), gd_pos (by omega)]
        exact b1
      · rw [gl1_e]
        simp only [bn]
        rw [if_pos (by omega), cb_e a2, if_pos (by omega), gd_pos (by omega)]
        exact b2
theorem s_reclaim : gSim_reclaim Iv := by
  intro n σ μ p hI hn hp
  have h := hI
  unfold Iv at h
  by_cases h1 : (1 ≤ p) ∧ (p ≤ 24)
  · obtain ⟨k, hk⟩ := Int.eq_ofNat_of_zero_le (show 0 ≤ p by omega)
    obtain ⟨r, s1, m1, a1, a2, a3, a4, a5, a6⟩ := L_recl h1 k (4000000 * (n : Int)) σ (tw 0 μ) 0 1000 1000 (by omega) (R_tw h) (by omega) (by decide) (by omega) (by omega)
    refine ⟨r, s1, r, m1, ?_, ?_, Or.inl (gx_0 (by omega)), ?_, fun _ => rfl, iv_ok (by omega) a3⟩
    · unfold FX7_reclaim
      refine rgx_eq ?_ (Or.inr (by omega))
      rw [gd_pos hp, cb_e (x_dem h1), if_neg (by decide)]
      exact a1
    · unfold FX8_reclaim
      refine rgd_eq ?_ (by omega) (by omega)
      rw [gd_pos hp, cb_e (q_1 h1), if_pos (by decide)]
      exact a2
    · rw [gx_0 (by omega), a6]
      exact tw_0
  · refine ⟨-1000000000002, σ, 0, tw 1 μ, ?_, ?_, by decide, by rw [gx_2]; exact tw_0, fun z => absurd z (by decide), iv_th hI⟩
    · unfold FX7_reclaim
      refine rgx_eq ?_ (Or.inl (by decide))
      rw [gd_pos hp, cb_e (x_demN h1), if_pos (by decide)]
    · unfold FX8_reclaim
      refine rgd_eq ?_ (by decide) (by decide)
      rw [gd_pos hp, cb_e (q_1N h1), if_neg (by decide)]
/-- a file is read or written by call -/
theorem P_file {B a b v st w : Int} {σ μ : S2} (ha : 0 ≤ a ∧ a ≤ 2) (hb : 0 ≤ b ∧ b ≤ 7) (hv : (v = -1 ∧ st = 0 ∧ w = 0) ∨ (0 ≤ v ∧ v ≤ 99999 ∧ st = 1 ∧ w = v)) (hB : B + 140010 ≤ 2147483647) (h : Rg (-1) (-1) B σ μ) : ∃ r s1 m1, FX7_accessFile a b v σ = some (r, s1) ∧ (cb (FX8_caches ((8 * a) + b) 0 (-1) μ) fun r2 s2 => bn (fun (v1 : Int) (s3 : S2) => some (v1, s3)) fun k1 => if r2 < 0 then k1 (-5) s2 else cb (FX8_takesValue r2 st w s2) fun r3 s4 => k1 r3 s4) = some (r, m1) ∧ Rg (-1) (-1) (B + 140010) s1 m1 ∧ -5 ≤ r ∧ r ≤ 99999 ∧ m1 101 = μ 101 := by
  obtain ⟨r, s, m, c1, c2, c3, c4, c5, c6, c7, c8, c9⟩ := P_cached (q := -1) ha hb (by decide) hB h
  rw [if_pos (by decide)] at c2
  have h101 : m 101 = μ 101 := c4.2.1 101 (by decide)
  by_cases hr : 0 ≤ r
  · obtain ⟨r', s1, m1, d1, d2, d3, d4, d5, d6⟩ := P_touch ⟨hr, c6⟩ hv (by rw [c7 hr]; decide) c3
    refine ⟨r', s1, m1, ?_, ?_, d3, by omega, d5, ?_⟩
    · unfold FX7_accessFile
      refine rgd_eq ?_ (by omega) (by omega)
      rw [gd_pos ha, gd_pos hb, gd_pos (by omega), cb_e c1, cb_e (e7_pageIn ⟨c5, c6⟩), if_pos hr]
      simp only [bn]
      rw [if_neg (show ¬ r < 0 by omega), cb_e d1]
    · rw [cb_e c2]
      simp only [bn]
      rw [if_neg (show ¬ r < 0 by omega), cb_e d2]
    · rw [d6, h101]
  · have hr5 : r = -5 := by
      have := c8 (by omega)
      omega
    refine ⟨r, s, m, ?_, ?_, c3, c5, by omega, h101⟩
    · unfold FX7_accessFile
      refine rgd_eq ?_ (by omega) (by omega)
      rw [gd_pos ha, gd_pos hb, gd_pos (by omega), cb_e c1, cb_e (e7_pageIn ⟨c5, c6⟩), if_neg hr]
      simp only [bn]
      rw [if_pos (by decide)]
    · rw [cb_e c2]
      simp only [bn]
      rw [if_pos (show r < 0 by omega), hr5]
theorem s_read : gSim_read Iv := by
  intro n σ μ f i hI hn hf hi
  have h := hI
  unfold Iv at h
  by_cases h1 : ((0 ≤ f) ∧ (f ≤ 2)) ∧ ((0 ≤ i) ∧ (i ≤ 7))
  · obtain ⟨r, s1, m1, a1, a2, a3, a4, a5, a6⟩ := P_file h1.1 h1.2 (v := -1) (st := 0) (w := 0) (Or.inl ⟨rfl, rfl, rfl⟩) (by omega) (R_tw (c := 0) h)
    refine ⟨r, s1, r, m1, ?_, ?_, Or.inl (gx_0 (by omega)), ?_, fun _ => rfl, iv_ok (by omega) a3⟩
    · unfold FX7_read
      refine rgx_eq ?_ (Or.inr (by omega))
      rw [gd_pos hf, gd_pos hi, cb_e (x_dem h1), if_neg (by decide), cb_e a1]
    · unfold FX8_read
      refine rgd_eq ?_ (by omega) (by omega)
      rw [gd_pos hf, gd_pos hi, cb_e (q_1 h1), if_pos (by decide)]
      exact a2
    · rw [gx_0 (by omega), a6]
      exact tw_0
  · refine ⟨-1000000000002, σ, 0, tw 1 μ, ?_, ?_, by decide, by rw [gx_2]; exact tw_0, fun z => absurd z (by decide), iv_th hI⟩
    · unfold FX7_read
      refine rgx_eq ?_ (Or.inl (by decide))
      rw [gd_pos hf, gd_pos hi, cb_e (x_demN h1), if_pos (by decide)]
    · unfold FX8_read
      refine rgd_eq ?_ (by decide) (by decide)
      rw [gd_pos hf, gd_pos hi, cb_e (q_1N h1), if_neg (by decide)]
theorem s_write : gSim_write Iv := by
  intro n σ μ f i v hI hn hf hi hv
  have h := hI
  unfold Iv at h
  by_cases h1 : (((0 ≤ f) ∧ (f ≤ 2)) ∧ ((0 ≤ i) ∧ (i ≤ 7))) ∧ ((0 ≤ v) ∧ (v ≤ 99999))
  · obtain ⟨r, s1, m1, a1, a2, a3, a4, a5, a6⟩ := P_file h1.1.1 h1.1.2 (v := v) (st := 1) (w := v) (Or.inr ⟨h1.2.1, h1.2.2, rfl, rfl⟩) (by omega) (R_tw (c := 0) h)
    refine ⟨r, s1, r, m1, ?_, ?_, Or.inl (gx_0 (by omega)), ?_, fun _ => rfl, iv_ok (by omega) a3⟩
    · unfold FX7_write
      refine rgx_eq ?_ (Or.inr (by omega))
      rw [gd_pos hf, gd_pos hi, gd_pos hv, cb_e (x_dem h1), if_neg (by decide), cb_e a1]
    · unfold FX8_write
      refine rgd_eq ?_ (by omega) (by omega)
      rw [gd_pos hf, gd_pos hi, gd_pos hv, cb_e (q_1 h1), if_pos (by decide)]
      exact a2
    · rw [gx_0 (by omega), a6]
      exact tw_0
  · refine ⟨-1000000000002, σ, 0, tw 1 μ, ?_, ?_, by decide, by rw [gx_2]; exact tw_0, fun z => absurd z (by decide), iv_th hI⟩
    · unfold FX7_write
      refine rgx_eq ?_ (Or.inl (by decide))
      rw [gd_pos hf, gd_pos hi, gd_pos hv, cb_e (x_demN h1), if_pos (by decide)]
    · unfold FX8_write
      refine rgd_eq ?_ (by decide) (by decide)
      rw [gd_pos hf, gd_pos hi, gd_pos hv, cb_e (q_1N h1), if_neg (by decide)]
