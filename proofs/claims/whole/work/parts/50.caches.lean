/-! the caches: a translation leaves -/
def rtI (off i n : Int) (c : Int → Int) : Int → Int := fun t => if off + i ≤ t ∧ t < off + n - 1 then c (t + 1) else if t = off + n - 1 then c (off + i) else c t
def dsC (p i n _e : Int) (σ : S2) : S2 := sc (sc σ 50 (rtI (4 * p) i n (σ 50))) 1 (uc (σ 1) p (n - 1))
theorem e7_dismiss {p i n e : Int} {σ : S2} (hp : 0 ≤ p ∧ p ≤ 1) (hi : 0 ≤ i ∧ i < n) (hn : σ 1 p = n) (hn4 : n ≤ 4) (he : σ 37 (σ 50 (4 * p + i)) = e) (he2 : 0 ≤ e ∧ e ≤ 191) : FX0_dismiss p i σ = some (0, dsC p i n e σ) := by
  unfold FX0_dismiss dsC
  rw [gd_pos hp, gd_pos (by omega), if_neg (by omega)]
  obtain ⟨N, hN⟩ := Int.eq_ofNat_of_zero_le (show 0 ≤ n - 1 - i by omega)
  refine gl1_map (k := 50) (g := fun t => σ 50 (t + 1)) (off := 4 * p + i) (x0 := i) (N := N) (by omega) ?_ ?_
  · intro K j c hj hc
    have h1 := hc (4 * p + (i + j + 1)) (by omega)
    simp (disch := decide) only [sc_s, sc_k]
    rw [hn, if_pos (by omega)]
    simp (disch := decide) only [bn, u2_sc, sc_s, sc_k, sc_sc]
    rw [h1, show 4 * p + (i + (j : Int)) = 4 * p + i + j by omega, show 4 * p + (i + (j : Int) + 1) = 4 * p + i + j + 1 by omega]
  · intro K
    simp (disch := decide) only [bn, u2_sc, sc_s, sc_k, sc_sc]
    rw [hn, if_neg (by omega), gd_pos (by omega)]
    simp only [uc_s]
    rw [gd_pos (by omega)]
    have e1 : uc (mp (4 * p + i) (N : Int) (fun t => σ 50 (t + 1)) (σ 50)) (4 * p + (n - 1)) (σ 50 (4 * p + i)) = rtI (4 * p) i n (σ 50) := by
      funext t
      unfold uc mp rtI
      by_cases h1 : 4 * p + i ≤ t ∧ t < 4 * p + n - 1
      · rw [if_pos h1, if_neg (by omega), if_pos (by omega)]
      · rw [if_neg h1]
        by_cases h2 : t = 4 * p + n - 1
        · rw [if_pos h2, if_pos (by omega)]
        · rw [if_neg h2, if_neg (by omega), if_neg (by omega)]
    rw [e1]
    congr 2
    funext k
    by_cases h50 : k = 50
    · subst h50; simp (disch := decide) only [sc_s, sc_k]
    by_cases h1 : k = 1
    · subst h1; simp (disch := decide) only [sc_s, sc_k]
    simp only [sc, h50, h1, if_false]
/-- on the other side, as it shifts when a new one comes to four -/
def shI (off i n : Int) (c : Int → Int) : Int → Int := fun t => if off + i ≤ t ∧ t < off + n - 1 then c (t + 1) else c t
def rmM (p i n : Int) (μ : S2) : S2 := sc (sc (sc (sc (sc μ 136 (shI (4 * p) i n (μ 136))) 137 (shI (4 * p) i n (μ 137))) 138 (shI (4 * p) i n (μ 138))) 139 (shI (4 * p) i n (μ 139))) 135 (uc (μ 135) p (n - 1))
theorem R_dis {x y B p i n e : Int} {σ μ : S2} (hp : 0 ≤ p ∧ p ≤ 1) (hi : 0 ≤ i ∧ i < n) (hn : σ 1 p = n) (he : μ 136 (4 * p + i) = e) (h : Rg x y B σ μ) : Rg x y B (dsC p i n e σ) (rmM p i n μ) := by
  obtain ⟨⟨q102, q103, q106, q107, q108, q109, q110, q111, q116, q121, q122, q123, q124, q125, q130, q135, q140⟩, hSp, hMp, hPr, hHd, hFr, hLs, hBl, hWr, hC1, hC2, hC3, hRc, hRo, hSc, hSt, hBd⟩ := h
  obtain ⟨k1, k2, k3, k4, k5⟩ := hC1
  obtain ⟨l1, l2, l3⟩ := hC2
  have hn4 := k1 p hp.1 hp.2
  have he2 := k4 p (4 * p + i) hp.1 hp.2 (by omega) (by omega)
  rw [he] at he2
  have u1 : ∀ q, 0 ≤ q → q ≤ 1 → uc (σ 1) p (n - 1) q = if q = p then n - 1 else σ 1 q := fun q _ _ => rfl
  have hs : ∀ q t, 0 ≤ q → q ≤ 1 → 4 * q ≤ t → t < 4 * q + uc (σ 1) p (n - 1) q → ∃ u, 4 * q ≤ u ∧ u < 4 * q + σ 1 q ∧ (∀ c : Int → Int, shI (4 * p) i n c t = c u) ∧ rtI (4 * p) i n (σ 50) t = σ 50 u ∧ (q = p → u ≠ 4 * p + i) ∧ (u = t ∧ (q = p → t < 4 * p + i) ∨ q = p ∧ u = t + 1 ∧ 4 * p + i ≤ t) := by
    intro q t q0 q1 t0 t1
    unfold uc at t1
    by_cases hqp : q = p
    · rw [if_pos hqp] at t1
      by_cases hit : 4 * p + i ≤ t
      · exact ⟨t + 1, by omega, by rw [hqp, hn]; omega, fun c => if_pos ⟨hit, by omega⟩, if_pos ⟨hit, by omega⟩, fun _ => by omega, Or.inr ⟨hqp, rfl, hit⟩⟩
      · refine ⟨t, by omega, by rw [hqp, hn]; omega, fun c => if_neg (by omega), ?_, fun _ => by omega, Or.inl ⟨rfl, fun _ => by omega⟩⟩
        unfold rtI
        rw [if_neg (by omega), if_neg (by omega)]
    · rw [if_neg hqp] at t1
      have := k1 q q0 q1
      refine ⟨t, t0, t1, fun c => if_neg (by omega), ?_, fun w => absurd w hqp, Or.inl ⟨rfl, fun w => absurd w hqp⟩⟩
      unfold rtI
      rw [if_neg (by omega), if_neg (by omega)]
  unfold dsC rmM
  refine ⟨⟨?_, ?_, ?_, ?_, ?_, ?_, ?_, ?_, ?_, ?_, ?_, ?_, ?_, ?_, ?_, ?_, ?_⟩, ?_, ?_, ?_, ?_, ?_, ?_, ?_, ?_, ?_, ?_, ?_, ?_, ?_, ?_, ?_, ?_⟩
  all_goals (try simp (disch := decide) only [sc_s, sc_k, q102, q103, q106, q107, q108, q109, q110, q111, q116, q121, q122, q123, q124, q125, q130, q135, q140])
  all_goals (try with_reducible assumption)
  · refine ⟨?_, ?_, ?_, ?_, ?_⟩
    · intro q q0 q1
      have := k1 q q0 q1
      unfold uc
      split <;> omega
    · intro q t q0 q1 t0 t1
      unfold rtI
      split
      · exact k2 q (t + 1) q0 q1 (by omega) (by omega)
      · split
        · have := k2 p (4 * p + i) hp.1 hp.2 (by omega) (by omega)
          omega
        · exact k2 q t q0 q1 t0 t1
    · intro t u t0 t1 u0 u1 htu
      have g1 : ∀ t, 0 ≤ t → t ≤ 7 → ∃ t', 0 ≤ t' ∧ t' ≤ 7 ∧ rtI (4 * p) i n (σ 50) t = σ 50 t' ∧ ((4 * p + i ≤ t ∧ t < 4 * p + n - 1 ∧ t' = t + 1) ∨ (t = 4 * p + n - 1 ∧ t' = 4 * p + i) ∨ ((t < 4 * p + i ∨ 4 * p + n ≤ t) ∧ t' = t)) := by
        intro t t0 t1
        unfold rtI
        by_cases w1 : 4 * p + i ≤ t ∧ t < 4 * p + n - 1
        · rw [if_pos w1]
          exact ⟨t + 1, by omega, by omega, rfl, Or.inl ⟨w1.1, w1.2, rfl⟩⟩
        · rw [if_neg w1]
          by_cases w2 : t = 4 * p + n - 1
          · rw [if_pos w2]
            exact ⟨4 * p + i, by omega, by omega, rfl, Or.inr (Or.inl ⟨w2, rfl⟩)⟩
          · rw [if_neg w2]
            exact ⟨t, t0, t1, rfl, Or.inr (Or.inr ⟨by omega, rfl⟩)⟩
      obtain ⟨t', a0, a1, a2, a3⟩ := g1 t t0 t1
      obtain ⟨u', b0, b1, b2, b3⟩ := g1 u u0 u1
      rw [a2, b2] at htu
      have := k3 t' u' a0 a1 b0 b1 htu
      omega
    · intro q t q0 q1 t0 t1
      obtain ⟨u, c0, c1, c2, c3, c4, c5⟩ := hs q t q0 q1 t0 t1
      rw [c3, c2, c2, c2]
      exact k4 q u q0 q1 c0 c1
    · intro q t u q0 q1 t0 t1 u0 u1 htu
      obtain ⟨t', c0, c1, c2, c3, c4, c5⟩ := hs q t q0 q1 t0 t1
      obtain ⟨u', d0, d1, d2, d3, d4, d5⟩ := hs q u q0 q1 u0 u1
      rw [c2, d2] at htu
      have := k5 q t' u' q0 q1 c0 c1 d0 d1 htu
      omega
  · refine ⟨l1, ?_, ?_⟩
    · intro t t0 t1
      unfold shI
      split
      · exact l2 (t + 1) (by omega) (by omega)
      · exact l2 t t0 t1
    · intro q t q0 q1 t0 t1
      obtain ⟨u, c0, c1, c2, c3, c4, c5⟩ := hs q t q0 q1 t0 t1
      rw [c2, c2]
      exact l3 q u q0 q1 c0 c1
  · intro q t q0 q1 t0 t1 ht
    obtain ⟨u, c0, c1, c2, c3, c4, c5⟩ := hs q t q0 q1 t0 t1
    rw [c2] at ht ⊢
    rw [c2]
    exact hC3 q u q0 q1 c0 c1 ht
