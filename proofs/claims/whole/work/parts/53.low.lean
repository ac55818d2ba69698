/-! frames: which are free, which linger -/
def trI (μ : S2) (f : Int) : Int := anyI (fun t => (t % 4 < μ 135 (t / 4)) ∧ (μ 137 t = f)) 8
theorem trI_r {μ : S2} {f : Int} : 0 ≤ trI μ f ∧ trI μ f ≤ 1 := anyI_r _ 8
theorem P_tr {x y B f : Int} {σ μ : S2} (h : Rg x y B σ μ) : anyI (fun p => anyI (fun i => (i < σ 1 p) ∧ σ 38 (σ 50 (4 * p + i)) = f) 4 ≠ 0) 2 = trI μ f := by
  have hC1 := h.2.2.2.2.2.2.2.2.2.1
  have q135 : μ 135 = σ 1 := h.1.2.2.2.2.2.2.2.2.2.2.2.2.2.2.2.1
  refine anyI_cg ?_
  constructor
  · rintro ⟨p, p0, p1, p2⟩
    obtain ⟨i, i0, i1, i2, i3⟩ := anyI_iff.mp p2
    have c4 := hC1.2.2.2.1 p (4 * p + i) p0 (by omega) (by omega) (by omega)
    refine ⟨4 * p + i, by omega, by omega, ?_, by omega⟩
    rw [q135, show (4 * p + i) / 4 = p by omega]
    omega
  · rintro ⟨t, t0, t1, t2, t3⟩
    rw [q135] at t2
    have hb := hC1.1 (t / 4) (by omega) (by omega)
    have c4 := hC1.2.2.2.1 (t / 4) t (by omega) (by omega) (by omega) (by omega)
    refine ⟨t / 4, by omega, by omega, anyI_iff.mpr ⟨t % 4, by omega, by omega, t2, ?_⟩⟩
    rw [show 4 * (t / 4) + t % 4 = t by omega]
    omega
theorem P_isTr {x y B f : Int} {σ μ : S2} (hf : 0 ≤ f ∧ f ≤ 23) (h : Rg x y B σ μ) : FX7_isTranslated f σ = some (trI μ f, σ) := by
  rw [e7_isTr hf h.2.2.2.2.2.2.2.2.2.1.1, P_tr h]
theorem P_low {x y B b : Int} {σ μ : S2} (hb : 0 ≤ b ∧ b ≤ 1) (h : Rg x y B σ μ) : FX7_lowestWithoutPage b σ = some (fstI (fun f => σ 15 f = 0 ∧ trI μ f = b) 24, σ) := by
  rw [e7_lowest hb h.2.2.2.2.2.2.2.2.2.1.1]
  have e1 : fstI (fun f => σ 15 f = 0 ∧ anyI (fun p => anyI (fun i => (i < σ 1 p) ∧ σ 38 (σ 50 (4 * p + i)) = f) 4 ≠ 0) 2 = b) 24 = fstI (fun f => σ 15 f = 0 ∧ trI μ f = b) 24 := fstI_cg fun f _ _ => by rw [P_tr h]
  rw [e1]
theorem L_scanf {x y B : Int} {σ μ : S2} (h : Rg x y B σ μ) (RS : Int → S2 → Option (Int × S2)) : gl2 1000 (fun k5 (x_some1 : Int) (x_f1 : Int) (s6 : S2) => if x_f1 < 24 then bn (fun (s7 : S2) => some (x_f1, s7)) fun k6 => bn (fun (s8 : S2) => k5 (gOr x_some1 (if s8 121 x_f1 = 0 then 1 else 0 : Int)) (x_f1 + 1) s8) fun k7 => if s6 121 x_f1 = 0 then cb (FX8_lingers x_f1 s6) fun r2 s9 => if r2 ≠ 0 then k7 s9 else k6 s9 else k7 s6 else RS x_some1 s6) 0 0 μ = if fstI (fun f => σ 15 f = 0 ∧ trI μ f = 0) 24 = -1 then RS (anyI (fun f => σ 15 f = 0) 24) μ else some (fstI (fun f => σ 15 f = 0 ∧ trI μ f = 0) 24, μ) := by
  have q121 : μ 121 = σ 15 := h.1.2.2.2.2.2.2.2.2.2.1
  refine glw2 24 (fun j a x s => j ≤ 24 ∧ a = anyI (fun f => σ 15 f = 0) j ∧ x = j ∧ s = μ ∧ ∀ i : Int, 0 ≤ i → i < j → ¬ (σ 15 i = 0 ∧ trI μ i = 0)) (fun o => o = _) ?_ 1000 0 0 0 μ (by omega) (Nat.zero_le _) ⟨Nat.zero_le _, rfl, rfl, rfl, fun i _ _ => by omega⟩
  rintro k j a x s ⟨hj, rfl, rfl, rfl, hn⟩ ih
  by_cases hj24 : j < 24
  · rw [if_pos (by omega)]
    simp only [bn]
    by_cases hk : σ 15 (j : Int) = 0
    · have hk2 : s 121 (j : Int) = 0 := by rw [q121]; exact hk
      have hl := e8_lingers (f := (j : Int)) (μ := s) (by omega)
      rw [if_pos hk2] at hl
      change FX8_lingers (j : Int) s = some (trI s (j : Int), s) at hl
      rw [if_pos hk2, cb_e hl]
      by_cases ht : trI s (j : Int) = 0
      · rw [if_neg (fun q => q ht), fstI_y (P := fun f => σ 15 f = 0 ∧ trI s f = 0) hj24 ⟨hk, ht⟩ hn, if_neg (by omega)]
      · rw [if_pos ht, if_pos hk2]
        refine ih hj24 _ _ _ ⟨hj24, ?_, by omega, rfl, fun i i0 i1 => ?_⟩
        · have e1 : anyI (fun f => σ 15 f = 0) (j + 1) = if σ 15 (j : Int) = 0 then 1 else anyI (fun f => σ 15 f = 0) j := rfl
          rw [e1, if_pos hk]
          exact (zor0 _ (zm2 (anyI_r _ j))).1
        · by_cases hi : i = j
          · rw [hi]; exact fun q => ht q.2
          · exact hn i i0 (by omega)
    · have hk2 : ¬ s 121 (j : Int) = 0 := by rw [q121]; exact hk
      rw [if_neg hk2, if_neg hk2]
      refine ih hj24 _ _ _ ⟨hj24, ?_, by omega, rfl, fun i i0 i1 => ?_⟩
      · have e1 : anyI (fun f => σ 15 f = 0) (j + 1) = if σ 15 (j : Int) = 0 then 1 else anyI (fun f => σ 15 f = 0) j := rfl
        rw [e1, if_neg hk]
        exact (zor0 _ (zm2 (anyI_r _ j))).2.1
      · by_cases hi : i = j
        · rw [hi]; exact fun q => hk q.1
        · exact hn i i0 (by omega)
  · have : j = 24 := by omega
    subst this
    rw [if_neg (by decide), fstI_n hn, if_pos rfl]
/-- both processors handle all their messages: then no frame lingers -/
theorem P_all {x y B : Int} {σ μ : S2} (h : Rg x y B σ μ) : ∃ s1 m1 m2 r1 r2, FX7_handleAll σ = some (0, s1) ∧ FX8_handles 0 μ = some (r1, m2) ∧ FX8_handles 1 m2 = some (r2, m1) ∧ Rg x y B s1 m1 ∧ (∀ k, k ∉ [1, 13, 14, 50] → s1 k = σ k) ∧ (∀ k, k ∉ [135, 136, 137, 138, 139] → m1 k = μ k) ∧ ∀ f, 0 ≤ f → f ≤ 23 → s1 15 f = 0 → trI m1 f = 0 := by
  obtain ⟨r1, s1, m1, a1, a2, a3, a4, a5, a6, a7, a8⟩ := P_obey (p := 0) (by decide) h
  obtain ⟨r2, s2, m2, b1, b2, b3, b4, b5, b6, b7, b8⟩ := P_obey (p := 1) (by decide) a3
  refine ⟨s2, m2, m1, r1, r2, ?_, a2, b2, b3, ?_, ?_, ?_⟩
  · unfold FX7_handleAll
    rw [gl1_e (n := 999), if_pos (by decide), cb_e a1, Int.zero_add, gl1_e (n := 998), if_pos (by decide), cb_e b1, gl1_e (n := 997), if_neg (by decide)]
  · intro k hk
    rw [b4 k hk, a4 k hk]
  · intro k hk
    rw [b5 k hk, a5 k hk]
  · intro f f0 f1 fk
    apply Classical.byContradiction
    intro q
    obtain ⟨t, t0, t1, t2, t3⟩ := anyI_iff.mp q
    have q135 : m2 135 = s2 1 := b3.1.2.2.2.2.2.2.2.2.2.2.2.2.2.2.2.1
    rw [q135] at t2
    have hC1 := b3.2.2.2.2.2.2.2.2.2.1
    have hC3 := b3.2.2.2.2.2.2.2.2.2.2.2.1
    have hHd := b3.2.2.2.2.1 f f0 f1
    have hb := hC1.1 (t / 4) (by omega) (by omega)
    have hb0 := a3.2.2.2.2.2.2.2.2.2.1.1 0 (by decide) (by decide)
    have hw : m2 139 t = 0 := by
      by_cases ht : t < 4
      · have e1 := b6 0 (by decide)
        have e2 : t / 4 = 0 := by omega
        rw [e2] at t2
        rw [(b7 t (by omega)).2]
        exact a8 t (by omega) (by omega)
      · have e2 : t / 4 = 1 := by omega
        rw [e2] at t2
        exact b8 t (by omega) (by omega)
    have h3 := hC3 (t / 4) t (by omega) (by omega) (by omega) (by omega) hw
    have h4 := hC1.2.2.2.1 (t / 4) t (by omega) (by omega) (by omega) (by omega)
    have h5 := cC_0.mp (hHd.2.2.1 fk) (m2 136 t) h4.2.2.2.1 (by omega)
    omega
