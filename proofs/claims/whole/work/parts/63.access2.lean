/-! an access: both sides -/
theorem P_serves {x y B p e st : Int} {σ μ : S2} (hp : 0 ≤ p ∧ p ≤ 1) (he : 0 ≤ e ∧ e ≤ 191) (hst : 0 ≤ st ∧ st ≤ 1) (h : Rg x y B σ μ) : ∃ b t, FX0_serves p e st σ = some (b, σ) ∧ FX8_translationOf p e μ = some (t, μ) ∧ (b = 0 ∨ b = 1) ∧ (b ≠ 0 ↔ ((t ≠ -1) ∧ ((μ 138 t ≠ 0) ∨ (¬ (st ≠ 0))))) ∧ (t ≠ -1 → 4 * p ≤ t ∧ t < 4 * p + σ 1 p ∧ μ 136 t = e) := by
  have hC1 := h.2.2.2.2.2.2.2.2.2.1
  have q135 : μ 135 = σ 1 := h.1.2.2.2.2.2.2.2.2.2.2.2.2.2.2.2.1
  have hn4 := hC1.1 p hp.1 hp.2
  obtain ⟨N, hN⟩ := Int.eq_ofNat_of_zero_le hn4.1
  have hNM : μ 135 p = N := by rw [q135]; exact hN
  have htr := e8_translationOf hp he hNM (by omega)
  have hS : gl1 1000 (fun k1 (x_i1 : Int) (s1 : S2) => if (x_i1 < s1 1 p) ∧ (x_i1 < 4) then if s1 37 (s1 50 (4 * p + x_i1)) = e then some ((if (¬ (st ≠ 0)) ∨ (s1 39 (s1 50 (4 * p + x_i1)) ≠ 0) then 1 else 0 : Int), s1) else k1 (x_i1 + 1) s1 else some ((0 : Int), s1)) 0 σ = if fstI (fun i => μ 136 (4 * p + i) = e) N = -1 then some (0, σ) else some ((if (¬ (st ≠ 0)) ∨ (σ 39 (σ 50 (4 * p + fstI (fun i => μ 136 (4 * p + i) = e) N)) ≠ 0) then 1 else 0 : Int), σ) := by
    refine gl1_fst (P := fun i => μ 136 (4 * p + i) = e) (A := fun j => some ((if (¬ (st ≠ 0)) ∨ (σ 39 (σ 50 (4 * p + j)) ≠ 0) then 1 else 0 : Int), σ)) (Z := some (0, σ)) (N := N) (by omega) (fun k j hj => ?_) (fun k => if_neg (by omega))
    have c4 := hC1.2.2.2.1 p (4 * p + j) hp.1 hp.2 (by omega) (by omega)
    rw [if_pos (by omega), c4.1]
  rcases fstI_cases (fun i => μ 136 (4 * p + i) = e) N with w | w
  · rw [w.1, if_pos rfl] at hS htr
    refine ⟨0, -1, ?_, htr, Or.inl rfl, ⟨fun z => absurd rfl z, fun z => absurd rfl z.1⟩, fun z => absurd rfl z⟩
    unfold FX0_serves
    refine rgd_eq ?_ (by decide) (by decide)
    rw [gd_pos hp, gd_pos he, gd_pos hst]
    exact hS
  · generalize fstI (fun i => μ 136 (4 * p + i) = e) N = i at w hS htr
    rw [if_neg (by omega)] at hS htr
    have c4 := hC1.2.2.2.1 p (4 * p + i) hp.1 hp.2 (by omega) (by omega)
    refine ⟨(if (¬ (st ≠ 0)) ∨ (σ 39 (σ 50 (4 * p + i)) ≠ 0) then 1 else 0 : Int), _, ?_, htr, ?_, ?_, fun _ => ⟨by omega, by omega, w.2.2.1⟩⟩
    · unfold FX0_serves
      refine rgd_eq ?_ (by split <;> omega) (by split <;> omega)
      rw [gd_pos hp, gd_pos he, gd_pos hst]
      exact hS
    · split
      · exact Or.inr rfl
      · exact Or.inl rfl
    · rw [c4.2.2.1]
      by_cases hz : (¬ (st ≠ 0)) ∨ (μ 138 (4 * p + i) ≠ 0)
      · rw [if_pos hz]
        exact ⟨fun _ => ⟨by omega, hz.symm⟩, fun _ => by decide⟩
      · rw [if_neg hz]
        exact ⟨fun z => absurd rfl z, fun z => absurd z.2.symm hz⟩
theorem P_access {B p s a v st w : Int} {σ μ : S2} (hp : 0 ≤ p ∧ p ≤ 1) (hs : 0 ≤ s ∧ s ≤ 5) (ha : 0 ≤ a ∧ a ≤ 31) (hv : (v = -1 ∧ st = 0 ∧ w = 0) ∨ (0 ≤ v ∧ v ≤ 99999 ∧ st = 1 ∧ w = v)) (h35 : σ 35 s ≠ 0) (hB : B + 300000 ≤ 2147483647) (h : Rg (-1) (-1) B σ μ) : ∃ r s1 m1, FX7_access p s a v σ = some (r, s1) ∧ FX8_access p s a st w μ = some (r, m1) ∧ Rg (-1) (-1) (B + 300000) s1 m1 ∧ -5 ≤ r ∧ r ≤ 99999 ∧ m1 101 = μ 101 := by
  have hst : 0 ≤ st ∧ st ≤ 1 := by omega
  have hw : 0 ≤ w ∧ w ≤ 99999 := by omega
  have hv2 : -1 ≤ v ∧ v ≤ 99999 := by omega
  have hvst : (if v ≠ (-1) then 1 else 0 : Int) = st := by
    rcases hv with z | z
    · rw [if_neg (by omega)]; omega
    · rw [if_pos (by omega)]; omega
  have hvr : (if v ≠ (-1) then 2 else 1 : Int) = (if st ≠ 0 then 2 else 1 : Int) := by
    rcases hv with z | z
    · rw [if_neg (by omega), if_neg (by omega)]
    · rw [if_pos (by omega), if_pos (by omega)]
  obtain ⟨r0, σ1, μ1, a1, a2, a3, a4, a5, a6, a7, a8⟩ := P_obey hp h
  have l1 : σ1 35 s ≠ 0 := by rw [a4 35 (by decide)]; exact h35
  obtain ⟨σ2, μ2, b1, b2, b3, b4, b5, b6, b7⟩ := P_grow (a := a) hs ha l1 a3
  have h101 : μ2 101 = μ 101 := by rw [b7, a5 101 (by decide)]
  have l2 : σ2 35 s ≠ 0 := by rw [b4 35 (by decide)]; exact l1
  generalize he' : 32 * s + a = e at *
  have he : 0 ≤ e ∧ e ≤ 191 := by omega
  have hes : 32 * s ≤ e ∧ e < 32 * s + 32 := by omega
  have q111 : μ2 111 = σ2 3 := b2.1.2.2.2.2.2.2.2.1
  have hm2 := b2.2.2.1 e he.1 he.2
  have s12 : σ2 1 = σ1 1 := b4 1 (by decide)
  -- the class's words from the rights on, where the address is mapped
  have hcl : ∀ o : Option (Int × S2), σ2 3 e ≠ 0 → (∀ k2 : S2 → Option (Int × S2), k2 σ2 = o → (if ¬ (σ1 2 e ≠ 0) then cb (FX5_grow s a σ1) fun r2 s4 => if r2 ≠ 0 then k2 s4 else some ((-2), s4) else k2 σ1) = o) := by
    intro o h3 k2 hk
    rcases b3 with ⟨z1, z2⟩ | ⟨z1, z2, z3⟩ | ⟨z1, z2, z3⟩
    · rw [if_neg (fun z => z z1), ← z2]; exact hk
    · rw [if_pos (fun z => z z1), cb_e z2, if_pos (by decide)]; exact hk
    · rw [z3] at h3
      have := (a3.2.2.1 e he.1 he.2).2.2.2 h3
      omega
  -- the reference's words ahead
  have hM0 : ∀ o : Option (Int × S2), o = (if μ2 111 e = 0 then some ((-2), μ2) else if gAnd (μ2 111 e) (if st ≠ 0 then 2 else 1 : Int) = 0 then some ((-3), μ2) else cb (FX8_translationOf p e μ2) fun r3 s3 => bn (fun (s4 : S2) => cb (FX8_takesValue (s4 117 e) st w s4) fun r6 s9 => some (r6, s9)) fun k1 => if (r3 ≠ (-1)) ∧ ((s3 138 r3 ≠ 0) ∨ (¬ (st ≠ 0))) then bn (upd2 s3 140 0 ((s3 140 0) + 1)) fun s8 => k1 s8 else bn (upd2 s3 140 1 ((s3 140 1) + 1)) fun s5 => cb (FX8_looksAt s e st s5) fun r4 s6 => if r4 < 0 then some (r4, s6) else cb (FX8_translates p e s6) fun r5 s7 => k1 s7) → ∀ (r : Int) (m : S2), o = some (r, m) → -5 ≤ r → r ≤ 99999 → FX8_access p s a st w μ = some (r, m) := by
    intro o ho r m hr g1 g2
    unfold FX8_access
    refine rgd_eq ?_ (by omega) (by omega)
    rw [gd_pos hp, gd_pos hs, gd_pos ha, gd_pos hst, gd_pos hw, cb_e a2, cb_e b1, he', gd_pos he]
    rw [← hr, ho]
  have hC0 : ∀ (r : Int) (m : S2) (k3 : S2 → Option (Int × S2)), (k3 = fun (s5 : S2) => bn (fun (v3 : Int) (s14 : S2) => some (v3, s14)) fun k5 => if s5 9 e < 0 then k5 (-5) s5 else cb (FX7_touch (s5 9 e) v s5) fun r8 s15 => k5 r8 s15) → -5 ≤ r → r ≤ 99999 → σ2 3 e ≠ 0 → (if gAnd (σ2 3 e) (if st ≠ 0 then 2 else 1 : Int) = 0 then some ((-3), σ2) else cb (FX0_serves p e st σ2) fun r3 s6 => if r3 ≠ 0 then bn (upd2 s6 48 0 ((s6 48 0) + 1)) fun s13 => k3 s13 else bn (upd2 s6 48 1 ((s6 48 1) + 1)) fun s7 => msC s e st s7 (fun s11 => cb (FX0_take p e (s11 9 e) s11) fun r7 s12 => k3 s12)) = some (r, m) → FX7_access p s a v σ = some (r, m) := by
    intro r m k3 hk3 g1 g2 h3 hx
    unfold FX7_access
    refine rgd_eq ?_ (by omega) (by omega)
    rw [gd_pos hp, gd_pos hs, gd_pos ha, gd_pos hv2, cb_e a1, if_neg (by omega), he', hvst, hvr]
    have hx2 := hcl (some (r, m)) h3 (fun (s3 : S2) => gd (0 ≤ e ∧ e ≤ 191) <| if gAnd (s3 3 e) (if st ≠ 0 then 2 else 1 : Int) = 0 then some ((-3), s3) else cb (FX0_serves p e st s3) fun r3 s6 => if r3 ≠ 0 then bn (upd2 s6 48 0 ((s6 48 0) + 1)) fun s13 => k3 s13 else bn (upd2 s6 48 1 ((s6 48 1) + 1)) fun s7 => msC s e st s7 (fun s11 => cb (FX0_take p e (s11 9 e) s11) fun r7 s12 => k3 s12)) (by
      rw [gd_pos he]; exact hx)
    subst hk3
    rw [← hx2]
    show gd _ _ = _
    rw [gd_pos he]
    rfl
  by_cases h3 : σ2 3 e = 0
  · -- not mapped
    refine ⟨-2, σ2, μ2, ?_, hM0 _ rfl (-2) μ2 (by rw [if_pos (by rw [q111]; exact h3)]) (by decide) (by decide), R_B (by omega) b2, by decide, by decide, h101⟩
    unfold FX7_access
    refine rgd_eq ?_ (by decide) (by decide)
    rw [gd_pos hp, gd_pos hs, gd_pos ha, gd_pos hv2, cb_e a1, if_neg (by omega), he']
    show gd _ _ = _
    rw [gd_pos he]
    rcases b3 with ⟨z1, z2⟩ | ⟨z1, z2, z3⟩ | ⟨z1, z2, z3⟩
    · rw [z2] at h3
      have := (a3.2.2.1 e he.1 he.2).2.2.1 h3
      omega
    · exact absurd h3 z3
    · rw [if_pos (fun z => z z1), cb_e z2, if_neg (fun z => z rfl)]
  · by_cases hrt : gAnd (σ2 3 e) (if st ≠ 0 then 2 else 1 : Int) = 0
    · refine ⟨-3, σ2, μ2, hC0 (-3) σ2 _ rfl (by decide) (by decide) h3 (if_pos hrt), hM0 _ rfl (-3) μ2 (by rw [if_neg (by rw [q111]; exact h3), q111, if_pos hrt]) (by decide) (by decide), R_B (by omega) b2, by decide, by decide, h101⟩
    · obtain ⟨b, t, c1, c2, c3, c4, c5⟩ := P_serves hp he hst b2
      by_cases hb : b ≠ 0
      · -- a hit
        have hc := c4.mp hb
        have h5 := c5 hc.1
        have hC3 := b2.2.2.2.2.2.2.2.2.2.2.2.1
        have ht0 : μ2 139 t = 0 := by
          rw [b6]
          exact a8 t h5.1 (by rw [← s12]; exact h5.2.1)
        have h8 := hC3 p t hp.1 hp.2 h5.1 h5.2.1 ht0
        rw [h5.2.2] at h8
        have hR := R_cnt (k := 0) b2
        generalize hs3 : sc σ2 48 (uc (σ2 48) 0 (σ2 48 0 + 1)) = σ3 at hR
        generalize hm3 : sc μ2 140 (uc (μ2 140) 0 (μ2 140 0 + 1)) = μ3 at hR
        have t8 : σ3 8 e = 1 := by rw [← hs3]; simp (disch := decide) only [sc_s, sc_k]; exact h8.1
        have hp3 := (hR.2.2.2.1 e he.1 he.2).2.2.1 t8
        have hhd := hR.2.2.2.2.1 (σ3 9 e) hp3.2.1 hp3.2.2.1
        have hcp := cC_pos (c := σ3 9) (n := 192) he.1 (by omega) rfl
        obtain ⟨r, s4, m4, d1, d2, d3, d4, d5, d6⟩ := P_touch ⟨hp3.2.1, hp3.2.2.1⟩ hv (fun z => by have := hhd.2.2.1 z; omega) hR
        refine ⟨r, s4, m4, hC0 r s4 _ rfl (by omega) d5 h3 ?_, hM0 _ rfl r m4 ?_ (by omega) d5, R_B (by omega) d3, by omega, d5, by rw [d6, ← hm3, sc_k (by decide)]; exact h101⟩
        · rw [if_neg hrt, cb_e c1, if_pos hb]
          simp only [bn]
          rw [u2_sc, hs3, if_neg (by omega), cb_e d1]
        · rw [if_neg (by rw [q111]; exact h3), q111, if_neg hrt, cb_e c2]
          simp only [bn]
          rw [if_pos hc, u2_sc, hm3, ← hp3.1, cb_e d2]
      · -- a miss
        have hc : ¬ ((t ≠ -1) ∧ ((μ2 138 t ≠ 0) ∨ (¬ (st ≠ 0)))) := fun z => hb (c4.mpr z)
        have hR := R_cnt (k := 1) b2
        generalize hs3 : sc σ2 48 (uc (σ2 48) 1 (σ2 48 1 + 1)) = σ3 at hR
        generalize hm3 : sc μ2 140 (uc (μ2 140) 1 (μ2 140 1 + 1)) = μ3 at hR
        have t3 : σ3 3 e ≠ 0 := by rw [← hs3]; simp (disch := decide) only [sc_s, sc_k]; exact h3
        have t35 : σ3 35 s ≠ 0 := by rw [← hs3]; simp (disch := decide) only [sc_s, sc_k]; exact l2
        obtain ⟨r, s4, m4, d1, d2, d3, d4, d5, d6, d7, d9, d8⟩ := P_miss hs hes hst t3 t35 (by omega) hR
        by_cases hr : 0 ≤ r
        · have u8 := (d5 hr).1
          obtain ⟨s5, m5, e1, e2, e3, e4, e5⟩ := P_take hp he u8 d4
          have v8 : s5 8 e = 1 := by rw [e4 8 (by decide)]; exact u8
          have hp3 := (e3.2.2.2.1 e he.1 he.2).2.2.1 v8
          have hhd := e3.2.2.2.2.1 (s5 9 e) hp3.2.1 hp3.2.2.1
          have hcp := cC_pos (c := s5 9) (n := 192) he.1 (by omega) rfl
          obtain ⟨r', s6, m6, f1, f2, f3, f4, f5, f6⟩ := P_touch ⟨hp3.2.1, hp3.2.2.1⟩ hv (fun z => by have := hhd.2.2.1 z; omega) e3
          refine ⟨r', s6, m6, hC0 r' s6 _ rfl (by omega) f5 h3 ?_, hM0 _ rfl r' m6 ?_ (by omega) f5, R_B (by omega) f3, by omega, f5, by rw [f6, e5, d9, ← hm3, sc_k (by decide)]; exact h101⟩
          · rw [if_neg hrt, cb_e c1, if_neg hb]
            simp only [bn]
            rw [u2_sc, hs3, d8, if_neg (show ¬ r < 0 by omega), cb_e e1, if_neg (by omega), cb_e f1]
          · rw [if_neg (by rw [q111]; exact h3), q111, if_neg hrt, cb_e c2]
            simp only [bn]
            rw [if_neg hc, u2_sc, hm3, cb_e d1, if_neg (show ¬ r < 0 by omega), cb_e e2, ← hp3.1, cb_e f2]
        · refine ⟨r, s4, m4, hC0 r s4 _ rfl d2 (by omega) h3 ?_, hM0 _ rfl r m4 ?_ d2 (by omega), R_B (by omega) d4, d2, by omega, by rw [d9, ← hm3, sc_k (by decide)]; exact h101⟩
          · rw [if_neg hrt, cb_e c1, if_neg hb]
            simp only [bn]
            rw [u2_sc, hs3, d8, if_pos (show r < 0 by omega)]
          · rw [if_neg (by rw [q111]; exact h3), q111, if_neg hrt, cb_e c2]
            simp only [bn]
            rw [if_neg hc, u2_sc, hm3, cb_e d1, if_pos (show r < 0 by omega)]
