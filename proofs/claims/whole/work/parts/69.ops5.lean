/-! calls that ask: list, about, count -/
theorem P_regions {x y B s : Int} {σ μ : S2} (hs : 0 ≤ s ∧ s ≤ 5) (h : Rg x y B σ μ) : ∃ r, FX5_regions s σ = some (r, σ) ∧ FX8_regionsOf s μ = some (r, μ) ∧ 0 ≤ r ∧ r ≤ 32 := by
  obtain ⟨⟨q102, q103, q106, q107, q108, q109, q110, q111, q116, q121, q122, q123, q124, q125, q130, q135, q140⟩, hSp, hMp, hPr, hHd, hFr, hLs, hBl, hWr, hC1, hC2, hC3, hRc, hRo, hSc, hSt, hBd⟩ := h
  have hr := cntI_r (fun a => (σ 2 (32 * s + a) ≠ 0) ∧ ((a = 0) ∨ (¬ (((((((σ 2 (32 * s + a) ≠ 0) ∧ (σ 2 (32 * s + (a - 1)) ≠ 0)) ∧ (σ 3 (32 * s + a) = σ 3 (32 * s + (a - 1)))) ∧ (σ 4 (32 * s + a) = σ 4 (32 * s + (a - 1)))) ∧ (σ 6 (32 * s + a) = σ 6 (32 * s + (a - 1)))) ∧ (σ 7 (32 * s + a) = σ 7 (32 * s + (a - 1)))) ∧ ((σ 4 (32 * s + a) = (-1)) ∨ (σ 5 (32 * s + a) = (σ 5 (32 * s + (a - 1))) + 1)))))) 32
  have e1 : cntI (fun a => (0 < μ 111 ((32 * s) + a)) ∧ (((a = 0) ∨ (μ 111 (((32 * s) + a) - 1) = 0)) ∨ (¬ ((((μ 111 (((32 * s) + a) - 1) = μ 111 ((32 * s) + a)) ∧ (μ 115 (((32 * s) + a) - 1) = μ 115 ((32 * s) + a))) ∧ (μ 112 (((32 * s) + a) - 1) = μ 112 ((32 * s) + a))) ∧ ((μ 112 (((32 * s) + a) - 1) = (-1)) ∨ ((μ 114 (((32 * s) + a) - 1) = μ 114 ((32 * s) + a)) ∧ (μ 113 ((32 * s) + a) = (μ 113 (((32 * s) + a) - 1)) + 1))))))) 32 = cntI (fun a => (σ 2 (32 * s + a) ≠ 0) ∧ ((a = 0) ∨ (¬ (((((((σ 2 (32 * s + a) ≠ 0) ∧ (σ 2 (32 * s + (a - 1)) ≠ 0)) ∧ (σ 3 (32 * s + a) = σ 3 (32 * s + (a - 1)))) ∧ (σ 4 (32 * s + a) = σ 4 (32 * s + (a - 1)))) ∧ (σ 6 (32 * s + a) = σ 6 (32 * s + (a - 1)))) ∧ (σ 7 (32 * s + a) = σ 7 (32 * s + (a - 1)))) ∧ ((σ 4 (32 * s + a) = (-1)) ∨ (σ 5 (32 * s + a) = (σ 5 (32 * s + (a - 1))) + 1)))))) 32 := by
    refine cntI_congr fun a a0 a1 => ?_
    have hm := hMp (32 * s + a) (by omega) (by omega)
    rw [q111]
    by_cases h3 : σ 3 (32 * s + a) = 0
    · have h2 := hm.2.2.1 h3
      exact ⟨fun q => by omega, fun q => absurd h2 q.1⟩
    · have h2 := hm.2.2.2 h3
      by_cases ha : a = 0
      · exact ⟨fun _ => ⟨by omega, Or.inl ha⟩, fun _ => ⟨by omega, Or.inl (Or.inl ha)⟩⟩
      · have e2 : 32 * s + (a - 1) = 32 * s + a - 1 := by omega
        rw [e2]
        have hm' := hMp (32 * s + a - 1) (by omega) (by omega)
        by_cases h3' : σ 3 (32 * s + a - 1) = 0
        · have h2' := hm'.2.2.1 h3'
          exact ⟨fun _ => ⟨by omega, Or.inr (fun q => q.1.1.1.1.1.2 h2')⟩, fun _ => ⟨by omega, Or.inl (Or.inr h3')⟩⟩
        · have h2' := hm'.2.2.2 h3'
          rw [h2.2.1, h2.2.2.1, h2.2.2.2.1, h2.2.2.2.2.1, h2'.2.1, h2'.2.2.1, h2'.2.2.2.1, h2'.2.2.2.2.1]
          obtain ⟨a1, a2, a3, a4, a5, a6, a7, a8, a9, a10, a11, a12, a13, a14⟩ := h2
          obtain ⟨b1, b2, b3, b4, b5, b6, b7, b8, b9, b10, b11, b12, b13, b14⟩ := h2'
          have q1 := hm.1
          have q2 := hm'.1
          clear a2 a3 a4 a5 b2 b3 b4 b5 hm hm'
          omega
  refine ⟨_, ?_, ?_, hr.1, hr.2⟩
  · unfold FX5_regions
    refine rgd_eq ?_ hr.1 hr.2
    rw [gd_pos hs]
    exact gl2_cnt (by decide) (fun k j hj => if_pos (by omega)) (fun k => if_neg (by decide))
  · rw [← e1] at hr ⊢
    unfold FX8_regionsOf
    refine rgd_eq ?_ hr.1 hr.2
    rw [gd_pos hs]
    refine gl2_cnt (by decide) (fun k j hj => ?_) (fun k => if_neg (by decide))
    rw [if_pos (by omega), gd_pos (by omega), gd_pos (fun q => by omega), gd_pos (fun q => by omega)]
/-- a loop that counts in fours -/
theorem gl2_cnt4 {β : Type} {p : Int → Prop} [DecidablePred p] {m : S2} {N : Nat} {f : (Int → Int → S2 → Option β) → Int → Int → S2 → Option β} {Z : Int → Option β} (hN : N ≤ 900)
    (hs : ∀ k (j : Nat), j < N → f k (cntI p j) (4 * (j : Int)) m = k (cntI p j + (if p j then 1 else 0)) (4 * (j : Int) + 4) m)
    (he : ∀ k, f k (cntI p N) (4 * (N : Int)) m = Z (cntI p N)) : gl2 1000 f 0 0 m = Z (cntI p N) := by
  refine glw2 N (fun j a x s => j ≤ N ∧ a = cntI p j ∧ x = 4 * (j : Int) ∧ s = m) (fun o => o = _) ?_ 1000 0 0 0 m (by omega) (Nat.zero_le _) ⟨Nat.zero_le _, rfl, rfl, rfl⟩
  rintro k j a x s ⟨hj, rfl, rfl, rfl⟩ ih
  by_cases hjN : j < N
  · rw [hs k j hjN]
    exact ih hjN _ _ _ ⟨hjN, rfl, by omega, rfl⟩
  · have : j = N := by omega
    subst this
    exact he k
theorem P_blocks {x y B s : Int} {σ μ : S2} (hs : 0 ≤ s ∧ s ≤ 5) (h : Rg x y B σ μ) : ∃ r, FX7_blocks s σ = some (r, σ) ∧ FX8_blocksOf s μ = some (r, μ) ∧ 0 ≤ r ∧ r ≤ 8 := by
  obtain ⟨⟨q102, q103, q106, q107, q108, q109, q110, q111, q116, q121, q122, q123, q124, q125, q130, q135, q140⟩, hSp, hMp, hPr, hHd, hFr, hLs, hBl, hWr, hC1, hC2, hC3, hRc, hRo, hSc, hSt, hBd⟩ := h
  have hr := cntI_r (fun j => σ 46 (8 * s + j) ≠ 0) 8
  refine ⟨cntI (fun j => σ 46 (8 * s + j) ≠ 0) 8, ?_, ?_, hr.1, hr.2⟩
  · unfold FX7_blocks
    refine rgd_eq ?_ hr.1 hr.2
    rw [gd_pos hs]
    refine gl2_cnt4 (p := fun j => σ 46 (8 * s + j) ≠ 0) (N := 8) (Z := fun r => some (r, σ)) (by decide) (fun k j hj => ?_) (fun k => if_neg (by decide))
    have hc := cntI_r (fun j => σ 46 (8 * s + j) ≠ 0) j
    have e1 : (32 * s + 4 * (j : Int)) / 4 = 8 * s + j := by omega
    have e2 : (if ((0 ≤ (32 * s + 4 * (j : Int)) / 4) ∧ ((32 * s + 4 * (j : Int)) / 4 < 48)) ∧ (σ 46 ((32 * s + 4 * (j : Int)) / 4) ≠ 0) then 1 else 0 : Int) = if σ 46 (8 * s + j) ≠ 0 then 1 else 0 := by
      rw [e1]
      by_cases z : σ 46 (8 * s + j) = 0
      · rw [if_neg (fun q => q.2 z), if_neg (fun q => q z)]
      · rw [if_pos ⟨⟨by omega, by omega⟩, z⟩, if_pos z]
    rw [if_pos (by omega), e2, gd_pos (by split <;> omega)]
  · unfold FX8_blocksOf
    refine rgd_eq ?_ hr.1 hr.2
    rw [gd_pos hs]
    refine gl2_cnt4 (p := fun j => σ 46 (8 * s + j) ≠ 0) (N := 8) (Z := fun r => some (r, μ)) (by decide) (fun k j hj => ?_) (fun k => if_neg (by decide))
    have hc := cntI_r (fun j => σ 46 (8 * s + j) ≠ 0) j
    have e1 : (32 * s + 4 * (j : Int)) / 4 = 8 * s + j := by omega
    have e2 : μ 120 ((32 * s) + 4 * (j : Int)) = σ 46 (8 * s + j) := by
      rw [hBl.2.1 (32 * s + 4 * (j : Int)) (by omega) (by omega), e1]
    rw [if_pos (by omega), e2, gd_pos (by split <;> omega)]
theorem cnt_true : ∀ n : Nat, cntI (fun _ => True) n = n
  | 0 => rfl
  | n + 1 => by
    have h := cnt_true n
    show cntI (fun _ => True) n + (if True then 1 else 0) = _
    rw [h, if_pos trivial]
    omega
theorem s_list : gSim_list Iv := by
  intro n σ μ l a hI hn hl ha
  have h := hI
  unfold Iv at h
  have hh := h
  obtain ⟨⟨q102, q103, q106, q107, q108, q109, q110, q111, q116, q121, q122, q123, q124, q125, q130, q135, q140⟩, hSp, hMp, hPr, hHd, hFr, hLs, hBl, hWr, hC1, hC2, hC3, hRc, hRo, hSc, hSt, hBd⟩ := h
  by_cases h1 : ((0 ≤ l) ∧ (l ≤ 1)) ∧ (0 ≤ a)
  · obtain ⟨pos, hLp⟩ := hLs
    have h24 := m_Ls_24 hLp h1.1
    have hbt : ∀ f, 0 ≤ f → f ≤ 23 → σ 15 f ≠ 0 → -2147483648 ≤ σ 18 f ∧ σ 18 f ≤ 2147483647 := fun f f0 f1 f2 => by
      have h3 := hLp.2.1 f f0 f1 f2
      have h4 := hBd.2.2.2.1
      omega
    have hat := e7_frameAt (σ := σ) h1.1 ha hbt
    have hah : ∀ f, 0 ≤ f → f ≤ 23 → σ 15 f ≠ 0 → cntI (fun d => (((σ 15 d ≠ 0) ∧ (σ 17 d = σ 17 f)) ∧ (((-1 : Int) = (-1)) ∨ (σ 21 d = (-1)))) ∧ (σ 18 d < σ 18 f)) 24 = pos f := fun f f0 f1 f2 => by
      have h3 := hLp.2.1 f f0 f1 f2
      obtain ⟨N, hN⟩ := Int.eq_ofNat_of_zero_le h3.2.2.1
      have h5 := cnt_rows hLp ⟨h3.1, h3.2.1⟩ (fun _ => True) N (by omega)
      rw [cnt_true] at h5
      rw [hN]
      refine Eq.trans ?_ h5.symm
      refine cntI_congr fun d d0 d1 => ?_
      constructor
      · rintro ⟨⟨⟨a1, a2⟩, _⟩, a3⟩
        have := (hLp.2.2.2 d f d0 (by omega) f0 f1 a1 f2 a2).mpr a3
        exact ⟨⟨a1, a2⟩, by omega, trivial⟩
      · rintro ⟨⟨a1, a2⟩, a3, _⟩
        exact ⟨⟨⟨a1, a2⟩, Or.inl rfl⟩, (hLp.2.2.2 d f d0 (by omega) f0 f1 a1 f2 a2).mp (by omega)⟩
    obtain ⟨v, hv⟩ : ∃ v, v = (if a < μ 129 l then μ 128 (24 * l + a) else -1) := ⟨_, rfl⟩
    have hvb : -1 ≤ v ∧ v ≤ 23 := by
      rw [hv]
      split
      · rename_i z
        have := hLp.2.2.1 l a h1.1.1 h1.1.2 h1.2 z
        omega
      · omega
    have hfv : fstI (fun f => ((σ 15 f ≠ 0) ∧ (σ 17 f = l)) ∧ cntI (fun d => (((σ 15 d ≠ 0) ∧ (σ 17 d = σ 17 f)) ∧ (((-1 : Int) = (-1)) ∨ (σ 21 d = (-1)))) ∧ (σ 18 d < σ 18 f)) 24 = a) 24 = v := by
      rcases fstI_cases (fun f => ((σ 15 f ≠ 0) ∧ (σ 17 f = l)) ∧ cntI (fun d => (((σ 15 d ≠ 0) ∧ (σ 17 d = σ 17 f)) ∧ (((-1 : Int) = (-1)) ∨ (σ 21 d = (-1)))) ∧ (σ 18 d < σ 18 f)) 24 = a) 24 with ⟨z1, z2⟩ | ⟨z1, z2, z3, z4⟩
      · rw [z1, hv]
        split
        · rename_i z
          have h3 := hLp.2.2.1 l a h1.1.1 h1.1.2 h1.2 z
          exact absurd ⟨⟨h3.2.2.1, h3.2.2.2.1⟩, (hah _ h3.1 h3.2.1 h3.2.2.1).trans h3.2.2.2.2⟩ (z2 (μ 128 (24 * l + a)) h3.1 (by omega))
        · rfl
      · have h3 := hLp.2.1 _ z1 (by omega) z3.1.1
        have h4 := (hah _ z1 (by omega) z3.1.1).symm.trans z3.2
        rw [z3.1.2, h4] at h3
        rw [hv, if_pos (by omega)]
        exact h3.2.2.2.2.1.symm
    rw [hfv] at hat
    refine ⟨v, σ, v, tw 0 μ, ?_, ?_, Or.inl (gx_0 (by omega)), by rw [gx_0 (by omega)]; exact tw_0, fun _ => rfl, iv_ok (B := 4000000 * (n : Int)) (by omega) (R_tw hh)⟩
    · unfold FX7_list
      refine rgx_eq ?_ (Or.inr (by omega))
      rw [gd_pos hl, gd_pos ha, cb_e (x_dem h1), if_neg (by decide), cb_e hat]
    · unfold FX8_list
      refine rgd_eq ?_ (by omega) (by omega)
      rw [gd_pos hl, gd_pos ha, cb_e (q_1 h1), if_pos (by decide), gd_pos h1.1, tw_k (show 129 ≠ 101 by decide), tw_k (show 128 ≠ 101 by decide), gd_pos (fun q => by omega), hv]
  · refine ⟨-1000000000002, σ, 0, tw 1 μ, ?_, ?_, by decide, by rw [gx_2]; exact tw_0, fun z => absurd z (by decide), iv_th hI⟩
    · unfold FX7_list
      refine rgx_eq ?_ (Or.inl (by decide))
      rw [gd_pos hl, gd_pos ha, cb_e (x_demN h1), if_pos (by decide)]
    · unfold FX8_list
      refine rgd_eq ?_ (by decide) (by decide)
      rw [gd_pos hl, gd_pos ha, cb_e (q_1N h1), if_neg (by decide)]
theorem P_state {x y B s st : Int} {σ μ : S2} (hs : 0 ≤ s ∧ s ≤ 5) (ht : 1 ≤ st ∧ st ≤ 2) (h : Rg x y B σ μ) : ∃ r, FX5_having s st σ = some (r, σ) ∧ FX8_inState s st μ = some (r, μ) ∧ 0 ≤ r ∧ r ≤ 32 := by
  obtain ⟨⟨q102, q103, q106, q107, q108, q109, q110, q111, q116, q121, q122, q123, q124, q125, q130, q135, q140⟩, hSp, hMp, hPr, hHd, hFr, hLs, hBl, hWr, hC1, hC2, hC3, hRc, hRo, hSc, hSt, hBd⟩ := h
  have hr := cntI_r (fun a => (σ 2 (32 * s + a) ≠ 0) ∧ (σ 8 (32 * s + a) = st)) 32
  refine ⟨_, e7_having hs (by omega), ?_, hr.1, hr.2⟩
  rw [e8_inState hs (by omega)]
  have e1 : cntI (fun a => (0 < μ 111 (32 * s + a)) ∧ (μ 116 (32 * s + a) = st)) 32 = cntI (fun a => (σ 2 (32 * s + a) ≠ 0) ∧ (σ 8 (32 * s + a) = st)) 32 := by
    refine cntI_congr fun a a0 a1 => ?_
    have hm := hMp (32 * s + a) (by omega) (by omega)
    rw [q111, q116]
    by_cases h3 : σ 3 (32 * s + a) = 0
    · have := hm.2.2.1 h3
      omega
    · have := (hm.2.2.2 h3).1
      omega
  rw [e1]
theorem s_about : gSim_about Iv := by
  intro n σ μ s w hI hn hs hw
  have h := hI
  unfold Iv at h
  have hh := h
  obtain ⟨⟨q102, q103, q106, q107, q108, q109, q110, q111, q116, q121, q122, q123, q124, q125, q130, q135, q140⟩, hSp, hMp, hPr, hHd, hFr, hLs, hBl, hWr, hC1, hC2, hC3, hRc, hRo, hSc, hSt, hBd⟩ := h
  have h416 := hSp.2.1
  have e102 : μ 102 0 = σ 41 0 := by rw [q102]
  by_cases h1 : (0 ≤ s) ∧ (s ≤ σ 41 0 - 1)
  · by_cases h2 : (0 ≤ w) ∧ (w ≤ 5)
    · have hs5 : 0 ≤ s ∧ s ≤ 5 := by omega
      have hk := hSp.2.2.1 s hs5.1 hs5.2
      have hT := R_tw (c := 0) hh
      obtain ⟨v, hvb, h7, h8⟩ : ∃ v : Int, (-2147483648 ≤ v ∧ v ≤ 2147483647) ∧ (if w = 0 then some ((if σ 35 s ≠ 0 then 1 else 0 : Int), σ) else if w = 1 then cb (FX5_regions s σ) fun r3 s3 => some (r3, s3) else if w = 2 then cb (FX5_having s 1 σ) fun r4 s4 => some (r4, s4) else if w = 3 then cb (FX5_having s 2 σ) fun r5 s5 => some (r5, s5) else if w = 4 then cb (FX7_blocks s σ) fun r6 s6 => some (r6, s6) else cb (FX5_score s σ) fun r7 s7 => some (r7, s7)) = some (v, σ) ∧ (if w = 0 then gd (0 ≤ s ∧ s ≤ 5) <| some ((if tw 0 μ 106 s ≠ 0 then 1 else 0 : Int), tw 0 μ) else if w = 1 then cb (FX8_regionsOf s (tw 0 μ)) fun r2 s4 => some (r2, s4) else if w < 4 then cb (FX8_inState s (w - 1) (tw 0 μ)) fun r3 s6 => some (r3, s6) else if w = 4 then cb (FX8_blocksOf s (tw 0 μ)) fun r4 s8 => some (r4, s8) else cb (FX8_scoreOf s (tw 0 μ)) fun r5 s9 => some (r5, s9)) = some (v, tw 0 μ) := by
        have hw6 : w = 0 ∨ w = 1 ∨ w = 2 ∨ w = 3 ∨ w = 4 ∨ w = 5 := by omega
        rcases hw6 with z | z | z | z | z | z
        · refine ⟨(if σ 35 s ≠ 0 then 1 else 0), by split <;> omega, ?_, ?_⟩
          · rw [if_pos z]
          · rw [if_pos z, gd_pos hs5, tw_k (show 106 ≠ 101 by decide), q106]
        · obtain ⟨r, a1, a2, a3, a4⟩ := P_regions hs5 hT
          refine ⟨r, by omega, ?_, ?_⟩
          · rw [if_neg (show ¬ w = 0 by omega), if_pos z, cb_e a1]
          · rw [if_neg (show ¬ w = 0 by omega), if_pos z, cb_e a2]
        · obtain ⟨r, a1, a2, a3, a4⟩ := P_state (st := 1) hs5 (by decide) hT
          refine ⟨r, by omega, ?_, ?_⟩
          · rw [if_neg (show ¬ w = 0 by omega), if_neg (show ¬ w = 1 by omega), if_pos z, cb_e a1]
          · rw [if_neg (show ¬ w = 0 by omega), if_neg (show ¬ w = 1 by omega), if_pos (show w < 4 by omega), show w - 1 = 1 by omega, cb_e a2]
        · obtain ⟨r, a1, a2, a3, a4⟩ := P_state (st := 2) hs5 (by decide) hT
          refine ⟨r, by omega, ?_, ?_⟩
          · rw [if_neg (show ¬ w = 0 by omega), if_neg (show ¬ w = 1 by omega), if_neg (show ¬ w = 2 by omega), if_pos z, cb_e a1]
          · rw [if_neg (show ¬ w = 0 by omega), if_neg (show ¬ w = 1 by omega), if_pos (show w < 4 by omega), show w - 1 = 2 by omega, cb_e a2]
        · obtain ⟨r, a1, a2, a3, a4⟩ := P_blocks hs5 hT
          refine ⟨r, by omega, ?_, ?_⟩
          · rw [if_neg (show ¬ w = 0 by omega), if_neg (show ¬ w = 1 by omega), if_neg (show ¬ w = 2 by omega), if_neg (show ¬ w = 3 by omega), if_pos z, cb_e a1]
          · rw [if_neg (show ¬ w = 0 by omega), if_neg (show ¬ w = 1 by omega), if_neg (show ¬ w < 4 by omega), if_pos z, cb_e a2]
        · obtain ⟨a1, a2⟩ := P_score hs5 hT
          have hc0 := cntI_r (fun a => (σ 2 (32 * s + a) ≠ 0) ∧ (σ 8 (32 * s + a) = 1)) 32
          have hc1 := cntI_r (fun a => (σ 2 (32 * s + a) ≠ 0) ∧ (σ 8 (32 * s + a) = 2)) 32
          have hsc : scI σ s = cntI (fun a => (σ 2 (32 * s + a) ≠ 0) ∧ (σ 8 (32 * s + a) = 1)) 32 + cntI (fun a => (σ 2 (32 * s + a) ≠ 0) ∧ (σ 8 (32 * s + a) = 2)) 32 + σ 34 s := rfl
          refine ⟨scI σ s, by omega, ?_, ?_⟩
          · rw [if_neg (show ¬ w = 0 by omega), if_neg (show ¬ w = 1 by omega), if_neg (show ¬ w = 2 by omega), if_neg (show ¬ w = 3 by omega), if_neg (show ¬ w = 4 by omega), cb_e a1]
          · rw [if_neg (show ¬ w = 0 by omega), if_neg (show ¬ w = 1 by omega), if_neg (show ¬ w < 4 by omega), if_neg (show ¬ w = 4 by omega), cb_e a2]
      refine ⟨v, σ, v, tw 0 μ, ?_, ?_, Or.inl (gx_0 (by omega)), by rw [gx_0 (by omega)]; exact tw_0, fun _ => rfl, iv_ok (B := 4000000 * (n : Int)) (by omega) (R_tw hh)⟩
      · unfold FX7_about
        refine rgx_eq ?_ (Or.inr (by omega))
        rw [gd_pos hs, gd_pos hw, cb_e (x_kn hs h1 h416), if_neg (by rw [gx_0 hs.1]; decide), cb_e (x_dem h2), if_neg (by decide)]
        exact h7
      · unfold FX8_about
        refine rgd_eq ?_ (by omega) (by omega)
        rw [gd_pos hs, gd_pos hw, cb_e (q_2 (by rw [e102]; exact h1) h2), if_pos (by decide)]
        exact h8
    · refine ⟨-1000000000002, σ, 0, tw 2 μ, ?_, ?_, by decide, by rw [gx_2]; exact tw_0, fun z => absurd z (by decide), iv_th hI⟩
      · unfold FX7_about
        refine rgx_eq ?_ (Or.inl (by decide))
        rw [gd_pos hs, gd_pos hw, cb_e (x_kn hs h1 h416), if_neg (by rw [gx_0 hs.1]; decide), cb_e (x_demN h2), if_pos (by decide)]
      · unfold FX8_about
        refine rgd_eq ?_ (by decide) (by decide)
        rw [gd_pos hs, gd_pos hw, cb_e (q_2b (by rw [e102]; exact h1) h2), if_neg (by decide)]
  · refine ⟨-1000000000001, σ, 0, tw 1 μ, ?_, ?_, by decide, by rw [gx_1]; exact tw_0, fun z => absurd z (by decide), iv_th hI⟩
    · unfold FX7_about
      refine rgx_eq ?_ (Or.inl (by decide))
      rw [gd_pos hs, gd_pos hw, cb_e (x_knN hs h1), if_pos (by decide)]
    · unfold FX8_about
      refine rgd_eq ?_ (by decide) (by decide)
      rw [gd_pos hs, gd_pos hw, cb_e (q_2a (by rw [e102]; exact h1)), if_neg (by decide)]
theorem cntI_add {P : Int → Prop} [DecidablePred P] {a : Nat} : ∀ b : Nat, cntI P (a + b) = cntI P a + cntI (fun i => P ((a : Int) + i)) b
  | 0 => by
    show cntI P a = cntI P a + 0
    omega
  | b + 1 => by
    have h := cntI_add (P := P) (a := a) b
    show cntI P (a + b) + (if P ((a + b : Nat) : Int) then 1 else 0) = cntI P a + (cntI (fun i => P ((a : Int) + i)) b + if P ((a : Int) + (b : Int)) then 1 else 0)
    rw [h, show ((a + b : Nat) : Int) = (a : Int) + (b : Int) by omega]
    omega
/-- how many places are taken -/
theorem cnt_places {c31 c49 m132 m133 : Int → Int} (h : rRo c31 c49 m132 m133) : ∀ n : Nat, n ≤ 10 → cntI (fun r => (0 ≤ m132 r) ∧ (m132 r < n)) 18 = cntI (fun q => c49 q ≠ 0) n
  | 0, _ => cntI_0.mpr fun i _ _ q => by omega
  | n + 1, hn => by
    have ih := cnt_places h n (by omega)
    have e1 : cntI (fun r => (0 ≤ m132 r) ∧ (m132 r < ((n + 1 : Nat) : Int))) 18 = cntI (fun r => (0 ≤ m132 r) ∧ (m132 r < n)) 18 + cntI (fun r => m132 r = n) 18 := cntI_split (fun i _ _ => by omega) (fun i _ _ q => by omega)
    have e2 : cntI (fun q => c49 q ≠ 0) (n + 1) = cntI (fun q => c49 q ≠ 0) n + if c49 (n : Int) ≠ 0 then 1 else 0 := rfl
    have e3 : cntI (fun r => m132 r = n) 18 = if c49 (n : Int) ≠ 0 then 1 else 0 := by
      have h4 := (h.2.2.2 n (by omega) (by omega)).2.2
      by_cases z : c49 (n : Int) = 0
      · rw [if_neg (fun q => q z)]
        refine cntI_0.mpr fun i i0 i1 q => ?_
        exact h4.mpr ⟨i, i0, by omega, q⟩ z
      · rw [if_pos z]
        obtain ⟨r, r0, r1, r2⟩ := h4.mp z
        have e4 := cntI_one (p := fun i => m132 i = n) (q := fun _ => False) (a := r) (n := 18) r0 (by omega) (fun i i0 i1 i2 => ⟨fun w => i2 (h.2.2.1 i r i0 (by omega) r0 r1 (by omega) (by omega) (by omega)), fun w => w.elim⟩)
        have e5 : cntI (fun _ => False) 18 = 0 := cntI_0.mpr fun _ _ _ w => w
        rw [if_pos r2, if_neg (fun w => w), e5] at e4
        omega
    rw [e1, e2, ih, e3]
theorem e7_messages {p : Int} {σ : S2} (hp : 0 ≤ p ∧ p ≤ 1) (h1 : 0 ≤ σ 1 p ∧ σ 1 p ≤ 4) : FX0_messages p σ = some (cntI (fun i => (i < σ 1 p) ∧ ((0 ≤ σ 37 (σ 50 (4 * p + i))) ∧ (gAnd (σ 14 (σ 37 (σ 50 (4 * p + i)))) (p + 1) ≠ 0))) 4, σ) := by
  unfold FX0_messages
  have hr := cntI_r (fun i => (i < σ 1 p) ∧ ((0 ≤ σ 37 (σ 50 (4 * p + i))) ∧ (gAnd (σ 14 (σ 37 (σ 50 (4 * p + i)))) (p + 1) ≠ 0))) 4
  refine rgd_eq ?_ hr.1 hr.2
  rw [gd_pos hp]
  obtain ⟨N, hN⟩ := Int.eq_ofNat_of_zero_le h1.1
  have e1 : cntI (fun i => (i < σ 1 p) ∧ ((0 ≤ σ 37 (σ 50 (4 * p + i))) ∧ (gAnd (σ 14 (σ 37 (σ 50 (4 * p + i)))) (p + 1) ≠ 0))) 4 = cntI (fun i => (0 ≤ σ 37 (σ 50 (4 * p + i))) ∧ (gAnd (σ 14 (σ 37 (σ 50 (4 * p + i)))) (p + 1) ≠ 0)) N := by
    have e2 := cntI_add (P := fun i => (i < σ 1 p) ∧ ((0 ≤ σ 37 (σ 50 (4 * p + i))) ∧ (gAnd (σ 14 (σ 37 (σ 50 (4 * p + i)))) (p + 1) ≠ 0))) (a := N) (4 - N)
    rw [show N + (4 - N) = 4 by omega] at e2
    have e3 : cntI (fun i => ((N : Int) + i < σ 1 p) ∧ ((0 ≤ σ 37 (σ 50 (4 * p + ((N : Int) + i)))) ∧ (gAnd (σ 14 (σ 37 (σ 50 (4 * p + ((N : Int) + i))))) (p + 1) ≠ 0))) (4 - N) = 0 := cntI_0.mpr fun i i0 i1 q => by
      have := q.1
      omega
    have e4 : cntI (fun i => (i < σ 1 p) ∧ ((0 ≤ σ 37 (σ 50 (4 * p + i))) ∧ (gAnd (σ 14 (σ 37 (σ 50 (4 * p + i)))) (p + 1) ≠ 0))) N = cntI (fun i => (0 ≤ σ 37 (σ 50 (4 * p + i))) ∧ (gAnd (σ 14 (σ 37 (σ 50 (4 * p + i)))) (p + 1) ≠ 0)) N := cntI_congr fun i i0 i1 => ⟨fun q => q.2, fun q => ⟨by omega, q⟩⟩
    rw [e2, e3, e4]
    omega
  rw [e1]
  refine gl2_cnt (by omega) (fun k j hj => if_pos ⟨by omega, by omega⟩) (fun k => if_neg (fun q => by omega))
theorem P_msgs {x y B : Int} {σ μ : S2} (h : Rg x y B σ μ) : FX7_messages σ = some (cntI (fun t => (t % 4 < μ 135 (t / 4)) ∧ (μ 139 t ≠ 0)) 8, σ) := by
  obtain ⟨⟨q102, q103, q106, q107, q108, q109, q110, q111, q116, q121, q122, q123, q124, q125, q130, q135, q140⟩, hSp, hMp, hPr, hHd, hFr, hLs, hBl, hWr, hC1, hC2, hC3, hRc, hRo, hSc, hSt, hBd⟩ := h
  have hr := cntI_r (fun t => (t % 4 < μ 135 (t / 4)) ∧ (μ 139 t ≠ 0)) 8
  have hp : ∀ p : Int, 0 ≤ p → p ≤ 1 → cntI (fun i => (i < σ 1 p) ∧ ((0 ≤ σ 37 (σ 50 (4 * p + i))) ∧ (gAnd (σ 14 (σ 37 (σ 50 (4 * p + i)))) (p + 1) ≠ 0))) 4 = cntI (fun i => ((4 * p + i) % 4 < μ 135 ((4 * p + i) / 4)) ∧ (μ 139 (4 * p + i) ≠ 0)) 4 := fun p p0 p1 => by
    refine cntI_congr fun i i0 i1 => ?_
    rw [show (4 * p + i) % 4 = i by omega, show (4 * p + i) / 4 = p by omega, q135]
    have h1 := hC1.1 p p0 p1
    constructor
    · rintro ⟨a1, a2, a3⟩
      have h2 := hC1.2.2.2.1 p (4 * p + i) p0 p1 (by omega) (by omega)
      rw [h2.1] at a3
      exact ⟨a1, (hC2.2.2 p (4 * p + i) p0 p1 (by omega) (by omega)).mpr a3⟩
    · rintro ⟨a1, a2⟩
      have h2 := hC1.2.2.2.1 p (4 * p + i) p0 p1 (by omega) (by omega)
      refine ⟨a1, by omega, ?_⟩
      rw [h2.1]
      exact (hC2.2.2 p (4 * p + i) p0 p1 (by omega) (by omega)).mp a2
  have e8 := cntI_add (P := fun t => (t % 4 < μ 135 (t / 4)) ∧ (μ 139 t ≠ 0)) (a := 4) 4
  have e80 : cntI (fun i => ((4 * 0 + i) % 4 < μ 135 ((4 * 0 + i) / 4)) ∧ (μ 139 (4 * 0 + i) ≠ 0)) 4 = cntI (fun t => (t % 4 < μ 135 (t / 4)) ∧ (μ 139 t ≠ 0)) 4 := cntI_congr fun i i0 i1 => by
    rw [show 4 * 0 + i = i by omega]
  have hc0 := cntI_r (fun i => (i < σ 1 0) ∧ ((0 ≤ σ 37 (σ 50 (4 * 0 + i))) ∧ (gAnd (σ 14 (σ 37 (σ 50 (4 * 0 + i)))) (0 + 1) ≠ 0))) 4
  have hc1 := cntI_r (fun i => (i < σ 1 (0 + 1)) ∧ ((0 ≤ σ 37 (σ 50 (4 * (0 + 1) + i))) ∧ (gAnd (σ 14 (σ 37 (σ 50 (4 * (0 + 1) + i)))) (0 + 1 + 1) ≠ 0))) 4
  have p0 := hp 0 (by decide) (by decide)
  have p1 := hp (0 + 1) (by decide) (by decide)
  have e9 : cntI (fun t => (t % 4 < μ 135 (t / 4)) ∧ (μ 139 t ≠ 0)) 8 = cntI (fun i => (i < σ 1 0) ∧ ((0 ≤ σ 37 (σ 50 (4 * 0 + i))) ∧ (gAnd (σ 14 (σ 37 (σ 50 (4 * 0 + i)))) (0 + 1) ≠ 0))) 4 + cntI (fun i => (i < σ 1 (0 + 1)) ∧ ((0 ≤ σ 37 (σ 50 (4 * (0 + 1) + i))) ∧ (gAnd (σ 14 (σ 37 (σ 50 (4 * (0 + 1) + i)))) (0 + 1 + 1) ≠ 0))) 4 := by
    rw [p0, p1, e80]
    exact e8
  unfold FX7_messages
  refine rgd_eq ?_ hr.1 hr.2
  rw [gl2_e (n := 999), if_pos (by decide), cb_e (e7_messages (p := 0) (by decide) (hC1.1 0 (by decide) (by decide))), gd_pos (by omega), gl2_e (n := 998), if_pos (by decide), cb_e (e7_messages (p := 0 + 1) (by decide) (hC1.1 (0 + 1) (by decide) (by decide))), gd_pos (by omega), gl2_e (n := 997), if_neg (by decide), e9]
  congr 2
  omega
