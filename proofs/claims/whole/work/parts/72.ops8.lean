/-! calls: join -/
theorem gl1_all {P : Int → Prop} [DecidablePred P] {m : S2} {N : Nat} {x0 : Int} {f : (Int → S2 → Option (Int × S2)) → Int → S2 → Option (Int × S2)} (hN : N ≤ 900)
    (hs : ∀ k (j : Nat), j < N → f k (x0 + j) m = if P (j : Int) then k (x0 + j + 1) m else some (0, m)) (he : ∀ k, f k (x0 + N) m = some (1, m)) : gl1 1000 f x0 m = some (allI P N, m) := by
  refine glw1 N (fun j x s => j ≤ N ∧ x = x0 + j ∧ s = m ∧ ∀ i : Int, 0 ≤ i → i < j → P i) (fun o => o = _) ?_ 1000 0 x0 m (by omega) (Nat.zero_le _) ⟨Nat.zero_le _, by omega, rfl, fun i a b => by omega⟩
  rintro k j x s ⟨hj, rfl, rfl, hn⟩ ih
  have hr := allI_r P N
  by_cases hjN : j < N
  · rw [hs k j hjN]
    by_cases hp : P (j : Int)
    · rw [if_pos hp]
      refine ih hjN _ _ ⟨hjN, by omega, rfl, fun i a b => ?_⟩
      by_cases hi : i = j
      · rw [hi]; exact hp
      · exact hn i a (by omega)
    · rw [if_neg hp]
      have h0 : allI P N = 0 := by
        apply Classical.byContradiction
        intro q
        exact hp (allI_iff.mp q j (by omega) (by omega))
      rw [h0]
  · have : j = N := by omega
    subst this
    have h1 : allI P j ≠ 0 := allI_iff.mpr hn
    rw [he, show allI P j = 1 by omega]
/-- a loop that goes on while all hold -/
theorem gl2_whl {P : Int → Prop} [DecidablePred P] {m : S2} {N : Nat} {f : (Int → Int → S2 → Option (Int × S2)) → Int → Int → S2 → Option (Int × S2)} (hN : N ≤ 900)
    (hs : ∀ k (j : Nat), j < N → f k 1 j m = k (if P (j : Int) then 1 else 0) ((j : Int) + 1) m) (h0 : ∀ k (j : Nat), f k 0 j m = some (0, m)) (he : ∀ k, f k 1 N m = some (1, m)) : gl2 1000 f 1 0 m = some (allI P N, m) := by
  refine glw2 N (fun j a x s => j ≤ N ∧ x = j ∧ s = m ∧ (a = 1 ∧ (∀ i : Int, 0 ≤ i → i < j → P i) ∨ a = 0 ∧ allI P N = 0)) (fun o => o = _) ?_ 1000 0 1 0 m (by omega) (Nat.zero_le _) ⟨Nat.zero_le _, rfl, rfl, Or.inl ⟨rfl, fun i a b => by omega⟩⟩
  rintro k j a x s ⟨hj, rfl, rfl, hn⟩ ih
  have hr := allI_r P N
  rcases hn with ⟨rfl, hn⟩ | ⟨rfl, hn⟩
  · by_cases hjN : j < N
    · rw [hs k j hjN]
      by_cases hp : P (j : Int)
      · rw [if_pos hp]
        refine ih hjN _ _ _ ⟨hjN, by omega, rfl, Or.inl ⟨rfl, fun i a b => ?_⟩⟩
        by_cases hi : i = j
        · rw [hi]; exact hp
        · exact hn i a (by omega)
      · rw [if_neg hp]
        refine ih hjN _ _ _ ⟨hjN, by omega, rfl, Or.inr ⟨rfl, ?_⟩⟩
        apply Classical.byContradiction
        intro q
        exact hp (allI_iff.mp q j (by omega) (by omega))
    · have : j = N := by omega
      subst this
      have h1 : allI P j ≠ 0 := allI_iff.mpr hn
      rw [he, show allI P j = 1 by omega]
  · rw [h0, hn]
/-- whether an address can be in a block, as the class tells it -/
abbrev jnC (s a : Int) (σ : S2) (i : Int) : Prop := (¬ ((((σ 4 (32 * s + (a + i)) ≠ (-1)) ∨ (σ 9 (32 * s + (a + i)) < 0)) ∨ (¬ ((σ 15 (σ 9 (32 * s + (a + i))) = 1) ∧ (¬ (σ 22 (σ 9 (32 * s + (a + i))) ≠ 0))))) ∨ (σ 20 (σ 9 (32 * s + (a + i))) ≠ 1))) ∧ ¬ ((a < a + i) ∧ (¬ (((((((σ 2 (32 * s + (a + i)) ≠ 0) ∧ (σ 2 (32 * s + ((a + i) - 1)) ≠ 0)) ∧ (σ 3 (32 * s + (a + i)) = σ 3 (32 * s + ((a + i) - 1)))) ∧ (σ 4 (32 * s + (a + i)) = σ 4 (32 * s + ((a + i) - 1)))) ∧ (σ 6 (32 * s + (a + i)) = σ 6 (32 * s + ((a + i) - 1)))) ∧ (σ 7 (32 * s + (a + i)) = σ 7 (32 * s + ((a + i) - 1)))) ∧ ((σ 4 (32 * s + (a + i)) = (-1)) ∨ (σ 5 (32 * s + (a + i)) = (σ 5 (32 * s + ((a + i) - 1))) + 1)))))
theorem e7_canBe {s a : Int} {σ : S2} (hs : 0 ≤ s ∧ s ≤ 5) (ha : 0 ≤ a ∧ a ≤ 28) : FX7_canBeBlock s a σ = some (allI (jnC s a σ) 4, σ) := by
  have hr := allI_r (jnC s a σ) 4
  unfold FX7_canBeBlock
  refine rgd_eq ?_ hr.1 hr.2
  rw [gd_pos hs, gd_pos ha, if_neg (by omega)]
  refine gl1_all (P := jnC s a σ) (N := 4) (x0 := a) (by decide) (fun k j hj => ?_) (fun k => if_neg (by omega))
  rw [if_pos (by omega), gd_pos (by omega)]
  by_cases h1 : (((σ 4 (32 * s + (a + (j : Int))) ≠ (-1)) ∨ (σ 9 (32 * s + (a + (j : Int))) < 0)) ∨ (¬ ((σ 15 (σ 9 (32 * s + (a + (j : Int)))) = 1) ∧ (¬ (σ 22 (σ 9 (32 * s + (a + (j : Int)))) ≠ 0))))) ∨ (σ 20 (σ 9 (32 * s + (a + (j : Int)))) ≠ 1)
  · rw [if_pos h1, if_neg (fun z => z.1 h1)]
  · rw [if_neg h1]
    by_cases h2 : ((a < a + (j : Int)) ∧ (¬ (((((((σ 2 (32 * s + (a + (j : Int))) ≠ 0) ∧ (σ 2 (32 * s + ((a + (j : Int)) - 1)) ≠ 0)) ∧ (σ 3 (32 * s + (a + (j : Int))) = σ 3 (32 * s + ((a + (j : Int)) - 1)))) ∧ (σ 4 (32 * s + (a + (j : Int))) = σ 4 (32 * s + ((a + (j : Int)) - 1)))) ∧ (σ 6 (32 * s + (a + (j : Int))) = σ 6 (32 * s + ((a + (j : Int)) - 1)))) ∧ (σ 7 (32 * s + (a + (j : Int))) = σ 7 (32 * s + ((a + (j : Int)) - 1)))) ∧ ((σ 4 (32 * s + (a + (j : Int))) = (-1)) ∨ (σ 5 (32 * s + (a + (j : Int))) = (σ 5 (32 * s + ((a + (j : Int)) - 1))) + 1)))))
    · rw [if_pos h2, if_neg (fun z => z.2 h2)]
    · rw [if_neg h2, if_pos ⟨h1, h2⟩]
theorem e8_canJoin {x y B s a : Int} {σ μ : S2} (hs : 0 ≤ s ∧ s ≤ 5) (ha : 0 ≤ a ∧ a ≤ 28) (ha4 : a % 4 = 0) (h : Rg (-1) y B σ μ) : FX8_canJoin s a μ = some (if σ 46 ((32 * s + a) / 4) ≠ 0 then 0 else allI (jnC s a σ) 4, μ) := by
  have hh := h
  obtain ⟨⟨q102, q103, q106, q107, q108, q109, q110, q111, q116, q121, q122, q123, q124, q125, q130, q135, q140⟩, hSp, hMp, hPr, hHd, hFr, hLs, hBl, hWr, hC1, hC2, hC3, hRc, hRo, hSc, hSt, hBd⟩ := h
  have hall : allI (fun i => ¬ (σ 46 ((32 * s + a) / 4) ≠ 0) ∧ jnC s a σ i) 4 = if σ 46 ((32 * s + a) / 4) ≠ 0 then 0 else allI (jnC s a σ) 4 := by
    have h1 := allI_r (fun i => ¬ (σ 46 ((32 * s + a) / 4) ≠ 0) ∧ jnC s a σ i) 4
    have h2 := allI_r (jnC s a σ) 4
    split
    · rename_i z
      apply Classical.byContradiction
      intro q
      exact (allI_iff.mp q 0 (by decide) (by decide)).1 z
    · rename_i z
      have h3 : allI (fun i => ¬ (σ 46 ((32 * s + a) / 4) ≠ 0) ∧ jnC s a σ i) 4 ≠ 0 ↔ allI (jnC s a σ) 4 ≠ 0 := by
        rw [allI_iff, allI_iff]
        exact ⟨fun q i i0 i1 => (q i i0 i1).2, fun q i i0 i1 => ⟨z, q i i0 i1⟩⟩
      omega
  rw [← hall]
  have hr := allI_r (fun i => ¬ (σ 46 ((32 * s + a) / 4) ≠ 0) ∧ jnC s a σ i) 4
  unfold FX8_canJoin
  refine rgd_eq ?_ hr.1 hr.2
  rw [gd_pos hs, gd_pos ha]
  refine gl2_whl (P := fun i => ¬ (σ 46 ((32 * s + a) / 4) ≠ 0) ∧ jnC s a σ i) (N := 4) (by decide) (fun k j hj => ?_) (fun k j => if_neg (fun z => z.2 rfl)) (fun k => if_neg (fun z => by omega))
  have hj4 : (j : Int) < 4 := by omega
  have ee : (32 * s) + a + (j : Int) = 32 * s + (a + j) := by omega
  have he : 0 ≤ 32 * s + (a + (j : Int)) ∧ 32 * s + (a + (j : Int)) ≤ 191 := by omega
  rw [if_pos ⟨hj4, by decide⟩]
  simp only [bn]
  rw [ee, gd_pos he]
  have hm := hMp (32 * s + (a + (j : Int))) he.1 he.2
  have hp := hPr (32 * s + (a + (j : Int))) he.1 he.2
  have hb := hBl.2.1 (32 * s + (a + (j : Int))) he.1 he.2
  rw [show (32 * s + (a + (j : Int))) / 4 = (32 * s + a) / 4 by omega] at hb
  by_cases h1 : (((((0 < μ 111 (32 * s + (a + (j : Int)))) ∧ (μ 112 (32 * s + (a + (j : Int))) = (-1))) ∧ (¬ (μ 120 (32 * s + (a + (j : Int))) ≠ 0))) ∧ (μ 116 (32 * s + (a + (j : Int))) = 1)) ∧ (μ 121 (μ 117 (32 * s + (a + (j : Int)))) = 1)) ∧ (¬ (μ 126 (μ 117 (32 * s + (a + (j : Int)))) ≠ 0))
  · rw [if_pos h1]
    rw [q111, q116, q121, hb] at h1
    have h3 : σ 3 (32 * s + (a + (j : Int))) ≠ 0 := by omega
    have h2 := hm.2.2.2 h3
    have h8 := hp.2.2.1 h1.1.1.2
    have h9 : μ 117 (32 * s + (a + (j : Int))) = σ 9 (32 * s + (a + (j : Int))) := by omega
    rw [h9] at h1
    have hen := P_ents (f := σ 9 (32 * s + (a + (j : Int)))) ⟨h8.2.1, h8.2.2.1⟩ hh
    have hfr := hFr.1 (σ 9 (32 * s + (a + (j : Int)))) h8.2.1 h8.2.2.1
    have hhd := hHd (σ 9 (32 * s + (a + (j : Int)))) h8.2.1 h8.2.2.1
    have h22 := hfr.2.2.2.2.2.2.2.2.2.2.2.2.1 h1.1.2
    have h20 := hhd.2.2.2.1 (by omega) (by omega)
    rw [h9, cb_e hen]
    by_cases h5 : cC (σ 9) 192 (σ 9 (32 * s + (a + (j : Int)))) = 1
    · rw [if_pos h5]
      have hc1 : ¬ ((((σ 4 (32 * s + (a + (j : Int))) ≠ (-1)) ∨ (σ 9 (32 * s + (a + (j : Int))) < 0)) ∨ (¬ ((σ 15 (σ 9 (32 * s + (a + (j : Int)))) = 1) ∧ (¬ (σ 22 (σ 9 (32 * s + (a + (j : Int)))) ≠ 0))))) ∨ (σ 20 (σ 9 (32 * s + (a + (j : Int)))) ≠ 1)) := by omega
      by_cases hj0 : (j : Int) = 0
      · rw [gd_pos (fun z => absurd hj0 z), if_pos (Or.inl hj0), if_pos ⟨fun z => h1.1.1.1.2 z, hc1, fun z => by omega⟩]
      · rw [gd_pos (fun _ => by omega)]
        have hm' := hMp (32 * s + (a + (j : Int)) - 1) (by omega) (by omega)
        have ee2 : 32 * s + ((a + (j : Int)) - 1) = 32 * s + (a + (j : Int)) - 1 := by omega
        rw [q111, h2.2.1, h2.2.2.1, h2.2.2.2.1, h2.2.2.2.2.1]
        by_cases h3' : σ 3 (32 * s + (a + (j : Int)) - 1) = 0
        · rw [if_neg (fun z => by omega), if_neg]
          rintro ⟨_, _, z⟩
          apply z
          refine ⟨by omega, fun w => ?_⟩
          rw [ee2] at w
          exact w.1.1.1.1.1.2 (hm'.2.2.1 h3')
        · have h2' := hm'.2.2.2 h3'
          rw [h2'.2.1, h2'.2.2.1, h2'.2.2.2.1, h2'.2.2.2.2.1]
          have hP : (¬ (σ 46 ((32 * s + a) / 4) ≠ 0) ∧ jnC s a σ (j : Int)) ↔ ((((σ 3 (32 * s + (a + (j : Int)) - 1) = σ 3 (32 * s + (a + (j : Int)))) ∧ (σ 7 (32 * s + (a + (j : Int)) - 1) = σ 7 (32 * s + (a + (j : Int))))) ∧ (σ 4 (32 * s + (a + (j : Int)) - 1) = σ 4 (32 * s + (a + (j : Int))))) ∧ ((σ 4 (32 * s + (a + (j : Int)) - 1) = (-1)) ∨ ((σ 6 (32 * s + (a + (j : Int)) - 1) = σ 6 (32 * s + (a + (j : Int)))) ∧ (σ 5 (32 * s + (a + (j : Int))) = (σ 5 (32 * s + (a + (j : Int)) - 1)) + 1)))) := by
            unfold jnC
            rw [ee2]
            constructor
            · rintro ⟨_, _, z⟩
              have w := Classical.byContradiction (fun q => z ⟨by omega, q⟩)
              obtain ⟨⟨⟨⟨⟨⟨w1, w2⟩, w3⟩, w4⟩, w5⟩, w6⟩, w7⟩ := w
              exact ⟨⟨⟨w3.symm, w6.symm⟩, w4.symm⟩, Or.inl (by omega)⟩
            · rintro ⟨⟨⟨w1, w2⟩, w3⟩, w4⟩
              refine ⟨fun z => h1.1.1.1.2 z, hc1, fun z => z.2 ⟨⟨⟨⟨⟨⟨by omega, by omega⟩, w1.symm⟩, w3.symm⟩, ?_⟩, w2.symm⟩, Or.inl (by omega)⟩⟩
              have a1 := h2.2.2.2.2.2.2.2.2.2.2.2.2.2 (by omega)
              have a2 := h2'.2.2.2.2.2.2.2.2.2.2.2.2.2 (by omega)
              omega
          by_cases hz : ((((σ 3 (32 * s + (a + (j : Int)) - 1) = σ 3 (32 * s + (a + (j : Int)))) ∧ (σ 7 (32 * s + (a + (j : Int)) - 1) = σ 7 (32 * s + (a + (j : Int))))) ∧ (σ 4 (32 * s + (a + (j : Int)) - 1) = σ 4 (32 * s + (a + (j : Int))))) ∧ ((σ 4 (32 * s + (a + (j : Int)) - 1) = (-1)) ∨ ((σ 6 (32 * s + (a + (j : Int)) - 1) = σ 6 (32 * s + (a + (j : Int)))) ∧ (σ 5 (32 * s + (a + (j : Int))) = (σ 5 (32 * s + (a + (j : Int)) - 1)) + 1))))
          · rw [if_pos (Or.inr hz), if_pos (hP.mpr hz)]
          · rw [if_neg (fun z => z.elim hj0 hz), if_neg (fun z => hz (hP.mp z))]
    · rw [if_neg h5, if_neg]
      rintro ⟨_, z, _⟩
      omega
  · rw [if_neg h1, if_neg]
    rintro ⟨z0, z, _⟩
    apply h1
    rw [q111, q116, q121, hb]
    have h9 : 0 ≤ σ 9 (32 * s + (a + (j : Int))) := by omega
    have h8 : σ 8 (32 * s + (a + (j : Int))) = 1 := by
      apply Classical.byContradiction
      intro q
      have := (hp.2.2.2.1 q).1
      omega
    have h8' := hp.2.2.1 h8
    have h3 : σ 3 (32 * s + (a + (j : Int))) ≠ 0 := fun q => by have := hp.2.1 q; omega
    have h2 := hm.2.2.2 h3
    have h117 : μ 117 (32 * s + (a + (j : Int))) = σ 9 (32 * s + (a + (j : Int))) := by omega
    rw [h117]
    have hfr := hFr.1 (σ 9 (32 * s + (a + (j : Int)))) h8'.2.1 h8'.2.2.1
    have h22 := hfr.2.2.2.2.2.2.2.2.2.2.2.2.1 (by omega)
    exact ⟨⟨⟨⟨⟨by omega, by omega⟩, z0⟩, h8⟩, by omega⟩, by omega⟩
theorem R_join {y B s a : Int} {σ μ : S2} (hs : 0 ≤ s ∧ s ≤ 5) (ha : 0 ≤ a ∧ a ≤ 28) (ha4 : a % 4 = 0) (hall : ∀ i : Int, 0 ≤ i → i < 4 → jnC s a σ i) (h : Rg (-1) y B σ μ) : Rg (-1) y B (sc σ 46 (uc (σ 46) ((32 * s + a) / 4) 1)) (sc μ 120 (mp (32 * s + a) 4 (fun _ => 1) (μ 120))) := by
  obtain ⟨⟨q102, q103, q106, q107, q108, q109, q110, q111, q116, q121, q122, q123, q124, q125, q130, q135, q140⟩, hSp, hMp, hPr, hHd, hFr, hLs, hBl, hWr, hC1, hC2, hC3, hRc, hRo, hSc, hSt, hBd⟩ := h
  refine ⟨⟨?_, ?_, ?_, ?_, ?_, ?_, ?_, ?_, ?_, ?_, ?_, ?_, ?_, ?_, ?_, ?_, ?_⟩, ?_, ?_, ?_, ?_, ?_, ?_, ?_, ?_, ?_, ?_, ?_, ?_, ?_, ?_, ?_, ?_⟩
  all_goals (try simp (disch := decide) only [sc_s, sc_k, q102, q103, q106, q107, q108, q109, q110, q111, q116, q121, q122, q123, q124, q125, q130, q135, q140])
  all_goals (try with_reducible assumption)
  refine ⟨fun b b0 b1 => ?_, fun e e0 e1 => ?_, fun e e0 e1 e2 => ?_⟩
  · have := hBl.1 b b0 b1
    unfold uc
    split <;> omega
  · have h1 := hBl.2.1 e e0 e1
    unfold mp uc
    by_cases z : e / 4 = (32 * s + a) / 4
    · rw [if_pos (by omega), if_pos z]
    · rw [if_neg (by omega), if_neg z]
      exact h1
  · by_cases z : e / 4 = (32 * s + a) / 4
    · have h2 := hall (e - (32 * s + a)) (by omega) (by omega)
      have h3 := h2.1
      rw [show 32 * s + (a + (e - (32 * s + a))) = e by omega] at h3
      have hp := hPr e e0 e1
      have h8 : σ 8 e = 1 := by
        apply Classical.byContradiction
        intro q
        have := (hp.2.2.2.1 q).1
        omega
      have h9 := hp.2.2.1 h8
      have hhd := hHd (σ 9 e) h9.2.1 h9.2.2.1
      have h20 := hhd.2.2.2.1 (by omega) (by omega)
      refine ⟨h8, by omega, by omega, fun d d0 d1 d2 => ?_⟩
      apply Classical.byContradiction
      intro q
      have := cC_two (c := σ 9) (n := 192) (f := σ 9 e) (a := d) (b := e) d0 (by omega) e0 (by omega) d2 rfl q
      omega
    · rw [uc_n z] at e2
      exact hBl.2.2 e e0 e1 e2
theorem s_join : gSim_join Iv := by
  intro n σ μ s a hI hn hs ha
  have h := hI
  unfold Iv at h
  have h416 := h.2.1.2.1
  obtain ⟨e106, e102'⟩ := lv_al h
  have e102 : μ 102 0 = σ 41 0 := by rw [e102']
  by_cases h1 : (0 ≤ s) ∧ (s ≤ σ 41 0 - 1)
  · have hs5 : 0 ≤ s ∧ s ≤ 5 := by omega
    by_cases h2 : ((0 ≤ a) ∧ (a ≤ 28)) ∧ (a % 4 = 0)
    · have hj7 := e7_canBe (σ := σ) hs5 h2.1
      have hj8 := e8_canJoin (x := -1) hs5 h2.1 h2.2 h
      have hb46 := h.2.2.2.2.2.2.2.1.1 ((32 * s + a) / 4) (by omega) (by omega)
      have hr := allI_r (jnC s a σ) 4
      by_cases h3 : σ 46 ((32 * s + a) / 4) = 0 ∧ allI (jnC s a σ) 4 ≠ 0
      · rw [if_neg (fun z => z h3.1)] at hj8
        have hR := R_join hs5 h2.1 h2.2 (allI_iff.mp h3.2) (R_tw (c := 0) h)
        obtain ⟨r, b1, b2, b3, b4⟩ := P_blocks hs5 hR
        refine ⟨r, _, r, _, ?_, ?_, Or.inl (gx_0 (by omega)), ?_, fun _ => rfl, iv_ok (B := 4000000 * (n : Int)) (by omega) hR⟩
        · unfold FX7_join
          refine rgx_eq ?_ (Or.inr (by omega))
          rw [gd_pos hs, gd_pos ha, cb_e (x_kn hs h1 h416), if_neg (by rw [gx_0 hs.1]; decide), cb_e (x_dem h2), if_neg (by decide), gd_pos (by omega)]
          simp only [bn]
          rw [gd_pos (by omega), if_pos (fun z => z.2 h3.1), cb_e hj7, if_pos h3.2, cb_e (x_per rfl), if_neg (by decide), cb_e (e7_setJ (by omega) (by decide)), cb_e b1]
        · unfold FX8_join
          refine rgd_eq ?_ (by omega) (by omega)
          rw [gd_pos hs, gd_pos ha]
          simp only [bn]
          rw [if_pos (by rw [e102]; exact ⟨h1, h2⟩), cb_e hj8, if_pos h3.2, cb_e (q_3 (by rw [e102]; exact h1) h2 rfl), if_pos (by decide)]
          refine gl1_map (k := 120) (g := fun _ => 1) (off := 32 * s + a) (x0 := 0) (N := 4) (by decide) ?_ ?_
          · intro K j c hj hc
            simp only [Int.zero_add]
            rw [if_pos (by omega), gd_pos (by omega)]
            simp (disch := decide) only [bn, u2_sc, sc_s, sc_k, sc_sc]
          · intro K
            refine (if_neg (by decide)).trans ?_
            exact cb_e b2
        · rw [gx_0 (by omega)]
          simp (disch := decide) only [sc_s, sc_k]
          exact tw_0
      · have h0 : (if σ 46 ((32 * s + a) / 4) ≠ 0 then 0 else allI (jnC s a σ) 4 : Int) = 0 := by
          split <;> omega
        rw [h0] at hj8
        refine ⟨-1000000000003, σ, 0, tw 3 μ, ?_, ?_, by decide, by rw [gx_3]; exact tw_0, fun z => absurd z (by decide), iv_th hI⟩
        · unfold FX7_join
          refine rgx_eq ?_ (Or.inl (by decide))
          rw [gd_pos hs, gd_pos ha, cb_e (x_kn hs h1 h416), if_neg (by rw [gx_0 hs.1]; decide), cb_e (x_dem h2), if_neg (by decide), gd_pos (by omega)]
          simp only [bn]
          rw [gd_pos (by omega)]
          by_cases h4 : σ 46 ((32 * s + a) / 4) = 0
          · rw [if_pos (fun z => z.2 h4), cb_e hj7, if_neg (fun z => h3 ⟨h4, z⟩), cb_e (x_perN rfl), if_pos (by decide)]
          · rw [if_neg (fun z => z ⟨⟨by omega, by omega⟩, h4⟩), cb_e (x_perN rfl), if_pos (by decide)]
        · unfold FX8_join
          refine rgd_eq ?_ (by decide) (by decide)
          rw [gd_pos hs, gd_pos ha]
          simp only [bn]
          rw [if_pos (by rw [e102]; exact ⟨h1, h2⟩), cb_e hj8, if_neg (by decide), cb_e (q_3c (by rw [e102]; exact h1) h2 rfl), if_neg (by decide)]
    · refine ⟨-1000000000002, σ, 0, tw 2 μ, ?_, ?_, by decide, by rw [gx_2]; exact tw_0, fun z => absurd z (by decide), iv_th hI⟩
      · unfold FX7_join
        refine rgx_eq ?_ (Or.inl (by decide))
        rw [gd_pos hs, gd_pos ha, cb_e (x_kn hs h1 h416), if_neg (by rw [gx_0 hs.1]; decide), cb_e (x_demN h2), if_pos (by decide)]
      · unfold FX8_join
        refine rgd_eq ?_ (by decide) (by decide)
        rw [gd_pos hs, gd_pos ha]
        simp only [bn]
        rw [if_neg (fun z => h2 z.2), cb_e (q_3b (by rw [e102]; exact h1) h2 (by decide)), if_neg (by decide)]
  · refine ⟨-1000000000001, σ, 0, tw 1 μ, ?_, ?_, by decide, by rw [gx_1]; exact tw_0, fun z => absurd z (by decide), iv_th hI⟩
    · unfold FX7_join
      refine rgx_eq ?_ (Or.inl (by decide))
      rw [gd_pos hs, gd_pos ha, cb_e (x_knN hs h1), if_pos (by decide)]
    · unfold FX8_join
      refine rgd_eq ?_ (by decide) (by decide)
      rw [gd_pos hs, gd_pos ha]
      simp only [bn]
      rw [if_neg (fun z => h1 (by rw [← e102]; exact z.1)), cb_e (q_3a (by rw [e102]; exact h1) (by decide)), if_neg (by decide)]
