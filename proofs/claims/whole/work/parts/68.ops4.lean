/-! calls that ask: entry, frame -/
theorem s_entry : gSim_entry Iv := by
  intro n σ μ s a w hI hn hs ha hw
  have h := hI
  unfold Iv at h
  have hh := h
  obtain ⟨⟨q102, q103, q106, q107, q108, q109, q110, q111, q116, q121, q122, q123, q124, q125, q130, q135, q140⟩, hSp, hMp, hPr, hHd, hFr, hLs, hBl, hWr, hC1, hC2, hC3, hRc, hRo, hSc, hSt, hBd⟩ := h
  have h416 := hSp.2.1
  have e102 : μ 102 0 = σ 41 0 := by rw [q102]
  by_cases h1 : (0 ≤ s) ∧ (s ≤ σ 41 0 - 1)
  · by_cases h2 : ((0 ≤ a) ∧ (a ≤ 31)) ∧ ((0 ≤ w) ∧ (w ≤ 5))
    · have hm := hMp (32 * s + a) (by omega) (by omega)
      have hp := hPr (32 * s + a) (by omega) (by omega)
      have t111 : tw 0 μ 111 = σ 3 := by rw [tw_k (by decide), q111]
      have t116 : tw 0 μ 116 = σ 8 := by rw [tw_k (by decide), q116]
      have t117 : tw 0 μ 117 = μ 117 := tw_k (by decide)
      have t118 : tw 0 μ 118 = μ 118 := tw_k (by decide)
      have t119 : tw 0 μ 119 = μ 119 := tw_k (by decide)
      have t120 : tw 0 μ 120 = μ 120 := tw_k (by decide)
      have t132 : tw 0 μ 132 = μ 132 := tw_k (by decide)
      have hw6 : w = 0 ∨ w = 1 ∨ w = 2 ∨ w = 3 ∨ w = 4 ∨ w = 5 := by omega
      have hf3 : (σ 3 (32 * s + a) = 0 ∧ σ 2 (32 * s + a) = 0 ∧ σ 8 (32 * s + a) = 0) ∨ (0 < σ 3 (32 * s + a) ∧ σ 2 (32 * s + a) = 1) := by
        by_cases z : σ 3 (32 * s + a) = 0
        · exact Or.inl ⟨z, hm.2.2.1 z, hp.2.1 z⟩
        · exact Or.inr ⟨by omega, (hm.2.2.2 z).1⟩
      rcases hw6 with z | z | z | z | z | z
      · subst z
        refine ⟨σ 3 (32 * s + a), σ, σ 3 (32 * s + a), tw 0 μ, ?_, ?_, Or.inl (gx_0 (by omega)), by rw [gx_0 (by omega)]; exact tw_0, fun _ => rfl, iv_ok (B := 4000000 * (n : Int)) (by omega) (R_tw hh)⟩
        · unfold FX7_entry
          refine rgx_eq ?_ (Or.inr (by omega))
          rw [gd_pos hs, gd_pos ha, gd_pos hw, cb_e (x_kn hs h1 h416), if_neg (by rw [gx_0 hs.1]; decide), cb_e (x_dem h2), if_neg (by decide), gd_pos h2.1, if_pos rfl, gd_pos (by omega)]
          congr 2
          split <;> omega
        · unfold FX8_entry
          refine rgd_eq ?_ (by omega) (by omega)
          rw [gd_pos hs, gd_pos ha, gd_pos hw, cb_e (q_2 (by rw [e102]; exact h1) h2), if_pos (by decide), gd_pos (by omega), if_pos rfl, t111]
      · subst z
        obtain ⟨v, hv⟩ : ∃ v, v = (if σ 3 (32 * s + a) = 0 then -1 else σ 8 (32 * s + a)) := ⟨_, rfl⟩
        have hvb : -1 ≤ v ∧ v ≤ 2 := by rw [hv]; split <;> omega
        refine ⟨v, σ, v, tw 0 μ, ?_, ?_, Or.inl (gx_0 (by omega)), by rw [gx_0 (by omega)]; exact tw_0, fun _ => rfl, iv_ok (B := 4000000 * (n : Int)) (by omega) (R_tw hh)⟩
        · unfold FX7_entry
          refine rgx_eq ?_ (Or.inr (by omega))
          rw [gd_pos hs, gd_pos ha, gd_pos hw, cb_e (x_kn hs h1 h416), if_neg (by rw [gx_0 hs.1]; decide), cb_e (x_dem h2), if_neg (by decide), gd_pos h2.1, if_neg (by decide), if_pos rfl, gd_pos (by omega), hv]
          congr 2
          repeat' split
          all_goals omega
        · unfold FX8_entry
          refine rgd_eq ?_ (by omega) (by omega)
          rw [gd_pos hs, gd_pos ha, gd_pos hw, cb_e (q_2 (by rw [e102]; exact h1) h2), if_pos (by decide), gd_pos (by omega), if_neg (by decide), if_pos rfl, t111, t116, hv]
          congr 2
          repeat' split
          all_goals omega
      · subst z
        have hvb : -1 ≤ σ 9 (32 * s + a) ∧ σ 9 (32 * s + a) ≤ 23 := by
          by_cases z : σ 8 (32 * s + a) = 1
          · have := hp.2.2.1 z
            omega
          · have := hp.2.2.2.1 z
            omega
        refine ⟨σ 9 (32 * s + a), σ, σ 9 (32 * s + a), tw 0 μ, ?_, ?_, Or.inl (gx_0 (by omega)), by rw [gx_0 (by omega)]; exact tw_0, fun _ => rfl, iv_ok (B := 4000000 * (n : Int)) (by omega) (R_tw hh)⟩
        · unfold FX7_entry
          refine rgx_eq ?_ (Or.inr (by omega))
          rw [gd_pos hs, gd_pos ha, gd_pos hw, cb_e (x_kn hs h1 h416), if_neg (by rw [gx_0 hs.1]; decide), cb_e (x_dem h2), if_neg (by decide), gd_pos h2.1, if_neg (by decide), if_neg (by decide), if_pos rfl, gd_pos (by omega)]
          congr 2
          repeat' split
          all_goals omega
        · unfold FX8_entry
          refine rgd_eq ?_ (by omega) (by omega)
          rw [gd_pos hs, gd_pos ha, gd_pos hw, cb_e (q_2 (by rw [e102]; exact h1) h2), if_pos (by decide), gd_pos (by omega), if_neg (by decide), if_neg (by decide), if_pos rfl, t111, t116, t117]
          congr 2
          by_cases z : σ 8 (32 * s + a) = 1
          · have := hp.2.2.1 z
            rw [if_pos (by omega)]
            omega
          · have := hp.2.2.2.1 z
            rw [if_neg (by omega)]
            omega
      · subst z
        obtain ⟨v, hv⟩ : ∃ v, v = (if σ 8 (32 * s + a) = 1 then σ 10 (32 * s + a) else -1) := ⟨_, rfl⟩
        have hvb : -1 ≤ v ∧ v ≤ 1 := by
          rw [hv]
          split
          · rename_i z
            have := hp.2.2.1 z
            omega
          · omega
        refine ⟨v, σ, v, tw 0 μ, ?_, ?_, Or.inl (gx_0 (by omega)), by rw [gx_0 (by omega)]; exact tw_0, fun _ => rfl, iv_ok (B := 4000000 * (n : Int)) (by omega) (R_tw hh)⟩
        · unfold FX7_entry
          refine rgx_eq ?_ (Or.inr (by omega))
          rw [gd_pos hs, gd_pos ha, gd_pos hw, cb_e (x_kn hs h1 h416), if_neg (by rw [gx_0 hs.1]; decide), cb_e (x_dem h2), if_neg (by decide), gd_pos h2.1, if_neg (by decide), if_neg (by decide), if_neg (by decide), if_pos rfl, gd_pos (by omega), hv]
          congr 2
          by_cases z : σ 8 (32 * s + a) = 1
          · have := hp.2.2.1 z
            rw [if_neg (by omega), if_pos z]
            split <;> omega
          · have := hp.2.2.2.1 z
            rw [if_pos (by omega), if_neg z]
        · unfold FX8_entry
          refine rgd_eq ?_ (by omega) (by omega)
          rw [gd_pos hs, gd_pos ha, gd_pos hw, cb_e (q_2 (by rw [e102]; exact h1) h2), if_pos (by decide), gd_pos (by omega), if_neg (by decide), if_neg (by decide), if_neg (by decide), if_pos rfl, t111, t116, t118, hv]
          congr 2
          by_cases z : σ 8 (32 * s + a) = 1
          · have := hp.2.2.1 z
            rw [if_neg (by omega), if_pos z]
            split <;> omega
          · rw [if_pos (by omega), if_neg z]
      · subst z
        obtain ⟨v, hv⟩ : ∃ v, v = (if σ 8 (32 * s + a) = 2 then σ 28 (σ 11 (32 * s + a)) else -1) := ⟨_, rfl⟩
        have h28 : σ 8 (32 * s + a) = 2 → σ 11 (32 * s + a) = μ 119 (32 * s + a) ∧ 0 ≤ σ 11 (32 * s + a) ∧ σ 11 (32 * s + a) ≤ 17 ∧ σ 28 (σ 11 (32 * s + a)) = μ 132 (σ 11 (32 * s + a)) ∧ 0 ≤ σ 28 (σ 11 (32 * s + a)) ∧ σ 28 (σ 11 (32 * s + a)) ≤ 10 := fun z => by
          have h5 := hp.2.2.2.2.1 z
          have h6 := hRc (σ 11 (32 * s + a)) h5.2.1 h5.2.2
          have h7 := cC_pos (c := σ 11) (n := 192) (f := σ 11 (32 * s + a)) (a := 32 * s + a) (by omega) (by omega) rfl
          have h8 : μ 132 (σ 11 (32 * s + a)) ≠ -1 := fun w => by
            have := h6.2.1.mp w
            omega
          have h9 := h6.2.2 h8
          omega
        have hvb : -1 ≤ v ∧ v ≤ 10 := by
          rw [hv]
          split
          · rename_i z
            have := h28 z
            omega
          · omega
        refine ⟨v, σ, v, tw 0 μ, ?_, ?_, Or.inl (gx_0 (by omega)), by rw [gx_0 (by omega)]; exact tw_0, fun _ => rfl, iv_ok (B := 4000000 * (n : Int)) (by omega) (R_tw hh)⟩
        · unfold FX7_entry
          refine rgx_eq ?_ (Or.inr (by omega))
          rw [gd_pos hs, gd_pos ha, gd_pos hw, cb_e (x_kn hs h1 h416), if_neg (by rw [gx_0 hs.1]; decide), cb_e (x_dem h2), if_neg (by decide), gd_pos h2.1, if_neg (by decide), if_neg (by decide), if_neg (by decide), if_neg (by decide), if_pos rfl, gd_pos (by omega), hv]
          congr 2
          by_cases z : σ 8 (32 * s + a) = 2
          · have := h28 z
            rw [if_neg (by omega), if_pos z]
          · have := hp.2.2.2.2.2 z
            rw [if_pos (by omega), if_neg z]
        · unfold FX8_entry
          refine rgd_eq ?_ (by omega) (by omega)
          rw [gd_pos hs, gd_pos ha, gd_pos hw, cb_e (q_2 (by rw [e102]; exact h1) h2), if_pos (by decide), gd_pos (by omega), if_neg (by decide), if_neg (by decide), if_neg (by decide), if_neg (by decide), if_pos rfl, t111, t116, t119, t132, hv]
          by_cases z : σ 8 (32 * s + a) = 2
          · have h5 := h28 z
            rw [gd_pos (fun _ => by omega), if_pos ⟨by omega, z⟩, if_pos z, ← h5.1, h5.2.2.2.1]
          · rw [gd_pos (fun q => absurd q.2 z), if_neg (fun q => z q.2), if_neg z]
      · subst z
        have hb := hBl.2.1 (32 * s + a) (by omega) (by omega)
        have hb2 := hBl.1 ((32 * s + a) / 4) (by omega) (by omega)
        have hb3 : σ 46 ((32 * s + a) / 4) ≠ 0 → 0 < σ 3 (32 * s + a) := fun z => by
          have := (hBl.2.2 (32 * s + a) (by omega) (by omega) z).1
          omega
        refine ⟨σ 46 ((32 * s + a) / 4), σ, σ 46 ((32 * s + a) / 4), tw 0 μ, ?_, ?_, Or.inl (gx_0 (by omega)), by rw [gx_0 (by omega)]; exact tw_0, fun _ => rfl, iv_ok (B := 4000000 * (n : Int)) (by omega) (R_tw hh)⟩
        · unfold FX7_entry
          refine rgx_eq ?_ (Or.inr (by omega))
          rw [gd_pos hs, gd_pos ha, gd_pos hw, cb_e (x_kn hs h1 h416), if_neg (by rw [gx_0 hs.1]; decide), cb_e (x_dem h2), if_neg (by decide), gd_pos h2.1, if_neg (by decide), if_neg (by decide), if_neg (by decide), if_neg (by decide), if_neg (by decide), gd_pos (by omega)]
          congr 2
          by_cases z : σ 46 ((32 * s + a) / 4) = 0
          · have e1 : (if ((0 ≤ (32 * s + a) / 4) ∧ ((32 * s + a) / 4 < 48)) ∧ (σ 46 ((32 * s + a) / 4) ≠ 0) then 1 else 0 : Int) = 0 := if_neg (fun q => q.2 z)
            rw [e1, if_neg (show ¬ ((0 : Int) ≠ 0) by decide), z]
          · have e1 : (if ((0 ≤ (32 * s + a) / 4) ∧ ((32 * s + a) / 4 < 48)) ∧ (σ 46 ((32 * s + a) / 4) ≠ 0) then 1 else 0 : Int) = 1 := if_pos ⟨⟨by omega, by omega⟩, z⟩
            rw [e1, if_pos (show (1 : Int) ≠ 0 by decide)]
            omega
        · unfold FX8_entry
          refine rgd_eq ?_ (by omega) (by omega)
          rw [gd_pos hs, gd_pos ha, gd_pos hw, cb_e (q_2 (by rw [e102]; exact h1) h2), if_pos (by decide), gd_pos (by omega), if_neg (by decide), if_neg (by decide), if_neg (by decide), if_neg (by decide), if_neg (by decide), t111, t120, hb]
          congr 2
          by_cases z : σ 46 ((32 * s + a) / 4) = 0
          · rw [if_neg (fun q => q.2 z), z]
          · rw [if_pos ⟨hb3 z, z⟩]
            omega
    · refine ⟨-1000000000002, σ, 0, tw 2 μ, ?_, ?_, by decide, by rw [gx_2]; exact tw_0, fun z => absurd z (by decide), iv_th hI⟩
      · unfold FX7_entry
        refine rgx_eq ?_ (Or.inl (by decide))
        rw [gd_pos hs, gd_pos ha, gd_pos hw, cb_e (x_kn hs h1 h416), if_neg (by rw [gx_0 hs.1]; decide), cb_e (x_demN h2), if_pos (by decide)]
      · unfold FX8_entry
        refine rgd_eq ?_ (by decide) (by decide)
        rw [gd_pos hs, gd_pos ha, gd_pos hw, cb_e (q_2b (by rw [e102]; exact h1) h2), if_neg (by decide)]
  · refine ⟨-1000000000001, σ, 0, tw 1 μ, ?_, ?_, by decide, by rw [gx_1]; exact tw_0, fun z => absurd z (by decide), iv_th hI⟩
    · unfold FX7_entry
      refine rgx_eq ?_ (Or.inl (by decide))
      rw [gd_pos hs, gd_pos ha, gd_pos hw, cb_e (x_knN hs h1), if_pos (by decide)]
    · unfold FX8_entry
      refine rgd_eq ?_ (by decide) (by decide)
      rw [gd_pos hs, gd_pos ha, gd_pos hw, cb_e (q_2a (by rw [e102]; exact h1)), if_neg (by decide)]
/-- which entries have a page -/
theorem P_has {x y B f : Int} {σ μ : S2} (hf : 0 ≤ f ∧ f ≤ 23) (h : Rg x y B σ μ) : ∀ d, 0 ≤ d → d ≤ 191 → (((0 < μ 111 d) ∧ (μ 116 d = 1)) ∧ (μ 117 d = f) ↔ σ 9 d = f) := by
  obtain ⟨⟨q102, q103, q106, q107, q108, q109, q110, q111, q116, q121, q122, q123, q124, q125, q130, q135, q140⟩, hSp, hMp, hPr, hHd, hFr, hLs, hBl, hWr, hC1, hC2, hC3, hRc, hRo, hSc, hSt, hBd⟩ := h
  intro d d0 d1
  have h1 := hPr d d0 d1
  have h2 := hMp d d0 d1
  rw [q111, q116]
  constructor
  · rintro ⟨⟨a, b⟩, c⟩
    have := h1.2.2.1 b
    omega
  · intro a
    have h8 : σ 8 d = 1 := by
      apply Classical.byContradiction
      intro q
      have := (h1.2.2.2.1 q).1
      omega
    have h3 : σ 3 d ≠ 0 := fun q => by have := h1.2.1 q; omega
    have := h1.2.2.1 h8
    exact ⟨⟨by omega, h8⟩, by omega⟩
/-- how many entries have a page -/
theorem P_ents {x y B f : Int} {σ μ : S2} (hf : 0 ≤ f ∧ f ≤ 23) (h : Rg x y B σ μ) : FX8_entriesOf f μ = some (cC (σ 9) 192 f, μ) := e8_entriesOfS hf (P_has hf h)
theorem s_frame : gSim_frame Iv := by
  intro n σ μ f w hI hn hf hw
  have h := hI
  unfold Iv at h
  have hh := h
  obtain ⟨⟨q102, q103, q106, q107, q108, q109, q110, q111, q116, q121, q122, q123, q124, q125, q130, q135, q140⟩, hSp, hMp, hPr, hHd, hFr, hLs, hBl, hWr, hC1, hC2, hC3, hRc, hRo, hSc, hSt, hBd⟩ := h
  by_cases h1 : ((0 ≤ f) ∧ (f ≤ 23)) ∧ ((0 ≤ w) ∧ (w ≤ 7))
  · have hfr := hFr.1 f h1.1.1 h1.1.2
    have hhd := hHd f h1.1.1 h1.1.2
    have t121 : tw 0 μ 121 = σ 15 := by rw [tw_k (by decide), q121]
    have t122 : tw 0 μ 122 = σ 16 := by rw [tw_k (by decide), q122]
    have t123 : tw 0 μ 123 = σ 17 := by rw [tw_k (by decide), q123]
    have t124 : tw 0 μ 124 = σ 19 := by rw [tw_k (by decide), q124]
    have t125 : tw 0 μ 125 = σ 21 := by rw [tw_k (by decide), q125]
    have t126 : tw 0 μ 126 = μ 126 := tw_k (by decide)
    have t127 : tw 0 μ 127 = μ 127 := tw_k (by decide)
    by_cases hw0 : w = 0
    · subst hw0
      have hT := P_isTr h1.1 (R_tw (c := 0) hh)
      have hr := trI_r (μ := tw 0 μ) (f := f)
      have hl := e8_lingers (f := f) (μ := tw 0 μ) h1.1
      obtain ⟨v, hv⟩ : ∃ v, v = (if σ 15 f = 0 ∧ trI (tw 0 μ) f ≠ 0 then 3 else σ 15 f) := ⟨_, rfl⟩
      have hvb : 0 ≤ v ∧ v ≤ 3 := by rw [hv]; split <;> omega
      refine ⟨v, σ, v, tw 0 μ, ?_, ?_, Or.inl (gx_0 (by omega)), by rw [gx_0 (by omega)]; exact tw_0, fun _ => rfl, iv_ok (B := 4000000 * (n : Int)) (by omega) (R_tw hh)⟩
      · unfold FX7_frame
        refine rgx_eq ?_ (Or.inr (by omega))
        rw [gd_pos hf, gd_pos hw, cb_e (x_dem h1), if_neg (by decide), gd_pos h1.1, if_pos rfl]
        simp only [bn]
        by_cases z : σ 15 f = 0
        · rw [if_pos z, cb_e hT, hv]
          by_cases z2 : trI (tw 0 μ) f = 0
          · rw [if_neg (fun q => q z2), if_neg (fun q => q.2 z2)]
          · rw [if_pos z2, if_pos ⟨z, z2⟩]
        · rw [if_neg z, hv, if_neg (fun q => z q.1)]
      · unfold FX8_frame
        refine rgd_eq ?_ (by omega) (by omega)
        rw [gd_pos hf, gd_pos hw, cb_e (q_1 h1), if_pos (by decide), if_pos rfl]
        simp only [bn]
        by_cases z : σ 15 f = 0
        · rw [if_pos (by rw [t121]; exact z)] at hl
          change FX8_lingers f (tw 0 μ) = some (trI (tw 0 μ) f, tw 0 μ) at hl
          rw [cb_e hl, hv]
          by_cases z2 : trI (tw 0 μ) f = 0
          · rw [if_neg (fun q => q z2), if_neg (fun q => q.2 z2), gd_pos h1.1, t121]
          · rw [if_pos z2, if_pos ⟨z, z2⟩]
        · rw [if_neg (by rw [t121]; exact z)] at hl
          rw [cb_e hl, if_neg (by decide), gd_pos h1.1, hv, if_neg (fun q => z q.1), t121]
    · by_cases hk : σ 15 f = 0
      · refine ⟨-1, σ, -1, tw 0 μ, ?_, ?_, Or.inl (gx_0 (by omega)), by rw [gx_0 (by omega)]; exact tw_0, fun _ => rfl, iv_ok (B := 4000000 * (n : Int)) (by omega) (R_tw hh)⟩
        · unfold FX7_frame
          refine rgx_eq ?_ (Or.inr (by omega))
          rw [gd_pos hf, gd_pos hw, cb_e (x_dem h1), if_neg (by decide), gd_pos h1.1, if_neg hw0]
          simp only [bn]
          rw [if_pos hk]
        · unfold FX8_frame
          refine rgd_eq ?_ (by omega) (by omega)
          rw [gd_pos hf, gd_pos hw, cb_e (q_1 h1), if_pos (by decide), if_neg hw0, gd_pos h1.1, t121, if_pos hk]
      · have hlist : 0 ≤ σ 17 f ∧ σ 17 f ≤ 1 := by
          obtain ⟨pos, hLp⟩ := hLs
          have := hLp.2.1 f h1.1.1 h1.1.2 hk
          omega
        have h20 : σ 20 f = cC (σ 9) 192 f := hhd.2.2.2.1 (by omega) hk
        have hcr := cC_r (c := σ 9) (n := 192) (f := f)
        have hen := P_ents h1.1 (R_tw (c := 0) hh)
        have hk12 : σ 15 f = 1 ∨ σ 15 f = 2 := by omega
        obtain ⟨v, hvb, h7, h8⟩ : ∃ v : Int, (-2147483648 ≤ v ∧ v ≤ 2147483647) ∧ FX2_number f w σ = some (v, σ) ∧ (if w = 1 then some (tw 0 μ 122 f, tw 0 μ) else if w = 2 then some (tw 0 μ 123 f, tw 0 μ) else if w = 3 then some ((if tw 0 μ 124 f ≠ 0 then 1 else 0 : Int), tw 0 μ) else if w = 4 then cb (FX8_entriesOf f (tw 0 μ)) fun r3 s4 => some (r3, s4) else if w = 5 then some (tw 0 μ 125 f, tw 0 μ) else if w = 6 then some ((if tw 0 μ 126 f ≠ 0 then 1 else 0 : Int), tw 0 μ) else gd ((¬ (tw 0 μ 121 f = 1)) → 0 ≤ tw 0 μ 127 f ∧ tw 0 μ 127 f ≤ 2147483647) <| some ((if tw 0 μ 121 f = 1 then (-1) else (10 * ((tw 0 μ 127 f) / 8)) + ((tw 0 μ 127 f) % 8) : Int), tw 0 μ)) = some (v, tw 0 μ) := by
          rw [t121, t122, t123, t124, t125, t126, t127]
          have hw7 : w = 1 ∨ w = 2 ∨ w = 3 ∨ w = 4 ∨ w = 5 ∨ w = 6 ∨ w = 7 := by omega
          rcases hw7 with z | z | z | z | z | z | z
          · refine ⟨σ 16 f, by omega, ?_, ?_⟩
            · unfold FX2_number
              refine rgd_eq ?_ (by omega) (by omega)
              rw [gd_pos h1.1, gd_pos h1.2, if_pos z]
            · rw [if_pos z]
          · refine ⟨σ 17 f, by omega, ?_, ?_⟩
            · unfold FX2_number
              refine rgd_eq ?_ (by omega) (by omega)
              rw [gd_pos h1.1, gd_pos h1.2, if_neg (by omega), if_pos z]
            · rw [if_neg (by omega), if_pos z]
          · refine ⟨(if σ 19 f ≠ 0 then 1 else 0), by split <;> omega, ?_, ?_⟩
            · unfold FX2_number
              refine rgd_eq ?_ (by split <;> omega) (by split <;> omega)
              rw [gd_pos h1.1, gd_pos h1.2, if_neg (show ¬ w = 1 by omega), if_neg (show ¬ w = 2 by omega), if_pos z]
            · rw [if_neg (show ¬ w = 1 by omega), if_neg (show ¬ w = 2 by omega), if_pos z]
          · refine ⟨σ 20 f, by omega, ?_, ?_⟩
            · unfold FX2_number
              refine rgd_eq ?_ (by omega) (by omega)
              rw [gd_pos h1.1, gd_pos h1.2, if_neg (show ¬ w = 1 by omega), if_neg (show ¬ w = 2 by omega), if_neg (show ¬ w = 3 by omega), if_pos z]
            · rw [if_neg (show ¬ w = 1 by omega), if_neg (show ¬ w = 2 by omega), if_neg (show ¬ w = 3 by omega), if_pos z, cb_e hen, h20]
          · refine ⟨σ 21 f, by omega, ?_, ?_⟩
            · unfold FX2_number
              refine rgd_eq ?_ (by omega) (by omega)
              rw [gd_pos h1.1, gd_pos h1.2, if_neg (show ¬ w = 1 by omega), if_neg (show ¬ w = 2 by omega), if_neg (show ¬ w = 3 by omega), if_neg (show ¬ w = 4 by omega), if_pos z]
            · rw [if_neg (show ¬ w = 1 by omega), if_neg (show ¬ w = 2 by omega), if_neg (show ¬ w = 3 by omega), if_neg (show ¬ w = 4 by omega), if_pos z]
          · refine ⟨(if μ 126 f ≠ 0 then 1 else 0), by split <;> omega, ?_, ?_⟩
            · unfold FX2_number
              refine rgd_eq ?_ (by split <;> omega) (by split <;> omega)
              rw [gd_pos h1.1, gd_pos h1.2, if_neg (show ¬ w = 1 by omega), if_neg (show ¬ w = 2 by omega), if_neg (show ¬ w = 3 by omega), if_neg (show ¬ w = 4 by omega), if_neg (show ¬ w = 5 by omega), if_pos z]
              have e1 : (if σ 15 f = 2 then σ 23 f else σ 22 f : Int) = μ 126 f := by
                rcases hk12 with z2 | z2
                · rw [if_neg (by omega)]
                  exact hfr.2.2.2.2.2.2.2.2.2.2.2.2.1 z2
                · rw [if_pos z2]
                  exact (hfr.2.2.2.2.2.2.2.2.2.2.2.2.2 z2).1
              rw [e1]
            · rw [if_neg (show ¬ w = 1 by omega), if_neg (show ¬ w = 2 by omega), if_neg (show ¬ w = 3 by omega), if_neg (show ¬ w = 4 by omega), if_neg (show ¬ w = 5 by omega), if_pos z]
          · rcases hk12 with z2 | z2
            · refine ⟨-1, by decide, ?_, ?_⟩
              · unfold FX2_number
                refine rgd_eq ?_ (by decide) (by decide)
                rw [gd_pos h1.1, gd_pos h1.2, if_neg (show ¬ w = 1 by omega), if_neg (show ¬ w = 2 by omega), if_neg (show ¬ w = 3 by omega), if_neg (show ¬ w = 4 by omega), if_neg (show ¬ w = 5 by omega), if_neg (show ¬ w = 6 by omega), if_neg (by omega)]
              · rw [if_neg (show ¬ w = 1 by omega), if_neg (show ¬ w = 2 by omega), if_neg (show ¬ w = 3 by omega), if_neg (show ¬ w = 4 by omega), if_neg (show ¬ w = 5 by omega), if_neg (show ¬ w = 6 by omega), gd_pos (fun q => absurd z2 q), if_pos z2]
            · have hkey := hfr.2.2.2.2.2.2.2.2.2.2.2.2.2 z2
              refine ⟨10 * σ 24 f + σ 25 f, by omega, ?_, ?_⟩
              · unfold FX2_number
                refine rgd_eq ?_ (by omega) (by omega)
                rw [gd_pos h1.1, gd_pos h1.2, if_neg (show ¬ w = 1 by omega), if_neg (show ¬ w = 2 by omega), if_neg (show ¬ w = 3 by omega), if_neg (show ¬ w = 4 by omega), if_neg (show ¬ w = 5 by omega), if_neg (show ¬ w = 6 by omega), if_pos z2]
              · rw [if_neg (show ¬ w = 1 by omega), if_neg (show ¬ w = 2 by omega), if_neg (show ¬ w = 3 by omega), if_neg (show ¬ w = 4 by omega), if_neg (show ¬ w = 5 by omega), if_neg (show ¬ w = 6 by omega), gd_pos (fun _ => by omega), if_neg (by omega)]
                congr 2
                omega
        refine ⟨v, σ, v, tw 0 μ, ?_, ?_, Or.inl (gx_0 (by omega)), by rw [gx_0 (by omega)]; exact tw_0, fun _ => rfl, iv_ok (B := 4000000 * (n : Int)) (by omega) (R_tw hh)⟩
        · unfold FX7_frame
          refine rgx_eq ?_ (Or.inr (by omega))
          rw [gd_pos hf, gd_pos hw, cb_e (x_dem h1), if_neg (by decide), gd_pos h1.1, if_neg hw0]
          simp only [bn]
          rw [if_neg hk, cb_e h7]
        · unfold FX8_frame
          refine rgd_eq ?_ (by omega) (by omega)
          rw [gd_pos hf, gd_pos hw, cb_e (q_1 h1), if_pos (by decide), if_neg hw0, gd_pos h1.1, if_neg (by rw [t121]; exact hk)]
          exact h8
  · refine ⟨-1000000000002, σ, 0, tw 1 μ, ?_, ?_, by decide, by rw [gx_2]; exact tw_0, fun z => absurd z (by decide), iv_th hI⟩
    · unfold FX7_frame
      refine rgx_eq ?_ (Or.inl (by decide))
      rw [gd_pos hf, gd_pos hw, cb_e (x_demN h1), if_pos (by decide)]
    · unfold FX8_frame
      refine rgd_eq ?_ (by decide) (by decide)
      rw [gd_pos hf, gd_pos hw, cb_e (q_1N h1), if_neg (by decide)]
