/-! addresses are mapped -/
def esC (e r f i h g : Int) (σ : S2) : S2 := sc (sc (sc (sc (sc (sc σ 2 (uc (σ 2) e 1)) 3 (uc (σ 3) e r)) 4 (uc (σ 4) e f)) 5 (uc (σ 5) e (if f = -1 then 0 else i))) 6 (uc (σ 6) e (if f ≠ -1 ∧ h ≠ 0 then 1 else 0))) 7 (uc (σ 7) e g)
theorem R_lay {x y B e r f i h' g : Int} {σ μ : S2} (he : 0 ≤ e ∧ e ≤ 191) (hr : 1 ≤ r ∧ r ≤ 3) (hf : -1 ≤ f ∧ f ≤ 2) (hi : f ≠ -1 → 0 ≤ i ∧ i ≤ 7) (hg : 0 ≤ g ∧ g ≤ 1) (h3 : σ 3 e = 0) (hmade : e < 32 * σ 41 0) (h : Rg x y B σ μ) : Rg x y B (esC e r f i h' g σ) (laM e r f i h' g μ) := by
  obtain ⟨⟨q102, q103, q106, q107, q108, q109, q110, q111, q116, q121, q122, q123, q124, q125, q130, q135, q140⟩, hSp, hMp, hPr, hHd, hFr, hLs, hBl, hWr, hC1, hC2, hC3, hRc, hRo, hSc, hSt, hBd⟩ := h
  have h8 := (hPr e he.1 he.2).2.1 h3
  have u8 : uc (σ 8) e 0 = σ 8 := uc_id h8
  unfold esC laM
  refine ⟨⟨?_, ?_, ?_, ?_, ?_, ?_, ?_, ?_, ?_, ?_, ?_, ?_, ?_, ?_, ?_, ?_, ?_⟩, ?_, ?_, ?_, ?_, ?_, ?_, ?_, ?_, ?_, ?_, ?_, ?_, ?_, ?_, ?_, ?_⟩
  all_goals (try simp (disch := decide) only [sc_s, sc_k, q102, q103, q106, q107, q108, q109, q110, q111, q116, q121, q122, q123, q124, q125, q130, q135, q140, u8])
  all_goals (try with_reducible assumption)
  · obtain ⟨a1, a2, a3, a4, a5, a6⟩ := hSp
    refine ⟨a1, a2, a3, a4, fun d d0 d1 => ?_, a6⟩
    rw [uc_n (by omega)]
    exact a5 d d0 d1
  · intro d d0 d1
    have h1 := hMp d d0 d1
    by_cases hd : d = e
    · subst hd
      simp only [uc_s]
      refine ⟨by omega, by omega, fun z => by omega, fun _ => ⟨trivial, trivial, trivial, trivial, trivial, hf.1, hf.2, ?_, ?_, ?_, ?_, hg.1, hg.2, fun z => ?_⟩⟩
      · split <;> omega
      · split <;> omega
      · split <;> omega
      · split <;> omega
      · rw [if_pos z, if_neg (fun w => w.1 z)]
        exact ⟨rfl, rfl⟩
    · simp only [uc_n hd]
      exact h1
  · intro d d0 d1
    have h1 := hPr d d0 d1
    by_cases hd : d = e
    · subst hd
      rw [uc_s, uc_s]
      exact ⟨h1.1, fun z => by omega, fun z => by omega, h1.2.2.2⟩
    · rw [uc_n hd, uc_n hd]
      exact h1
  · refine ⟨hBl.1, fun d d0 d1 => ?_, hBl.2.2⟩
    have h1 := hBl.2.1 d d0 d1
    by_cases hd : d = e
    · subst hd
      rw [uc_s]
      apply Classical.byContradiction
      intro q
      have := (hBl.2.2 d d0 d1 (fun z => q z.symm)).1
      omega
    · rw [uc_n hd]; exact h1
  · obtain ⟨a1, a2, a3, a4, a5, a6, a7, a8, a9, a10⟩ := hSc
    refine ⟨a1, a2, a3, a4, a5, a6, a7, a8, a9, fun d d0 d1 => ?_⟩
    have h1 := a10 d d0 d1
    refine ⟨h1.1, h1.2.1, h1.2.2.1, fun z => ?_⟩
    unfold uc
    split
    · omega
    · exact h1.2.2.2 z
theorem esC_k {e r f i h g : Int} {σ : S2} {k : Nat} (hk : k ∉ [2, 3, 4, 5, 6, 7]) : esC e r f i h g σ k = σ k := by
  simp only [List.mem_cons, List.not_mem_nil, or_false, not_or] at hk
  unfold esC
  simp only [sc, hk, if_false]
theorem made_lv {x y B s : Int} {σ μ : S2} (hs : 0 ≤ s ∧ s ≤ 5) (hl : σ 35 s ≠ 0) (h : Rg x y B σ μ) : s < σ 41 0 := by
  have h1 := h.2.1.2.2.2.1 s
  apply Classical.byContradiction
  intro q
  exact hl (h1 (by omega) hs.2)
theorem P_grow {x y B s a : Int} {σ μ : S2} (hs : 0 ≤ s ∧ s ≤ 5) (ha : 0 ≤ a ∧ a ≤ 31) (hl : σ 35 s ≠ 0) (h : Rg x y B σ μ) : ∃ s1 m1, FX8_growsDown s a μ = some (0, m1) ∧ Rg x y B s1 m1 ∧ ((σ 2 (32 * s + a) ≠ 0 ∧ s1 = σ) ∨ (σ 2 (32 * s + a) = 0 ∧ FX5_grow s a σ = some (1, s1) ∧ s1 3 (32 * s + a) ≠ 0) ∨ (σ 2 (32 * s + a) = 0 ∧ FX5_grow s a σ = some (0, s1) ∧ s1 = σ)) ∧ (∀ k, k ∉ [2, 3, 4, 5, 6, 7] → s1 k = σ k) ∧ m1 135 = μ 135 ∧ m1 139 = μ 139 ∧ m1 101 = μ 101 := by
  have hh := h
  obtain ⟨⟨q102, q103, q106, q107, q108, q109, q110, q111, q116, q121, q122, q123, q124, q125, q130, q135, q140⟩, hSp, hMp, hPr, hHd, hFr, hLs, hBl, hWr, hC1, hC2, hC3, hRc, hRo, hSc, hSt, hBd⟩ := h
  have hm := hMp (32 * s + a) (by omega) (by omega)
  have hmd := made_lv hs hl hh
  by_cases h31 : a = 31
  · -- there is none above it
    have h8 : FX8_growsDown s a μ = some (0, μ) := by
      unfold FX8_growsDown
      rw [gd_pos hs, gd_pos ha, gd_pos (by omega), gd_pos (fun z => by omega), gd_pos (fun z => by omega), gd_pos (fun z => by omega)]
      simp only [bn]
      rw [gd_pos (fun z => by omega), gd_pos (fun z => by omega), if_neg (fun z => by omega)]
    refine ⟨σ, μ, h8, hh, ?_, fun _ _ => rfl, rfl, rfl, rfl⟩
    by_cases h2 : σ 2 (32 * s + a) = 0
    · refine Or.inr (Or.inr ⟨h2, ?_, rfl⟩)
      unfold FX5_grow
      refine rgd_eq ?_ (by decide) (by decide)
      rw [gd_pos hs, gd_pos ha, if_pos (by omega)]
    · exact Or.inl ⟨h2, rfl⟩
  · have hu := hMp (32 * s + a + 1) (by omega) (by omega)
    have hb : 0 < a → (0 ≤ σ 3 (32 * s + a - 1) ∧ σ 3 (32 * s + a - 1) ≤ 3 ∧ (σ 3 (32 * s + a - 1) = 0 → σ 2 (32 * s + a - 1) = 0) ∧ (σ 3 (32 * s + a - 1) ≠ 0 → σ 2 (32 * s + a - 1) = 1)) := fun z => by
      have := hMp (32 * s + a - 1) (by omega) (by omega)
      exact ⟨this.1, this.2.1, this.2.2.1, fun w => (this.2.2.2 w).1⟩
    have e1 : 32 * s + (a + 1) = 32 * s + a + 1 := by omega
    have e2 : 32 * s + (a - 1) = 32 * s + a - 1 := by omega
    by_cases hcan : σ 3 (32 * s + a) = 0 ∧ σ 3 (32 * s + a + 1) ≠ 0 ∧ σ 7 (32 * s + a + 1) ≠ 0 ∧ (a = 0 ∨ σ 3 (32 * s + a - 1) = 0) ∧ (σ 4 (32 * s + a + 1) = -1 ∨ 0 < σ 5 (32 * s + a + 1))
    · have hu2 := hu.2.2.2 hcan.2.1
      have hR := R_lay (e := 32 * s + a) (r := σ 3 (32 * s + a + 1)) (f := σ 4 (32 * s + a + 1)) (i := σ 5 (32 * s + a + 1) - 1) (h' := σ 6 (32 * s + a + 1)) (g := 1) (by omega) (by omega) (by omega) (by omega) (by decide) hcan.1 (by omega) hh
      refine ⟨_, _, ?_, hR, Or.inr (Or.inl ⟨hm.2.2.1 hcan.1, ?_, ?_⟩), fun k hk => esC_k hk, ?_, ?_, ?_⟩
      · unfold FX8_growsDown
        rw [gd_pos hs, gd_pos ha, gd_pos (by omega), gd_pos (fun z => by omega), gd_pos (fun z => by omega), gd_pos (fun z => by omega)]
        simp only [bn]
        rw [gd_pos (fun z => by omega), gd_pos (fun z => by omega), q111, hu2.2.1, hu2.2.2.1, hu2.2.2.2.1, hu2.2.2.2.2.1, if_pos (by omega), gd_pos (by omega), cb_e (e8_lays (by omega) (by omega) (by omega) (by omega) (by omega) (by decide))]
      · unfold FX5_grow
        refine rgd_eq ?_ (by decide) (by decide)
        rw [gd_pos hs, gd_pos ha, if_neg (by omega), gd_pos (fun z => by omega), gd_pos (by omega), e1, e2, if_neg (by omega), cb_e (e7_est (by omega) (by omega) (by omega) (by omega) (by omega) (by decide))]
        rfl
      · unfold esC
        simp (disch := decide) only [sc_s, sc_k, uc_s]
        exact hcan.2.1
      · unfold laM; simp (disch := decide) only [sc_s, sc_k]
      · unfold laM; simp (disch := decide) only [sc_s, sc_k]
      · unfold laM; simp (disch := decide) only [sc_s, sc_k]
    · have h8 : FX8_growsDown s a μ = some (0, μ) := by
        unfold FX8_growsDown
        rw [gd_pos hs, gd_pos ha, gd_pos (by omega), gd_pos (fun z => by omega), gd_pos (fun z => by omega), gd_pos (fun z => by omega)]
        simp only [bn]
        rw [gd_pos (fun z => by omega), gd_pos (fun z => by omega), q111, if_neg]
        intro z
        by_cases hz : σ 3 (32 * s + a + 1) = 0
        · omega
        · have hu2 := hu.2.2.2 hz
          omega
      refine ⟨σ, μ, h8, hh, ?_, fun _ _ => rfl, rfl, rfl, rfl⟩
      by_cases h2 : σ 2 (32 * s + a) = 0
      · refine Or.inr (Or.inr ⟨h2, ?_, rfl⟩)
        unfold FX5_grow
        refine rgd_eq ?_ (by decide) (by decide)
        rw [gd_pos hs, gd_pos ha, if_neg (by omega), gd_pos (fun z => by omega), gd_pos (by omega), e1, e2, if_pos]
        have h30 : σ 3 (32 * s + a) = 0 := by
          apply Classical.byContradiction
          intro z
          have := (hm.2.2.2 z).1
          omega
        by_cases hz : σ 3 (32 * s + a + 1) = 0
        · have := hu.2.2.1 hz
          omega
        · have hu2 := hu.2.2.2 hz
          by_cases ha0 : 0 < a
          · have := hb ha0
            omega
          · omega
      · exact Or.inl ⟨h2, rfl⟩
/-- a page is touched -/
theorem P_touch {x y B f v st w : Int} {σ μ : S2} (hf : 0 ≤ f ∧ f ≤ 23) (hv : (v = -1 ∧ st = 0 ∧ w = 0) ∨ (0 ≤ v ∧ v ≤ 99999 ∧ st = 1 ∧ w = v)) (hk : σ 15 f ≠ 0) (h : Rg x y B σ μ) : ∃ r s1 m1, FX7_touch f v σ = some (r, s1) ∧ FX8_takesValue f st w μ = some (r, m1) ∧ Rg x y B s1 m1 ∧ 0 ≤ r ∧ r ≤ 99999 ∧ m1 101 = μ 101 := by
  have hh := h
  obtain ⟨⟨q102, q103, q106, q107, q108, q109, q110, q111, q116, q121, q122, q123, q124, q125, q130, q135, q140⟩, hSp, hMp, hPr, hHd, hFr, hLs, hBl, hWr, hC1, hC2, hC3, hRc, hRo, hSc, hSt, hBd⟩ := h
  have hfr := hFr.1 f hf.1 hf.2
  have hhd := hHd f hf.1 hf.2
  have e122 : μ 122 f = σ 16 f := by rw [q122]
  have e121 : μ 121 f = σ 15 f := by rw [q121]
  rcases hv with ⟨v1, v2, v3⟩ | ⟨v1, v2, v3, v4⟩
  · subst v1 v2 v3
    refine ⟨σ 16 f, sc σ 19 (uc (σ 19) f 1), sc μ 124 (uc (μ 124) f 1), ?_, ?_, ?_, hfr.1, hfr.2.1, by simp (disch := decide) only [sc_s, sc_k]⟩
    · unfold FX7_touch
      refine rgd_eq ?_ (by omega) (by omega)
      rw [gd_pos hf, gd_pos (by decide)]
      simp (disch := decide) only [bn, u2_sc]
      rw [if_neg (fun z => z rfl)]
    · unfold FX8_takesValue
      refine rgd_eq ?_ (by omega) (by omega)
      rw [gd_pos hf, gd_pos (by decide), gd_pos (by decide)]
      simp (disch := decide) only [bn, u2_sc, sc_s, sc_k]
      rw [if_neg (fun z => z rfl), uc_id rfl, if_neg (fun z => z.1 rfl)]
      have h0 := (zor0 _ (zm2 (show 0 ≤ μ 126 f ∧ μ 126 f ≤ 1 by omega))).2.1
      rw [h0, uc_id rfl, e122]
      congr 2
      funext k
      by_cases h122 : k = 122
      · subst h122; simp (disch := decide) only [sc_s, sc_k]
      by_cases h124 : k = 124
      · subst h124; simp (disch := decide) only [sc_s, sc_k]
      by_cases h126 : k = 126
      · subst h126; simp (disch := decide) only [sc_s, sc_k]
      simp only [sc, h122, h124, h126, if_false]
    · refine ⟨⟨?_, ?_, ?_, ?_, ?_, ?_, ?_, ?_, ?_, ?_, ?_, ?_, ?_, ?_, ?_, ?_, ?_⟩, ?_, ?_, ?_, ?_, ?_, ?_, ?_, ?_, ?_, ?_, ?_, ?_, ?_, ?_, ?_, ?_⟩
      all_goals (try simp (disch := decide) only [sc_s, sc_k, q102, q103, q106, q107, q108, q109, q110, q111, q116, q121, q122, q123, q124, q125, q130, q135, q140])
      all_goals (try with_reducible assumption)
      refine ⟨fun d d0 d1 => ?_, hFr.2⟩
      have h1 := hFr.1 d d0 d1
      refine ⟨h1.1, h1.2.1, ?_, ?_, h1.2.2.2.2⟩
      · unfold uc; split <;> omega
      · unfold uc; split <;> omega
  · subst v3
    have v4' := v4.symm
    subst v4'
    have hor : gOr (μ 126 f) (if σ 15 f = 2 then 1 else 0) = if σ 15 f = 2 then 1 else μ 126 f := zor1 _ (by omega)
    refine ⟨σ 16 f, sc (sc (sc σ 19 (uc (σ 19) f 1)) 16 (uc (σ 16) f v)) 23 (uc (σ 23) f (if σ 15 f = 2 then 1 else 0)), sc (sc (sc μ 124 (uc (μ 124) f 1)) 122 (uc (μ 122) f v)) 126 (uc (μ 126) f (if σ 15 f = 2 then 1 else μ 126 f)), ?_, ?_, ?_, hfr.1, hfr.2.1, by simp (disch := decide) only [sc_s, sc_k]⟩
    · unfold FX7_touch
      refine rgd_eq ?_ (by omega) (by omega)
      rw [gd_pos hf, gd_pos (by omega)]
      simp (disch := decide) only [bn, u2_sc, sc_s, sc_k]
      rw [if_pos (show v ≠ -1 by omega)]
    · unfold FX8_takesValue
      refine rgd_eq ?_ (by omega) (by omega)
      rw [gd_pos hf, gd_pos (by decide), gd_pos ⟨v1, v2⟩]
      simp (disch := decide) only [bn, u2_sc, sc_s, sc_k]
      have hite : (if ((1 : Int) ≠ 0) ∧ (μ 121 f = 2) then 1 else 0 : Int) = (if σ 15 f = 2 then 1 else 0) := by
        rw [e121]
        by_cases h2 : σ 15 f = 2
        · rw [if_pos h2, if_pos ⟨by decide, h2⟩]
        · rw [if_neg h2, if_neg (fun z => h2 z.2)]
      rw [if_pos (show (1 : Int) ≠ 0 by decide), hite, hor, e122]
    · refine ⟨⟨?_, ?_, ?_, ?_, ?_, ?_, ?_, ?_, ?_, ?_, ?_, ?_, ?_, ?_, ?_, ?_, ?_⟩, ?_, ?_, ?_, ?_, ?_, ?_, ?_, ?_, ?_, ?_, ?_, ?_, ?_, ?_, ?_, ?_⟩
      all_goals (try simp (disch := decide) only [sc_s, sc_k, q102, q103, q106, q107, q108, q109, q110, q111, q116, q121, q122, q123, q124, q125, q130, q135, q140])
      all_goals (try with_reducible assumption)
      refine ⟨fun d d0 d1 => ?_, hFr.2⟩
      have h1 := hFr.1 d d0 d1
      by_cases hd : d = f
      · subst hd
        simp only [uc_s]
        by_cases h2 : σ 15 d = 2
        · rw [if_pos h2, if_pos h2]
          have h3 := h1.2.2.2.2.2.2.2.2.2.2.2.2.2 h2
          exact ⟨v1, v2, by omega, by omega, h1.2.2.2.2.1, h1.2.2.2.2.2.1, h1.2.2.2.2.2.2.1, h1.2.2.2.2.2.2.2.1, by omega, by omega, by omega, by omega, fun z => by omega, fun _ => ⟨rfl, h3.2⟩⟩
        · rw [if_neg h2, if_neg h2]
          exact ⟨v1, v2, by omega, by omega, h1.2.2.2.2.1, h1.2.2.2.2.2.1, h1.2.2.2.2.2.2.1, h1.2.2.2.2.2.2.2.1, by omega, by omega, h1.2.2.2.2.2.2.2.2.2.2.1, h1.2.2.2.2.2.2.2.2.2.2.2.1, h1.2.2.2.2.2.2.2.2.2.2.2.2.1, fun z => absurd z h2⟩
      · simp only [uc_n hd]
        exact h1
theorem R_cnt {x y B k : Int} {σ μ : S2} (h : Rg x y B σ μ) : Rg x y (B + 1) (sc σ 48 (uc (σ 48) k (σ 48 k + 1))) (sc μ 140 (uc (μ 140) k (μ 140 k + 1))) := by
  have hBd := h.2.2.2.2.2.2.2.2.2.2.2.2.2.2.2.2
  have q140 : μ 140 = σ 48 := h.1.2.2.2.2.2.2.2.2.2.2.2.2.2.2.2.2
  rw [q140]
  exact R_cs (by omega) (fun j j0 j1 => by
    have := hBd.2.2.2.2 j j0 j1
    unfold uc
    split
    · rename_i z; subst z; omega
    · omega) h
