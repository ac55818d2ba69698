/-! an address is unmapped; a space ends -/
theorem m_Sc_fg {c42 c43 c12 c3 d3 m104 m105 m141 : Int → Int} {e : Int} (he : 0 ≤ e ∧ e ≤ 191) (h3 : ∀ d, d ≠ e → d3 d = c3 d) (h : rSc c42 c43 c12 c3 m104 m105 m141) : rSc c42 c43 (uc c12 e 0) d3 m104 m105 (fg e (m105 0) m141) := by
  obtain ⟨a1, a2, a3, a4, a5, a6, a7, a8, a9, a10⟩ := h
  have hfg : ∀ k, 0 ≤ k → k < m105 0 → (m141 k = e ∧ fg e (m105 0) m141 k = -1) ∨ (m141 k ≠ e ∧ fg e (m105 0) m141 k = m141 k) := by
    intro k k0 k1
    by_cases hk : m141 k = e
    · exact Or.inl ⟨hk, if_pos ⟨k0, k1, hk⟩⟩
    · exact Or.inr ⟨hk, if_neg (fun q => hk q.2.2)⟩
  refine ⟨a1, a2, a3, a4, a5, a6, a7, fun k k0 k1 => ?_, fun j k j0 j1 k1 => ?_, fun d d0 d1 => ?_⟩
  · have := hfg k k0 k1
    have := a8 k k0 k1
    omega
  · have h1 := hfg k (by omega) k1
    have h2 := hfg j j0 (by omega)
    have h3 := a9 j k j0 j1 k1
    have h4 := a8 k (by omega) k1
    have h5 := a8 j j0 (by omega)
    omega
  · have h1 := a10 d d0 d1
    by_cases hd : d = e
    · subst hd
      rw [uc_s]
      refine ⟨by decide, by decide, ⟨fun q => absurd rfl q, ?_⟩, fun q => absurd rfl q⟩
      rintro ⟨k, k0, k1, k2⟩
      have := hfg k k0 k1
      omega
    · rw [uc_n hd, h3 d hd]
      refine ⟨h1.1, h1.2.1, h1.2.2.1.trans ⟨?_, ?_⟩, h1.2.2.2⟩
      · rintro ⟨k, k0, k1, k2⟩
        have := hfg k k0 k1
        exact ⟨k, k0, k1, by omega⟩
      · rintro ⟨k, k0, k1, k2⟩
        have := hfg k k0 k1
        exact ⟨k, k0, k1, by omega⟩
def clC (e : Int) (σ : S2) : S2 := abC e (sc (sc (sc (sc (sc (sc (sc σ 2 (uc (σ 2) e 0)) 3 (uc (σ 3) e 0)) 4 (uc (σ 4) e (-1))) 5 (uc (σ 5) e 0)) 6 (uc (σ 6) e 0)) 7 (uc (σ 7) e 0)) 12 (uc (σ 12) e 0))
theorem m_Sp_0 {c41 c33 c34 c35 c36 c47 c3 : Int → Int} {e : Int} (h : rSp c41 c33 c34 c35 c36 c47 c3) : rSp c41 c33 c34 c35 c36 c47 (uc c3 e 0) := by
  obtain ⟨a1, a2, a3, a4, a5, a6⟩ := h
  refine ⟨a1, a2, a3, a4, fun d d0 d1 => ?_, a6⟩
  have := a5 d d0 d1
  unfold uc
  split
  · rfl
  · exact this
theorem R_clr {x y B e : Int} {σ μ : S2} (he : 0 ≤ e ∧ e ≤ 191) (h8 : σ 8 e = 0) (h : Rg x y B σ μ) : Rg x y B (clC e σ) (sc (sc μ 111 (uc (μ 111) e 0)) 141 (fg e (μ 105 0) (μ 141))) := by
  obtain ⟨⟨q102, q103, q106, q107, q108, q109, q110, q111, q116, q121, q122, q123, q124, q125, q130, q135, q140⟩, hSp, hMp, hPr, hHd, hFr, hLs, hBl, hWr, hC1, hC2, hC3, hRc, hRo, hSc, hSt, hBd⟩ := h
  have hp := hPr e he.1 he.2
  have hp0 := hp.2.2.2.1 (by omega)
  have hp1 := hp.2.2.2.2.2 (by omega)
  have u8 : uc (σ 8) e 0 = σ 8 := uc_id h8
  have u9 : uc (σ 9) e (-1) = σ 9 := uc_id hp0.1
  have u10 : uc (σ 10) e 0 = σ 10 := uc_id hp0.2
  have u11 : uc (σ 11) e (-1) = σ 11 := uc_id hp1
  have hSp2 := m_Sp_0 (e := e) hSp
  have hSc2 := m_Sc_fg (d3 := uc (σ 3) e 0) he (fun d hd => uc_n hd) hSc
  unfold clC abC
  refine ⟨⟨?_, ?_, ?_, ?_, ?_, ?_, ?_, ?_, ?_, ?_, ?_, ?_, ?_, ?_, ?_, ?_, ?_⟩, ?_, ?_, ?_, ?_, ?_, ?_, ?_, ?_, ?_, ?_, ?_, ?_, ?_, ?_, ?_, ?_⟩
  all_goals (try simp (disch := decide) only [sc_s, sc_k, q102, q103, q106, q107, q108, q109, q110, q111, q116, q121, q122, q123, q124, q125, q130, q135, q140, u8, u9, u10, u11])
  all_goals (try with_reducible assumption)
  · intro d d0 d1
    have h1 := hMp d d0 d1
    by_cases hd : d = e
    · subst hd
      simp only [uc_s]
      exact ⟨by decide, by decide, fun _ => trivial, fun q => absurd rfl q⟩
    · simp only [uc_n hd]
      exact h1
  · intro d d0 d1
    have h1 := hPr d d0 d1
    by_cases hd : d = e
    · subst hd
      exact ⟨h1.1, fun _ => h8, h1.2.2⟩
    · rw [uc_n hd]
      exact h1
def UF (e : Int) (σ μ s1 m1 : S2) : Prop := (∀ k, k ∉ [2, 3, 4, 5, 6, 7, 8, 9, 10, 11, 12, 14, 15, 20, 30, 31, 46, 49] → s1 k = σ k) ∧ (∀ k, k ∉ [111, 116, 120, 121, 128, 129, 132, 139, 141] → m1 k = μ k) ∧ (∀ d, d ≠ e → s1 2 d = σ 2 d ∧ s1 3 d = σ 3 d ∧ s1 4 d = σ 4 d ∧ s1 5 d = σ 5 d ∧ s1 6 d = σ 6 d ∧ s1 7 d = σ 7 d ∧ s1 8 d = σ 8 d ∧ s1 9 d = σ 9 d ∧ s1 10 d = σ 10 d ∧ s1 11 d = σ 11 d) ∧ s1 3 e = 0 ∧ ∀ f, s1 15 f = σ 15 f ∨ s1 15 f = 0
theorem P_unm {B e : Int} {σ μ : S2} (he : 0 ≤ e ∧ e ≤ 191) (h : Rg (-1) (-1) B σ μ) : ∃ s1 m1, FX7_remove e σ = some (0, s1) ∧ FX8_unmaps e μ = some (0, m1) ∧ Rg (-1) (-1) B s1 m1 ∧ UF e σ μ s1 m1 := by
  obtain ⟨s, m, a1, a2, a3, a4, a5⟩ := R_leave he h
  have hh := h
  obtain ⟨⟨q102, q103, q106, q107, q108, q109, q110, q111, q116, q121, q122, q123, q124, q125, q130, q135, q140⟩, hSp, hMp, hPr, hHd, hFr, hLs, hBl, hWr, hC1, hC2, hC3, hRc, hRo, hSc, hSt, hBd⟩ := h
  have hm := hMp e he.1 he.2
  have hp := hPr e he.1 he.2
  have hsc := hSc
  have h105 : 0 ≤ μ 105 0 ∧ μ 105 0 ≤ 192 := by
    obtain ⟨b1, b2, b3, b4, b5, b6, b7, b8⟩ := hsc
    omega
  have m105 : m 105 = μ 105 := a4.2.1 105 (by decide)
  by_cases h3 : σ 3 e = 0
  · -- nothing there
    have h8 := hp.2.1 h3
    have hl := e8_leaves0 (μ := μ) he (by rw [q116]; omega) (by rw [q116]; omega)
    rw [lbM_0 (by rw [q116]; exact h8)] at hl
    have h12 : σ 12 e = 0 := by
      have := (hSc.2.2.2.2.2.2.2.2.2 e he.1 he.2).2.2.2
      apply Classical.byContradiction
      intro q
      exact this q h3
    refine ⟨σ, sc (sc (sc μ 120 (ub e (μ 120))) 111 (uc (μ 111) e 0)) 141 (fg e (μ 105 0) (μ 141)), ?_, ?_, ?_, ?_⟩
    · unfold FX7_remove
      rw [gd_pos he]
      simp only [bn]
      rw [if_neg (fun q => q (hm.2.2.1 h3))]
    · unfold FX8_unmaps
      rw [gd_pos he, cb_e hl]
      simp (disch := decide) only [bn, u2_sc, sc_s, sc_k]
      rw [cb_e (e8_forgets he (by simp (disch := decide) only [sc_s, sc_k]; exact h105))]
      simp (disch := decide) only [sc_s, sc_k]
    · have hSc2 := m_Sc_fg (d3 := σ 3) he (fun _ _ => rfl) hSc
      rw [uc_id h12] at hSc2
      have u3 : uc (σ 3) e 0 = σ 3 := uc_id h3
      refine ⟨⟨?_, ?_, ?_, ?_, ?_, ?_, ?_, ?_, ?_, ?_, ?_, ?_, ?_, ?_, ?_, ?_, ?_⟩, ?_, ?_, ?_, ?_, ?_, ?_, ?_, ?_, ?_, ?_, ?_, ?_, ?_, ?_, ?_, ?_⟩
      all_goals (try simp (disch := decide) only [sc_s, sc_k, q102, q103, q106, q107, q108, q109, q110, q111, q116, q121, q122, q123, q124, q125, q130, q135, q140, u3])
      all_goals (try with_reducible assumption)
      refine ⟨hBl.1, fun d d0 d1 => ?_, hBl.2.2⟩
      have h1 := hBl.2.1 d d0 d1
      unfold ub
      split
      · have h2 : d / 4 = e / 4 := by omega
        rw [h2]
        apply Classical.byContradiction
        intro q
        have := (hBl.2.2 e he.1 he.2 (fun w => q w.symm)).1
        omega
      · exact h1
    · refine ⟨fun _ _ => rfl, ?_, fun _ _ => ⟨rfl, rfl, rfl, rfl, rfl, rfl, rfl, rfl, rfl, rfl⟩, h3, fun _ => Or.inl rfl⟩
      intro k hk
      simp only [List.mem_cons, List.not_mem_nil, or_false, not_or] at hk
      simp only [sc, hk, if_false]
  · have s8 : s 8 e = 0 := by rw [a4.2.2.1, uc_s]
    have hR := R_clr he s8 a3
    rw [m105] at hR
    refine ⟨clC e s, _, ?_, ?_, hR, ?_⟩
    · unfold FX7_remove
      rw [gd_pos he]
      simp only [bn]
      rw [if_pos (by have := (hm.2.2.2 h3).1; omega), cb_e a1, cb_e (e7_clear he)]
      rfl
    · unfold FX8_unmaps
      rw [gd_pos he, cb_e a2]
      simp (disch := decide) only [bn, u2_sc, sc_s, sc_k]
      rw [cb_e (e8_forgets he (by simp (disch := decide) only [sc_s, sc_k]; rw [m105]; exact h105))]
      simp (disch := decide) only [sc_s, sc_k, m105]
    · have hs8 : s 8 = uc (σ 8) e 0 := a4.2.2.1
      have hs9 : s 9 = uc (σ 9) e (-1) := a4.2.2.2.1
      have hs10 : s 10 = uc (σ 10) e 0 := a4.2.2.2.2.1
      have hs11 : s 11 = uc (σ 11) e (-1) := a4.2.2.2.2.2.1
      refine ⟨?_, ?_, ?_, ?_, ?_⟩
      · intro k hk
        simp only [List.mem_cons, List.not_mem_nil, or_false, not_or] at hk
        unfold clC abC
        simp only [sc, hk, if_false]
        refine a4.1 k ?_
        simp only [List.mem_cons, List.not_mem_nil, or_false, not_or]
        omega
      · intro k hk
        simp only [List.mem_cons, List.not_mem_nil, or_false, not_or] at hk
        simp only [sc, hk, if_false]
        refine a4.2.1 k ?_
        simp only [List.mem_cons, List.not_mem_nil, or_false, not_or]
        omega
      · intro d hd
        unfold clC abC
        simp (disch := decide) only [sc_s, sc_k]
        simp only [uc_n hd]
        rw [hs8, hs9, hs10, hs11, a4.1 2 (by decide), a4.1 3 (by decide), a4.1 4 (by decide), a4.1 5 (by decide), a4.1 6 (by decide), a4.1 7 (by decide)]
        simp only [uc_n hd]
        exact ⟨trivial, trivial, trivial, trivial, trivial, trivial, trivial, trivial, trivial, trivial⟩
      · unfold clC abC
        simp (disch := decide) only [sc_s, sc_k, uc_s]
      · intro f
        have h1 := a4.2.2.2.2.2.2 f
        unfold clC abC
        simp (disch := decide) only [sc_s, sc_k]
        omega
/-- a space ends -/
def BF (s : Int) (σ μ s1 m1 : S2) : Prop := (∀ k, k ∉ [2, 3, 4, 5, 6, 7, 8, 9, 10, 11, 12, 14, 15, 20, 30, 31, 35, 46, 49] → s1 k = σ k) ∧ (∀ k, k ∉ [106, 111, 116, 120, 121, 128, 129, 132, 139, 141] → m1 k = μ k) ∧ (∀ d, ¬ (32 * s ≤ d ∧ d < 32 * s + 32) → s1 2 d = σ 2 d ∧ s1 3 d = σ 3 d ∧ s1 4 d = σ 4 d ∧ s1 5 d = σ 5 d ∧ s1 6 d = σ 6 d ∧ s1 7 d = σ 7 d ∧ s1 8 d = σ 8 d ∧ s1 9 d = σ 9 d ∧ s1 10 d = σ 10 d ∧ s1 11 d = σ 11 d) ∧ (∀ d, 32 * s ≤ d → d < 32 * s + 32 → s1 3 d = 0) ∧ (∀ f, s1 15 f = σ 15 f ∨ s1 15 f = 0) ∧ s1 35 = uc (σ 35) s 0
theorem P_bury {B s : Int} {σ μ : S2} (hs : 0 ≤ s ∧ s ≤ 5) (h : Rg (-1) (-1) B σ μ) : ∃ s1 m1, FX7_bury s σ = some (0, s1) ∧ FX8_ends s μ = some (0, m1) ∧ Rg (-1) (-1) B s1 m1 ∧ BF s σ μ s1 m1 := by
  obtain ⟨S, M, hS0, hM0, hJ, hT⟩ := chain (J := fun j a b => Rg (-1) (-1) B a b ∧ (∀ k, k ∉ [2, 3, 4, 5, 6, 7, 8, 9, 10, 11, 12, 14, 15, 20, 30, 31, 46, 49] → a k = σ k) ∧ (∀ k, k ∉ [111, 116, 120, 121, 128, 129, 132, 139, 141] → b k = μ k) ∧ (∀ d : Int, ¬ (32 * s ≤ d ∧ d < 32 * s + j) → a 2 d = σ 2 d ∧ a 3 d = σ 3 d ∧ a 4 d = σ 4 d ∧ a 5 d = σ 5 d ∧ a 6 d = σ 6 d ∧ a 7 d = σ 7 d ∧ a 8 d = σ 8 d ∧ a 9 d = σ 9 d ∧ a 10 d = σ 10 d ∧ a 11 d = σ 11 d) ∧ (∀ d : Int, 32 * s ≤ d → d < 32 * s + j → a 3 d = 0) ∧ ∀ f, a 15 f = σ 15 f ∨ a 15 f = 0)
    (T := fun j a b a' b' => FX7_remove (32 * s + j) a = some (0, a') ∧ FX8_unmaps (32 * s + j) b = some (0, b')) 32 (by
    rintro j a b hj ⟨h1, h2, h3, h4, h5, h6⟩
    obtain ⟨a', b', c1, c2, c3, d1, d2, d3, d4, d5⟩ := P_unm (e := 32 * s + j) (by omega) h1
    refine ⟨a', b', ⟨c1, c2⟩, c3, ?_, ?_, ?_, ?_, ?_⟩
    · intro k hk
      rw [d1 k hk, h2 k hk]
    · intro k hk
      rw [d2 k hk, h3 k hk]
    · intro d hd
      have g1 := d3 d (by omega)
      have g2 := h4 d (by omega)
      omega
    · intro d q1 q2
      by_cases hd : d = 32 * s + j
      · rw [hd]; exact d4
      · rw [(d3 d hd).2.1]; exact h5 d q1 (by omega)
    · intro f
      have g1 := d5 f
      have g2 := h6 f
      omega) σ μ ⟨h, fun _ _ => rfl, fun _ _ => rfl, fun _ _ => ⟨rfl, rfl, rfl, rfl, rfl, rfl, rfl, rfl, rfl, rfl⟩, fun d q1 q2 => by omega, fun _ => Or.inl rfl⟩
  obtain ⟨h1, h2, h3, h4, h5, h6⟩ := hJ 32 (Nat.le_refl _)
  refine ⟨sc (S 32) 35 (uc (S 32 35) s 0), sc (M 32) 106 (uc (M 32 106) s 0), ?_, ?_, ?_, ?_, ?_, ?_, ?_, ?_, ?_⟩
  · unfold FX7_bury
    rw [gd_pos hs, ← hS0]
    refine run1 (N := 32) (x0 := 0) (by decide) ?_ ?_
    · intro k j hj
      rw [Int.zero_add, if_pos (by omega), cb_e (hT j hj).1]
    · intro k
      rw [if_neg (by decide)]
      simp only [bn]
      rw [u2_sc]
  · unfold FX8_ends
    rw [gd_pos hs, ← hM0]
    refine run1 (N := 32) (x0 := 0) (by decide) ?_ ?_
    · intro k j hj
      rw [Int.zero_add, if_pos (by omega), cb_e (hT j hj).2]
    · intro k
      rw [if_neg (by decide)]
      simp only [bn]
      rw [u2_sc]
  · generalize S 32 = σ at h1
    generalize M 32 = μ at h1
    have h := h1
    obtain ⟨⟨q102, q103, q106, q107, q108, q109, q110, q111, q116, q121, q122, q123, q124, q125, q130, q135, q140⟩, hSp, hMp, hPr, hHd, hFr, hLs, hBl, hWr, hC1, hC2, hC3, hRc, hRo, hSc, hSt, hBd⟩ := h
    refine ⟨⟨?_, ?_, ?_, ?_, ?_, ?_, ?_, ?_, ?_, ?_, ?_, ?_, ?_, ?_, ?_, ?_, ?_⟩, ?_, ?_, ?_, ?_, ?_, ?_, ?_, ?_, ?_, ?_, ?_, ?_, ?_, ?_, ?_, ?_⟩
    all_goals (try simp (disch := decide) only [sc_s, sc_k, q102, q103, q106, q107, q108, q109, q110, q111, q116, q121, q122, q123, q124, q125, q130, q135, q140])
    all_goals (try with_reducible assumption)
    obtain ⟨a1, a2, a3, a4, a5, a6⟩ := hSp
    refine ⟨a1, a2, fun t t0 t1 => ?_, fun t t0 t1 => ?_, a5, a6⟩
    · have := a3 t t0 t1
      unfold uc
      split <;> omega
    · have := a4 t t0 t1
      unfold uc
      split <;> omega
  · intro k hk
    simp only [List.mem_cons, List.not_mem_nil, or_false, not_or] at hk
    simp only [sc, hk, if_false]
    refine h2 k ?_
    simp only [List.mem_cons, List.not_mem_nil, or_false, not_or]
    omega
  · intro k hk
    simp only [List.mem_cons, List.not_mem_nil, or_false, not_or] at hk
    simp only [sc, hk, if_false]
    refine h3 k ?_
    simp only [List.mem_cons, List.not_mem_nil, or_false, not_or]
    omega
  · intro d hd
    simp (disch := decide) only [sc_s, sc_k]
    exact h4 d hd
  · intro d q1 q2
    simp (disch := decide) only [sc_s, sc_k]
    exact h5 d q1 q2
  · intro f
    simp (disch := decide) only [sc_s, sc_k]
    exact h6 f
  · simp (disch := decide) only [sc_s, sc_k]
    rw [h2 35 (by decide)]
