/-! an entry leaves what it has -/
theorem lbC_0 {e : Int} {σ : S2} (h8 : σ 8 e = 0) (h9 : σ 9 e = -1) (h10 : σ 10 e = 0) (h11 : σ 11 e = -1) : lbC e σ = sc σ 46 (uc (σ 46) (e / 4) 0) := by
  unfold lbC abC tl
  rw [if_neg (by omega), sc_nop (σ := σ) (k := 14) rfl]
  simp (disch := decide) only [sc_s, sc_k]
  rw [uc_id h8, uc_id h9, uc_id h10, uc_id h11, sc_nop (k := 8), sc_nop (k := 9), sc_nop (k := 10), sc_nop (k := 11)]
  all_goals simp (disch := decide) only [sc_s, sc_k]
theorem lbM_0 {e : Int} {μ : S2} (h8 : μ 116 e = 0) : lbM e μ = sc μ 120 (ub e (μ 120)) := by
  unfold lbM
  rw [uc_id h8, sc_nop rfl]
theorem R_unb {x y B e : Int} {σ μ : S2} (he : 0 ≤ e ∧ e ≤ 191) (h : Rg x y B σ μ) : Rg x y B (sc σ 46 (uc (σ 46) (e / 4) 0)) (sc μ 120 (ub e (μ 120))) := by
  obtain ⟨⟨q102, q103, q106, q107, q108, q109, q110, q111, q116, q121, q122, q123, q124, q125, q130, q135, q140⟩, hSp, hMp, hPr, hHd, hFr, hLs, hBl, hWr, hC1, hC2, hC3, hRc, hRo, hSc, hSt, hBd⟩ := h
  refine ⟨⟨?_, ?_, ?_, ?_, ?_, ?_, ?_, ?_, ?_, ?_, ?_, ?_, ?_, ?_, ?_, ?_, ?_⟩, ?_, ?_, ?_, ?_, ?_, ?_, ?_, ?_, ?_, ?_, ?_, ?_, ?_, ?_, ?_, ?_⟩
  all_goals (try simp (disch := decide) only [sc_s, sc_k])
  all_goals (try with_reducible assumption)
  exact m_Bl_unb hBl
theorem R_lv0 {x y B e : Int} {σ μ : S2} (he : 0 ≤ e ∧ e ≤ 191) (h8 : σ 8 e = 0) (h : Rg x y B σ μ) : FX7_leave e σ = some (0, lbC e σ) ∧ FX8_leaves e μ = some (0, lbM e μ) ∧ Rg x y B (lbC e σ) (lbM e μ) := by
  have h2 := h
  obtain ⟨⟨q102, q103, q106, q107, q108, q109, q110, q111, q116, q121, q122, q123, q124, q125, q130, q135, q140⟩, hSp, hMp, hPr, hHd, hFr, hLs, hBl, hWr, hC1, hC2, hC3, hRc, hRo, hSc, hSt, hBd⟩ := h
  have hp := hPr e he.1 he.2
  have h116 : μ 116 e = 0 := by rw [q116]; exact h8
  refine ⟨e7_leave0 he (hp.2.2.2.1 (by omega)).1 (hp.2.2.2.2.2 (by omega)), e8_leaves0 he (by omega) (by omega), ?_⟩
  rw [lbC_0 h8 (hp.2.2.2.1 (by omega)).1 (hp.2.2.2.1 (by omega)).2 (hp.2.2.2.2.2 (by omega)), lbM_0 h116]
  exact R_unb he h2
theorem R_lv1 {B e p : Int} {σ μ : S2} (he : 0 ≤ e ∧ e ≤ 191) (h8 : σ 8 e = 1) (h9 : σ 9 e = p) (h : Rg (-1) (-1) B σ μ) : FX7_leave e σ = some (0, sc (sc (lbC e σ) 20 (uc (σ 20) p (σ 20 p - 1))) 15 (l15 p σ)) ∧ ∃ m1, FX8_leaves e μ = some (0, m1) ∧ Rg (-1) (-1) B (sc (sc (lbC e σ) 20 (uc (σ 20) p (σ 20 p - 1))) 15 (l15 p σ)) m1 ∧ ∀ k, k ∉ [116, 120, 121, 128, 129, 139] → m1 k = μ k := by
  obtain ⟨⟨q102, q103, q106, q107, q108, q109, q110, q111, q116, q121, q122, q123, q124, q125, q130, q135, q140⟩, hSp, hMp, hPr, hHd, hFr, hLs, hBl, hWr, hC1, hC2, hC3, hRc, hRo, hSc, hSt, hBd⟩ := h
  have hp := hPr e he.1 he.2
  have hp1 := hp.2.2.1 h8
  have hp23 : 0 ≤ p ∧ p ≤ 23 := by omega
  have h117 : μ 117 e = p := by omega
  have h116 : μ 116 e = 1 := by rw [q116]; exact h8
  have hd := hHd p hp23.1 hp23.2
  have hc1 := cC_pos (c := σ 9) (n := 192) he.1 (by omega) h9
  have hk0 : σ 15 p ≠ 0 := fun q => by have := hd.2.2.1 q; omega
  have h20 := hd.2.2.2.1 (by omega) hk0
  have hcr := cC_r (c := σ 9) (n := 192) (f := p)
  have hc2 := cC_uc (c := σ 9) (n := 192) (a := e) (v := -1) (f := p) he.1 (by omega)
  rw [if_neg (by omega), if_pos h9] at hc2
  have hcc : ∀ d, 0 ≤ d → d ≤ 191 → (((0 < μ 111 d) ∧ (uc (μ 116) e 0 d = 1)) ∧ (μ 117 d = p) ↔ uc (σ 9) e (-1) d = p) := by
    intro d d0 d1
    have hpd := hPr d d0 d1
    have hmd := hMp d d0 d1
    rw [q116, q111]
    unfold uc
    grind
  have hw := hC2.2.1
  refine ⟨e7_leave1 he h9 (hp.2.2.2.2.2 (by omega)) hp23 (by omega), ?_⟩
  have hPr2 := m_Pr_abs (e := e) hPr
  have hHd2 := m_Hd_lv (x := -1) he h9 hp23 (by omega) hHd
  have hBl2 : ∀ d15 : Int → Int, (∀ f, f ≠ p → d15 f = σ 15 f) → rBl (uc (σ 46) (e / 4) 0) (ub e (μ 120)) (uc (σ 8) e 0) (uc (σ 9) e (-1)) d15 (σ 22) := fun d15 hd15 => m_Bl_lv he (by rw [h9]; exact hd15) (fun d d0 d1 d2 => ((hPr d d0 d1).2.2.1 d2).2.1) hBl
  have hWr2 : ∀ d15 : Int → Int, (∀ f, f ≠ p → d15 f = σ 15 f) → (d15 p = σ 15 p ∨ d15 p = 0) → rWr (uc (σ 10) e 0) (uc (σ 9) e (-1)) d15 (σ 22) := fun d15 hd15 hd2 => m_Wr_lv he (by rw [h9]; exact hd15) (by rw [h9]; exact hd2) (fun d d0 d1 d2 => by
    have := hPr d d0 d1
    apply Classical.byContradiction
    intro q
    by_cases h1 : σ 8 d = 1
    · exact q (this.2.2.1 h1).2.1
    · exact d2 (this.2.2.2.1 h1).2) hWr
  have hC22 := m_C2_tell he hC1.1 hC2
  have hC32 := m_C3_lv (e := e) (v := 0) (w := -1) hC1.1 hC3
  have h11 : uc (σ 11) e (-1) = σ 11 := uc_id (hp.2.2.2.2.2 (by omega))
  rw [h11] at hPr2
  by_cases hf : σ 15 p = 1 ∧ σ 20 p ≤ 1
  · obtain ⟨pos, hLp⟩ := hLs
    have hL2 := hLp.2.1 p hp23.1 hp23.2 hk0
    refine ⟨_, e8_leaves1u he h116 h117 hp23 hw hcc ⟨by rw [q121]; exact hf.1, by omega⟩ (by rw [q123]) ⟨hL2.1, hL2.2.1⟩ rfl (m_Ls_24 hLp ⟨hL2.1, hL2.2.1⟩) ⟨hL2.2.2.1, hL2.2.2.2.1⟩ (m_row hLp hp23 hk0), ?_, ?_⟩
    · have hLs2 := m_Ls_un hp23 hk0 rfl hLp
      rw [if_pos hf] at hHd2
      unfold lbC abC tl l15 unM lbM
      rw [if_pos h8, if_pos hf]
      refine ⟨⟨?_, ?_, ?_, ?_, ?_, ?_, ?_, ?_, ?_, ?_, ?_, ?_, ?_, ?_, ?_, ?_, ?_⟩, ?_, ?_, ?_, ?_, ?_, ?_, ?_, ?_, ?_, ?_, ?_, ?_, ?_, ?_, ?_, ?_⟩
      all_goals (try simp (disch := decide) only [sc_s, sc_k, q102, q103, q106, q107, q108, q109, q110, q111, q116, q121, q122, q123, q124, q125, q130, q135, q140, h11])
      all_goals (try with_reducible assumption)
      · exact m_Fr_0 hFr
      · exact hBl2 _ (fun f hf => uc_n hf)
      · exact hWr2 _ (fun f hf => uc_n hf) (Or.inr uc_s)
    · intro k hk
      unfold lbM unM
      simp only [List.mem_cons, List.not_mem_nil, or_false, not_or] at hk
      simp only [sc, hk, if_false]
  · refine ⟨_, e8_leaves1 he h116 h117 hp23 hw hcc (fun q => hf ⟨by rw [← q121]; exact q.1, by omega⟩), ?_, ?_⟩
    · rw [if_neg hf] at hHd2
      unfold lbC abC tl l15 lbM
      rw [if_pos h8, if_neg hf]
      refine ⟨⟨?_, ?_, ?_, ?_, ?_, ?_, ?_, ?_, ?_, ?_, ?_, ?_, ?_, ?_, ?_, ?_, ?_⟩, ?_, ?_, ?_, ?_, ?_, ?_, ?_, ?_, ?_, ?_, ?_, ?_, ?_, ?_, ?_, ?_⟩
      all_goals (try simp (disch := decide) only [sc_s, sc_k, q102, q103, q106, q107, q108, q109, q110, q111, q116, q121, q122, q123, q124, q125, q130, q135, q140, h11])
      all_goals (try with_reducible assumption)
      · exact hBl2 _ (fun f hf => rfl)
      · exact hWr2 _ (fun f hf => rfl) (Or.inl rfl)
    · intro k hk
      unfold lbM
      simp only [List.mem_cons, List.not_mem_nil, or_false, not_or] at hk
      simp only [sc, hk, if_false]
