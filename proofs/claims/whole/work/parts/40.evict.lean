/-! pages that are put out: an entry -/
def evC (e r : Int) (σ : S2) : S2 := if 0 ≤ r then sc (sc (sc (lbC e σ) 8 (uc (σ 8) e 2)) 11 (uc (σ 11) e r)) 30 (uc (σ 30) r (σ 30 r + 1)) else lbC e σ
def evM (e r : Int) (μ : S2) : S2 := sc (sc (sc (sc μ 139 (wt e (μ 135) (μ 136) (μ 139))) 120 (ub e (μ 120))) 116 (uc (μ 116) e (if r = -1 then 0 else 2))) 119 (uc (μ 119) e r)
theorem e7_out {e r : Int} {σ : S2} (he : 0 ≤ e ∧ e ≤ 191) (hr : -1 ≤ r ∧ r ≤ 17) (h30 : 0 ≤ r → 0 ≤ σ 30 r ∧ σ 30 r ≤ 191) : FX1_becomeOut e r σ = some (0, if 0 ≤ r then sc (sc (sc (abC e σ) 8 (uc (σ 8) e 2)) 11 (uc (σ 11) e r)) 30 (uc (σ 30) r (σ 30 r + 1)) else abC e σ) := by
  unfold FX1_becomeOut
  rw [gd_pos he, gd_pos hr, cb_e (e7_abs he)]
  unfold abC
  simp (disch := decide) only [bn, u2_sc, sc_s, sc_k]
  by_cases h0 : 0 ≤ r
  · have h1 := h30 h0
    rw [if_pos h0, if_pos h0, gd_pos (by omega), uc_uc, uc_uc]
  · rw [if_neg h0, if_neg h0]
theorem m_Pr_ev {c3 c8 c9 c10 c11 m117 m118 m119 : Int → Int} {e r : Int} (hr : -1 ≤ r ∧ r ≤ 17) (h3 : c3 e ≠ 0) (h : rPr c3 c8 c9 c10 c11 m117 m118 m119) : rPr c3 (uc c8 e (if r = -1 then 0 else 2)) (uc c9 e (-1)) (uc c10 e 0) (uc c11 e r) m117 m118 (uc m119 e r) := by
  intro d d0 d1
  have h1 := h d d0 d1
  by_cases hd : d = e
  · subst hd
    simp only [uc_s]
    by_cases hr1 : r = -1
    · rw [if_pos hr1]
      exact ⟨Or.inl rfl, fun q => absurd q h3, fun q => absurd q (by decide), fun _ => ⟨trivial, trivial⟩, fun q => absurd q (by decide), fun _ => hr1⟩
    · rw [if_neg hr1]
      exact ⟨Or.inr (Or.inr rfl), fun q => absurd q h3, fun q => absurd q (by decide), fun _ => ⟨trivial, trivial⟩, fun q => ⟨trivial, by omega, by omega⟩, fun q => absurd rfl q⟩
  · simp only [uc_n hd]
    exact h1
theorem m_Hd_ev {c9 c15 c20 : Int → Int} {e f : Int} (he : 0 ≤ e ∧ e ≤ 191) (h9 : c9 e = f) (hk : c15 f ≠ 0) (h : rHd f c9 c15 c20) : rHd f (uc c9 e (-1)) c15 c20 := by
  intro g g0 g1
  have h1 := h g g0 g1
  have h2 := cC_uc (c := c9) (n := 192) (a := e) (v := -1) (f := g) he.1 (by omega)
  rw [if_neg (by omega)] at h2
  by_cases hg : g = f
  · subst hg
    exact ⟨h1.1, h1.2.1, fun q => absurd q hk, fun q => absurd rfl q, fun q => absurd rfl q⟩
  · rw [if_neg (by omega)] at h2
    have h3 : cC (uc c9 e (-1)) 192 g = cC c9 192 g := by omega
    rw [h3]
    exact h1
theorem m_Rc_ev {c11 c26 c27 c28 c29 c30 c32 m132 m133 m134 : Int → Int} {e r : Int} (he : 0 ≤ e ∧ e ≤ 191) (hr : 0 ≤ r ∧ r ≤ 17) (h11 : c11 e = -1) (h : rRc r c11 c26 c27 c28 c29 c30 c32 m132 m133 m134) : rRc r (uc c11 e r) c26 c27 c28 c29 (uc c30 r (c30 r + 1)) c32 m132 m133 m134 := by
  intro q q0 q1
  have h1 := h q q0 q1
  have h2 := cC_uc (c := c11) (n := 192) (a := e) (v := r) (f := q) he.1 (by omega)
  have h3 := cC_r (c := c11) (n := 192) (f := q)
  rw [h11, if_neg (show ¬ ((-1 : Int) = q) by omega)] at h2
  by_cases hq : q = r
  · subst hq
    rw [if_pos rfl] at h2
    rw [uc_s]
    exact ⟨by omega, ⟨fun w => absurd rfl (h1.2.1.mp w).2, fun w => absurd rfl w.2⟩, h1.2.2⟩
  · rw [if_neg (fun w => hq w.symm)] at h2
    rw [uc_n hq]
    exact ⟨by omega, h1.2⟩
theorem R_ev {B e f r : Int} {σ μ : S2} (he : 0 ≤ e ∧ e ≤ 191) (hf : 0 ≤ f ∧ f ≤ 23) (hr : -1 ≤ r ∧ r ≤ 17) (hk : σ 15 f ≠ 0) (h9 : σ 9 e = f) (h : Rg f r B σ μ) : Rg f r B (evC e r σ) (evM e r μ) := by
  obtain ⟨⟨q102, q103, q106, q107, q108, q109, q110, q111, q116, q121, q122, q123, q124, q125, q130, q135, q140⟩, hSp, hMp, hPr, hHd, hFr, hLs, hBl, hWr, hC1, hC2, hC3, hRc, hRo, hSc, hSt, hBd⟩ := h
  have hp := hPr e he.1 he.2
  have h8 : σ 8 e = 1 := by
    apply Classical.byContradiction
    intro q
    have := (hp.2.2.2.1 q).1
    omega
  have h3 : σ 3 e ≠ 0 := fun q => by have := hp.2.1 q; omega
  have h11 : σ 11 e = -1 := hp.2.2.2.2.2 (by omega)
  have hPr2 := m_Pr_ev hr h3 hPr
  have hHd2 := m_Hd_ev he h9 hk hHd
  have hBl2 := fun v => m_Bl_lv (d15 := σ 15) (v := v) he (fun _ _ => rfl) (fun d d0 d1 d2 => ((hPr d d0 d1).2.2.1 d2).2.1) hBl
  have hWr2 := m_Wr_lv (d15 := σ 15) he (fun _ _ => rfl) (Or.inl rfl) (fun d d0 d1 d2 => by
    have := hPr d d0 d1
    apply Classical.byContradiction
    intro q
    by_cases h1 : σ 8 d = 1
    · exact q (this.2.2.1 h1).2.1
    · exact d2 (this.2.2.2.1 h1).2) hWr
  have hC22 := m_C2_tell he hC1.1 hC2
  have hC32 := fun v => m_C3_lv (e := e) (v := v) (w := -1) hC1.1 hC3
  unfold evC evM lbC abC tl
  rw [if_pos h8]
  by_cases h0 : 0 ≤ r
  · have hRc2 := m_Rc_ev he ⟨h0, hr.2⟩ h11 hRc
    rw [if_pos h0, if_neg (show ¬ r = -1 by omega)]
    rw [if_neg (show ¬ r = -1 by omega)] at hPr2
    refine ⟨⟨?_, ?_, ?_, ?_, ?_, ?_, ?_, ?_, ?_, ?_, ?_, ?_, ?_, ?_, ?_, ?_, ?_⟩, ?_, ?_, ?_, ?_, ?_, ?_, ?_, ?_, ?_, ?_, ?_, ?_, ?_, ?_, ?_, ?_⟩
    all_goals (try simp (disch := decide) only [sc_s, sc_k, q102, q103, q106, q107, q108, q109, q110, q111, q116, q121, q122, q123, q124, q125, q130, q135, q140])
    all_goals (try with_reducible assumption)
    · exact hBl2 2
    · exact hC32 2
  · have hr1 : r = -1 := by omega
    subst hr1
    rw [if_neg h0, if_pos rfl]
    rw [if_pos rfl] at hPr2
    have u11 : uc (σ 11) e (-1) = σ 11 := uc_id h11
    rw [u11] at hPr2
    refine ⟨⟨?_, ?_, ?_, ?_, ?_, ?_, ?_, ?_, ?_, ?_, ?_, ?_, ?_, ?_, ?_, ?_, ?_⟩, ?_, ?_, ?_, ?_, ?_, ?_, ?_, ?_, ?_, ?_, ?_, ?_, ?_, ?_, ?_, ?_⟩
    all_goals (try simp (disch := decide) only [sc_s, sc_k, q102, q103, q106, q107, q108, q109, q110, q111, q116, q121, q122, q123, q124, q125, q130, q135, q140, u11])
    all_goals (try with_reducible assumption)
    · exact hBl2 0
    · exact hC32 0
/-- the columns that a page put out leaves alone: dirty, the counters -/
def mdC (a c : Int → Int) (σ : S2) : S2 := sc (sc σ 23 a) 48 c
theorem evC_md {e r : Int} {a c : Int → Int} {σ : S2} : evC e r (mdC a c σ) = mdC a c (evC e r σ) := by
  unfold evC mdC
  by_cases h0 : 0 ≤ r
  · rw [if_pos h0, if_pos h0]
    funext k
    unfold lbC abC tl
    by_cases h23 : k = 23
    · subst h23; simp (disch := decide) only [sc_s, sc_k]
    by_cases h48 : k = 48
    · subst h48; simp (disch := decide) only [sc_s, sc_k]
    by_cases h14 : k = 14
    · subst h14; simp (disch := decide) only [sc_s, sc_k]
    by_cases h46 : k = 46
    · subst h46; simp (disch := decide) only [sc_s, sc_k]
    by_cases h8 : k = 8
    · subst h8; simp (disch := decide) only [sc_s, sc_k]
    by_cases h9 : k = 9
    · subst h9; simp (disch := decide) only [sc_s, sc_k]
    by_cases h10 : k = 10
    · subst h10; simp (disch := decide) only [sc_s, sc_k]
    by_cases h11 : k = 11
    · subst h11; simp (disch := decide) only [sc_s, sc_k]
    by_cases h30 : k = 30
    · subst h30; simp (disch := decide) only [sc_s, sc_k]
    simp only [sc, h23, h48, h14, h46, h8, h9, h10, h11, h30, if_false]
  · rw [if_neg h0, if_neg h0]
    funext k
    unfold lbC abC tl
    by_cases h23 : k = 23
    · subst h23; simp (disch := decide) only [sc_s, sc_k]
    by_cases h48 : k = 48
    · subst h48; simp (disch := decide) only [sc_s, sc_k]
    by_cases h14 : k = 14
    · subst h14; simp (disch := decide) only [sc_s, sc_k]
    by_cases h46 : k = 46
    · subst h46; simp (disch := decide) only [sc_s, sc_k]
    by_cases h8 : k = 8
    · subst h8; simp (disch := decide) only [sc_s, sc_k]
    by_cases h9 : k = 9
    · subst h9; simp (disch := decide) only [sc_s, sc_k]
    by_cases h10 : k = 10
    · subst h10; simp (disch := decide) only [sc_s, sc_k]
    by_cases h11 : k = 11
    · subst h11; simp (disch := decide) only [sc_s, sc_k]
    simp only [sc, h23, h48, h14, h46, h8, h9, h10, h11, if_false]
theorem mdC_k {a c : Int → Int} {σ : S2} {k : Nat} (h1 : k ≠ 23) (h2 : k ≠ 48) : mdC a c σ k = σ k := by
  unfold mdC
  simp only [sc, h1, h2, if_false]
theorem evC_k {e r : Int} {σ : S2} {k : Nat} (h : k ∉ [8, 9, 10, 11, 14, 30, 46]) : evC e r σ k = σ k := by
  simp only [List.mem_cons, List.not_mem_nil, or_false, not_or] at h
  unfold evC lbC abC
  split <;> simp only [sc, h, if_false]
theorem evM_k {e r : Int} {μ : S2} {k : Nat} (h : k ∉ [116, 119, 120, 139]) : evM e r μ k = μ k := by
  simp only [List.mem_cons, List.not_mem_nil, or_false, not_or] at h
  unfold evM
  simp only [sc, h, if_false]
theorem evC_8 {e r : Int} {σ : S2} : evC e r σ 8 = uc (σ 8) e (if 0 ≤ r then 2 else 0) ∧ evC e r σ 9 = uc (σ 9) e (-1) ∧ evC e r σ 10 = uc (σ 10) e 0 ∧ evC e r σ 11 = uc (σ 11) e (if 0 ≤ r then r else -1) := by
  unfold evC lbC abC
  by_cases h0 : 0 ≤ r
  · rw [if_pos h0, if_pos h0, if_pos h0]
    simp (disch := decide) only [sc_s, sc_k]
    exact ⟨trivial, trivial, trivial, trivial⟩
  · rw [if_neg h0, if_neg h0, if_neg h0]
    simp (disch := decide) only [sc_s, sc_k]
    exact ⟨trivial, trivial, trivial, trivial⟩
