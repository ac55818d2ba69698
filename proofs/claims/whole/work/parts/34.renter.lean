/-! an entry leaves what it has: both sides -/
def LF (e : Int) (σ μ s1 m1 : S2) : Prop := (∀ k, k ∉ [8, 9, 10, 11, 14, 15, 20, 30, 31, 46, 49] → s1 k = σ k) ∧ (∀ k, k ∉ [116, 120, 121, 128, 129, 132, 139] → m1 k = μ k) ∧ s1 8 = uc (σ 8) e 0 ∧ s1 9 = uc (σ 9) e (-1) ∧ s1 10 = uc (σ 10) e 0 ∧ s1 11 = uc (σ 11) e (-1) ∧ ∀ f, s1 15 f = σ 15 f ∨ s1 15 f = 0 ∧ σ 15 f = 1 ∧ f = σ 9 e
theorem nwC_k {f v g : Int} {cs : Int → Int} {σ : S2} {k : Nat} (h : k ∉ [15, 16, 17, 18, 19, 20, 21, 22, 23, 40, 48]) : nwC f v g cs σ k = σ k := by
  unfold nwC brC bgC
  simp only [List.mem_cons, List.not_mem_nil, or_false, not_or] at h
  simp only [sc, h, if_false]
theorem R_leave {B e : Int} {σ μ : S2} (he : 0 ≤ e ∧ e ≤ 191) (h : Rg (-1) (-1) B σ μ) : ∃ s1 m1, FX7_leave e σ = some (0, s1) ∧ FX8_leaves e μ = some (0, m1) ∧ Rg (-1) (-1) B s1 m1 ∧ LF e σ μ s1 m1 ∧ ∀ (f v g : Int) (cs : Int → Int), 0 ≤ f → f ≤ 23 → σ 15 f = 0 → FX7_leave e (nwC f v g cs σ) = some (0, nwC f v g cs s1) := by
  have hh := h
  obtain ⟨⟨q102, q103, q106, q107, q108, q109, q110, q111, q116, q121, q122, q123, q124, q125, q130, q135, q140⟩, hSp, hMp, hPr, hHd, hFr, hLs, hBl, hWr, hC1, hC2, hC3, hRc, hRo, hSc, hSt, hBd⟩ := h
  have hp := hPr e he.1 he.2
  rcases hp.1 with h8 | h8 | h8
  · obtain ⟨a1, a2, a3⟩ := R_lv0 he h8 hh
    refine ⟨_, _, a1, a2, a3, ⟨?_, ?_, ?_, ?_, ?_, ?_, ?_⟩, ?_⟩
    · intro k hk
      simp only [List.mem_cons, List.not_mem_nil, or_false, not_or] at hk
      unfold lbC abC
      simp only [sc, hk, if_false]
    · intro k hk
      simp only [List.mem_cons, List.not_mem_nil, or_false, not_or] at hk
      unfold lbM
      simp only [sc, hk, if_false]
    · unfold lbC abC; simp (disch := decide) only [sc_s, sc_k]
    · unfold lbC abC; simp (disch := decide) only [sc_s, sc_k]
    · unfold lbC abC; simp (disch := decide) only [sc_s, sc_k]
    · unfold lbC abC; simp (disch := decide) only [sc_s, sc_k]
    · intro f
      left
      unfold lbC abC; simp (disch := decide) only [sc_s, sc_k]
    · intro f v g cs f0 f1 f2
      rw [e7_leave0 he (by rw [nwC_k (by decide)]; exact (hp.2.2.2.1 (by omega)).1) (by rw [nwC_k (by decide)]; exact hp.2.2.2.2.2 (by omega)), c_lb]
  · obtain ⟨a1, m1, a2, a3, a4⟩ := R_lv1 he h8 rfl hh
    have hp1 := hp.2.2.1 h8
    have hd := hHd (σ 9 e) hp1.2.1 hp1.2.2.1
    have hc1 := cC_pos (c := σ 9) (n := 192) he.1 (by omega) rfl
    have hcr := cC_r (c := σ 9) (n := 192) (f := σ 9 e)
    have hk0 : σ 15 (σ 9 e) ≠ 0 := fun q => by have := hd.2.2.1 q; omega
    have h20 := hd.2.2.2.1 (by omega) hk0
    refine ⟨_, _, a1, a2, a3, ⟨?_, ?_, ?_, ?_, ?_, ?_, ?_⟩, ?_⟩
    · intro k hk
      simp only [List.mem_cons, List.not_mem_nil, or_false, not_or] at hk
      unfold lbC abC
      simp only [sc, hk, if_false]
    · intro k hk
      refine a4 k ?_
      simp only [List.mem_cons, List.not_mem_nil, or_false, not_or] at hk ⊢
      omega
    · unfold lbC abC; simp (disch := decide) only [sc_s, sc_k]
    · unfold lbC abC; simp (disch := decide) only [sc_s, sc_k]
    · unfold lbC abC; simp (disch := decide) only [sc_s, sc_k]
    · unfold lbC abC; simp (disch := decide) only [sc_s, sc_k]
    · intro f
      rw [sc_s]
      unfold l15
      split
      · rename_i q
        by_cases hf : f = σ 9 e
        · right
          rw [hf, uc_s]
          exact ⟨rfl, q.1, rfl⟩
        · left
          exact uc_n hf
      · left; rfl
    · intro f v g cs f0 f1 f2
      have hpf : σ 9 e ≠ f := fun q => hk0 (by rw [q]; exact f2)
      have e1 : nwC f v g cs σ 20 (σ 9 e) = σ 20 (σ 9 e) := by
        unfold nwC brC bgC
        simp (disch := decide) only [sc_s, sc_k]
        exact uc_n hpf
      rw [e7_leave1 (p := σ 9 e) he (by rw [nwC_k (by decide)]) (by rw [nwC_k (by decide)]; exact hp.2.2.2.2.2 (by omega)) ⟨hp1.2.1, hp1.2.2.1⟩ (by rw [e1]; omega), c_lv1 hpf]
  · obtain ⟨a1, m1, a2, a3, a4⟩ := R_lv2 he h8 rfl hh
    have hp2 := hp.2.2.2.2.1 h8
    have hr : 0 ≤ σ 11 e ∧ σ 11 e ≤ 17 := by omega
    have h9 := hp.2.2.2.1 (by omega)
    have hd := hRc _ hr.1 hr.2
    have hc1 := cC_pos (c := σ 11) (n := 192) he.1 (by omega) rfl
    have hcr := cC_r (c := σ 11) (n := 192) (f := σ 11 e)
    have hm1 : μ 132 (σ 11 e) ≠ -1 := fun q => by have := hd.2.1.mp q; omega
    have hd2 := hd.2.2 hm1
    have h31 : σ 28 (σ 11 e) = 10 → 0 ≤ σ 31 0 - σ 27 (σ 11 e) ∧ σ 31 0 - σ 27 (σ 11 e) ≤ 8 := by
      intro q
      have h1 := m_Ro_ge hr (by omega) hRo
      have h2 := hRo.2.1
      rw [hd2.2.2.1]
      split at h1 <;> split <;> omega
    refine ⟨_, _, a1, a2, a3, ⟨?_, ?_, ?_, ?_, ?_, ?_, ?_⟩, ?_⟩
    · intro k hk
      simp only [List.mem_cons, List.not_mem_nil, or_false, not_or] at hk
      unfold lbC abC
      simp only [sc, hk, if_false]
    · intro k hk
      refine a4 k ?_
      simp only [List.mem_cons, List.not_mem_nil, or_false, not_or] at hk ⊢
      omega
    · unfold lbC abC; simp (disch := decide) only [sc_s, sc_k]
    · unfold lbC abC; simp (disch := decide) only [sc_s, sc_k]
    · unfold lbC abC; simp (disch := decide) only [sc_s, sc_k]
    · unfold lbC abC; simp (disch := decide) only [sc_s, sc_k]
    · intro f
      left
      unfold lbC abC; simp (disch := decide) only [sc_s, sc_k]
    · intro f v g cs f0 f1 f2
      rw [e7_leave2 (r := σ 11 e) he (by rw [nwC_k (by decide)]; exact h9.1) (by rw [nwC_k (by decide)]) hr (by rw [nwC_k (by decide)]; omega) (by rw [nwC_k (by decide), nwC_k (by decide), nwC_k (by decide)]; exact h31), c_lv2]
/-! a page comes to the end of a list -/
theorem m_Ls_app {c15 c17 c18 m128 m129 c40 : Int → Int} {f l k : Int} (hf : 0 ≤ f ∧ f ≤ 23) (hl : 0 ≤ l ∧ l ≤ 1) (hk : c15 f = 0) (hk2 : k ≠ 0) (hm : m129 l ≤ 23) (h40 : 0 ≤ c40 0) (h : rLs c15 c17 c18 m128 m129 c40) : rLs (uc c15 f k) (uc c17 f l) (uc c18 f (c40 0 + 1)) (uc m128 (24 * l + m129 l) f) (uc m129 l (m129 l + 1)) (uc c40 0 (c40 0 + 1)) := by
  obtain ⟨pos, h1, h2, h3, h4⟩ := h
  have hl3 : ∀ l k, 0 ≤ l → l ≤ 1 → 0 ≤ k → k < m129 l → m128 (24 * l + k) ≠ f := fun l k a b c d q => by
    have := h3 l k a b c d
    rw [q] at this
    exact this.2.2.1 hk
  have e1 : ∀ l' k', 0 ≤ l' → l' ≤ 1 → 0 ≤ k' → k' < 24 → 24 * l' + k' = 24 * l + m129 l → l' = l ∧ k' = m129 l := by
    intro l' k' a b c d q
    have := h1 l hl.1 hl.2
    omega
  refine ⟨uc pos f (m129 l), ?_, ?_, ?_, ?_⟩
  · unfold uc
    grind
  · intro g g0 g1 gk
    by_cases hg : g = f
    · subst hg
      simp only [uc_s]
      have := h1 l hl.1 hl.2
      refine ⟨hl.1, hl.2, this, by omega, trivial, by omega, by omega⟩
    · simp only [uc_n hg] at gk ⊢
      have h5 := h2 g g0 g1 gk
      have h6 : uc m128 (24 * l + m129 l) f (24 * c17 g + pos g) = m128 (24 * c17 g + pos g) := by
        refine uc_n (fun q => ?_)
        by_cases hll : c17 g = l
        · rw [hll] at q h5; omega
        · have := h1 l hl.1 hl.2
          have h7 : m129 (c17 g) ≤ 24 := m_Ls_24 ⟨h1, h2, h3, h4⟩ ⟨h5.1, h5.2.1⟩
          omega
      rw [h6, uc_s]
      refine ⟨h5.1, h5.2.1, h5.2.2.1, ?_, h5.2.2.2.2.1, h5.2.2.2.2.2.1, by omega⟩
      rw [uc_a]
      split
      · rename_i q; have := h5.2.2.2.1; rw [q] at this; omega
      · exact h5.2.2.2.1
  · intro l' k' a b c d
    rw [uc_a] at d
    have h7 : m129 l' ≤ 24 := m_Ls_24 ⟨h1, h2, h3, h4⟩ ⟨a, b⟩
    have h8 := h1 l hl.1 hl.2
    by_cases hnew : l' = l ∧ k' = m129 l
    · rw [hnew.1, hnew.2]
      simp only [uc_s]
      exact ⟨hf.1, hf.2, hk2, trivial, trivial⟩
    · have h9 : k' < m129 l' := by
        split at d
        · rename_i q; rw [q] at hnew ⊢; omega
        · exact d
      have h10 := h3 l' k' a b c h9
      have h11 := hl3 l' k' a b c h9
      rw [uc_n (show 24 * l' + k' ≠ 24 * l + m129 l by intro q; by_cases q2 : l' = l; exact hnew ⟨q2, by omega⟩; omega), uc_n h11, uc_n h11, uc_n h11]
      exact h10
  · intro a b a0 a1 b0 b1 ka kb hab
    by_cases ha : a = f
    · subst ha
      by_cases hb : b = a
      · subst hb; simp only [uc_s]; omega
      · simp only [uc_s, uc_n hb] at *
        have h5 := h2 b b0 b1 kb
        rw [← hab] at h5
        omega
    · by_cases hb : b = f
      · subst hb
        simp only [uc_s, uc_n ha] at *
        have h5 := h2 a a0 a1 ka
        rw [hab] at h5
        omega
      · simp only [uc_n ha, uc_n hb] at *
        exact h4 a b a0 a1 b0 b1 ka kb hab
def pnM (f v g : Int) (cs : Int → Int) (μ : S2) : S2 := sc (ptM f 1 v g 0 (μ 129 0) μ) 140 cs
theorem m_Hd_nw {c9 c15 c20 : Int → Int} {f k : Int} (hf : 0 ≤ f ∧ f ≤ 23) (hk : 0 ≤ k ∧ k ≤ 2) (h0 : c15 f = 0) (h : rHd (-1) c9 c15 c20) : rHd f c9 (uc c15 f k) (uc c20 f 0) := by
  intro g g0 g1
  have h1 := h g g0 g1
  have h2 := h f hf.1 hf.2
  by_cases hg : g = f
  · subst hg
    simp only [uc_s]
    refine ⟨hk.1, hk.2, fun _ => h1.2.2.1 h0, fun q => absurd rfl q, fun q => absurd rfl q⟩
  · simp only [uc_n hg]
    exact ⟨h1.1, h1.2.1, h1.2.2.1, fun _ => h1.2.2.2.1 (by omega), fun _ => h1.2.2.2.2 (by omega)⟩
theorem m_Fr_nw {c15 c16 c19 c21 c22 c23 c24 c25 m126 m127 c44 : Int → Int} {f v g : Int} (hv : 0 ≤ v ∧ v ≤ 99999) (hg : 0 ≤ g ∧ g ≤ 2) (h : rFr c15 c16 c19 c21 c22 c23 c24 c25 m126 m127 c44) : rFr (uc c15 f 1) (uc c16 f v) (uc c19 f 0) (uc c21 f g) (uc c22 f 0) (uc c23 f 0) c24 c25 (uc m126 f 0) (uc m127 f (-1)) c44 := by
  refine ⟨fun d d0 d1 => ?_, h.2⟩
  have h1 := h.1 d d0 d1
  by_cases hd : d = f
  · subst hd
    simp only [uc_s]
    exact ⟨hv.1, hv.2, by omega, by omega, hg.1, hg.2, by omega, by omega, by omega, by omega, by omega, by omega, fun _ => trivial, fun q => by omega⟩
  · simp only [uc_n hd]
    exact h1
theorem m_Pr_et {c3 c8 c9 c10 c11 m117 m118 m119 : Int → Int} {e f w : Int} (hf : 0 ≤ f ∧ f ≤ 23) (hw : 0 ≤ w ∧ w ≤ 1) (h3 : c3 e ≠ 0) (h8 : c8 e = 0) (h : rPr c3 c8 c9 c10 c11 m117 m118 m119) : rPr c3 (uc c8 e 1) (uc c9 e f) (uc c10 e w) c11 (uc m117 e f) (uc m118 e w) m119 := by
  intro d d0 d1
  have h1 := h d d0 d1
  by_cases hd : d = e
  · subst hd
    simp only [uc_s]
    exact ⟨by simp, fun q => absurd q h3, fun _ => ⟨trivial, hf.1, hf.2, trivial, hw.1, hw.2⟩, fun q => absurd rfl q, fun q => by omega, fun _ => h1.2.2.2.2.2 (by omega)⟩
  · simp only [uc_n hd]
    exact h1
theorem R_nw {B f v g : Int} {cs : Int → Int} {σ μ : S2} (hf : 0 ≤ f ∧ f ≤ 23) (hk : σ 15 f = 0) (hv : 0 ≤ v ∧ v ≤ 99999) (hg : 0 ≤ g ∧ g ≤ 2) (hcs : ∀ k, 0 ≤ k → k ≤ 7 → σ 48 k ≤ cs k ∧ cs k ≤ B + 1) (h : Rg (-1) (-1) B σ μ) : Rg f (-1) (B + 1) (nwC f v g cs σ) (pnM f v g cs μ) := by
  obtain ⟨⟨q102, q103, q106, q107, q108, q109, q110, q111, q116, q121, q122, q123, q124, q125, q130, q135, q140⟩, hSp, hMp, hPr, hHd, hFr, hLs, hBl, hWr, hC1, hC2, hC3, hRc, hRo, hSc, hSt, hBd⟩ := h
  have h9 : cC (σ 9) 192 f = 0 := (hHd f hf.1 hf.2).2.2.1 hk
  have h9n : ∀ d, 0 ≤ d → d ≤ 191 → σ 9 d ≠ f := fun d d0 d1 => cC_0.mp h9 d d0 (by omega)
  have h23 : μ 129 0 ≤ 23 := by
    obtain ⟨pos, hLp⟩ := hLs
    exact m_Ls_23 hLp (by decide) hf (Or.inl hk)
  have hHd2 := m_Hd_nw (k := 1) hf (by decide) hk hHd
  have hLs2 := m_Ls_app (l := 0) (k := 1) hf (by decide) hk (by decide) h23 hBd.2.2.1 hLs
  unfold nwC brC bgC pnM ptM enM
  refine ⟨⟨?_, ?_, ?_, ?_, ?_, ?_, ?_, ?_, ?_, ?_, ?_, ?_, ?_, ?_, ?_, ?_, ?_⟩, ?_, ?_, ?_, ?_, ?_, ?_, ?_, ?_, ?_, ?_, ?_, ?_, ?_, ?_, ?_, ?_⟩
  all_goals (try simp (disch := decide) only [sc_s, sc_k, q102, q103, q106, q107, q108, q109, q110, q111, q116, q121, q122, q123, q124, q125, q130, q135, q140])
  all_goals (try with_reducible assumption)
  · exact m_Fr_nw hv hg hFr
  · unfold rBl at *
    refine ⟨hBl.1, hBl.2.1, fun e e0 e1 e2 => ?_⟩
    have := hBl.2.2 e e0 e1 e2
    rw [uc_n (h9n e e0 e1), uc_n (h9n e e0 e1)]
    exact this
  · intro e e0 e1 e2
    rw [uc_n (h9n e e0 e1), uc_n (h9n e e0 e1)]
    exact hWr e e0 e1 e2
  · intro i i0 i1
    have h1 := hSt i i0 i1
    have h2 := hcs 2 (by decide) (by decide)
    omega
  · obtain ⟨b1, b2, b3, b4, b5⟩ := hBd
    refine ⟨b1, by omega, ?_, ?_, fun k k0 k1 => ?_⟩
    · rw [uc_s]; omega
    · rw [uc_s]; omega
    · have := hcs k k0 k1; have := b5 k k0 k1; omega
/-- an entry that has nothing gets a page -/
def etC (e f w : Int) (σ : S2) : S2 := sc (sc (sc (sc σ 8 (uc (σ 8) e 1)) 9 (uc (σ 9) e f)) 10 (uc (σ 10) e w)) 20 (uc (σ 20) f (σ 20 f + 1))
def etM (e f w : Int) (μ : S2) : S2 := sc (sc (sc μ 117 (uc (μ 117) e f)) 116 (uc (μ 116) e 1)) 118 (uc (μ 118) e w)
theorem R_enter {x B e f w : Int} {σ μ : S2} (he : 0 ≤ e ∧ e ≤ 191) (hf : 0 ≤ f ∧ f ≤ 23) (hw : 0 ≤ w ∧ w ≤ 1) (hx : x = -1 ∨ x = f) (h3 : σ 3 e ≠ 0) (h8 : σ 8 e = 0) (hk : σ 15 f ≠ 0) (h20 : σ 20 f = cC (σ 9) 192 f) (hS : σ 15 f = 1 → (cC (σ 9) 192 f = 0 ∧ σ 22 f = 0) ∨ (σ 22 f ≠ 0 ∧ w = 0)) (h : Rg x (-1) B σ μ) : Rg (-1) (-1) B (etC e f w σ) (etM e f w μ) := by
  obtain ⟨⟨q102, q103, q106, q107, q108, q109, q110, q111, q116, q121, q122, q123, q124, q125, q130, q135, q140⟩, hSp, hMp, hPr, hHd, hFr, hLs, hBl, hWr, hC1, hC2, hC3, hRc, hRo, hSc, hSt, hBd⟩ := h
  have hp := hPr e he.1 he.2
  have hp0 := hp.2.2.2.1 (by omega)
  have hp1 := hp.2.2.2.2.2 (by omega)
  unfold etC etM
  refine ⟨⟨?_, ?_, ?_, ?_, ?_, ?_, ?_, ?_, ?_, ?_, ?_, ?_, ?_, ?_, ?_, ?_, ?_⟩, ?_, ?_, ?_, ?_, ?_, ?_, ?_, ?_, ?_, ?_, ?_, ?_, ?_, ?_, ?_, ?_⟩
  all_goals (try simp (disch := decide) only [sc_s, sc_k, q102, q103, q106, q107, q108, q109, q110, q111, q116, q121, q122, q123, q124, q125, q130, q135, q140])
  all_goals (try with_reducible assumption)
  · exact m_Pr_et hf hw h3 h8 hPr
  · intro g g0 g1
    have h1 := hHd g g0 g1
    have h2 := cC_uc (c := σ 9) (n := 192) (a := e) (v := f) (f := g) he.1 (by omega)
    have h3 := cC_r (c := σ 9) (n := 192) (f := g)
    rw [hp0.1] at h2
    rw [if_neg (show ¬ ((-1 : Int) = g) by omega)] at h2
    by_cases hg : g = f
    · subst hg
      rw [if_pos rfl] at h2
      rw [uc_s]
      exact ⟨h1.1, h1.2.1, fun q => absurd q hk, fun _ _ => by omega, fun _ _ => by omega⟩
    · rw [if_neg (fun q => hg q.symm)] at h2
      rw [uc_n hg, h2]
      have : g ≠ x := by omega
      exact ⟨h1.1, h1.2.1, fun q => by have := h1.2.2.1 q; omega, fun _ q => by have := h1.2.2.2.1 this q; omega, fun _ q => by have := h1.2.2.2.2 this q; omega⟩
  · refine ⟨hBl.1, hBl.2.1, fun d d0 d1 d2 => ?_⟩
    have h1 := hBl.2.2 d d0 d1 d2
    have hde : d ≠ e := fun q => by rw [q] at h1; omega
    have hdf : σ 9 d ≠ f := fun q => by
      rw [q] at h1
      rcases hS h1.2.1 with z | z
      · exact cC_0.mp z.1 d d0 (by omega) q
      · exact z.1 h1.2.2.1
    rw [uc_n hde, uc_n hde]
    refine ⟨h1.1, h1.2.1, h1.2.2.1, fun c c0 c1 c2 => ?_⟩
    by_cases hc : c = e
    · rw [hc, uc_s] at c2; exact absurd c2.symm hdf
    · rw [uc_n hc] at c2; exact h1.2.2.2 c c0 c1 c2
  · intro d d0 d1 d2 d3
    by_cases hde : d = e
    · subst hde
      rw [uc_s] at d2 d3 ⊢
      rcases hS d3 with z | z
      · refine ⟨z.2, fun c c0 c1 c2 => ?_⟩
        by_cases hc : c = d
        · exact hc
        · rw [uc_n hc] at c2; exact absurd c2 (cC_0.mp z.1 c c0 (by omega))
      · exact absurd z.2 d2
    · rw [uc_n hde] at d2 d3 ⊢
      have h1 := hWr d d0 d1 d2 d3
      refine ⟨h1.1, fun c c0 c1 c2 => ?_⟩
      by_cases hc : c = e
      · rw [hc, uc_s] at c2
        rw [← c2] at d3 h1
        rcases hS d3 with z | z
        · exact absurd c2.symm (cC_0.mp z.1 d d0 (by omega))
        · exact absurd h1.1 z.1
      · rw [uc_n hc] at c2; exact h1.2 c c0 c1 c2
  · intro p t p0 p1 t0 t1 ht
    have h1 := hC3 p t p0 p1 t0 t1 ht
    have hte : μ 136 t ≠ e := fun q => by rw [q] at h1; omega
    rw [uc_n hte, uc_n hte]
    exact h1
