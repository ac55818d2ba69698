/-! calls: move -/
def tlM (e : Int) (σ μ : S2) : S2 := if σ 8 e = 1 then sc μ 139 (wt e (μ 135) (μ 136) (μ 139)) else μ
theorem tlM_k {e : Int} {σ μ : S2} {k : Nat} (hk : k ≠ 139) : tlM e σ μ k = μ k := by
  unfold tlM
  split
  · rw [sc_k hk]
  · rfl
theorem R_tell {x y B e : Int} {σ μ : S2} (he : 0 ≤ e ∧ e ≤ 191) (h : Rg x y B σ μ) : Rg x y B (sc σ 14 (tl e σ)) (tlM e σ μ) ∧ ∀ p t, 0 ≤ p → p ≤ 1 → 4 * p ≤ t → t < 4 * p + σ 1 p → μ 136 t = e → tlM e σ μ 139 t ≠ 0 := by
  have hh := h
  obtain ⟨⟨q102, q103, q106, q107, q108, q109, q110, q111, q116, q121, q122, q123, q124, q125, q130, q135, q140⟩, hSp, hMp, hPr, hHd, hFr, hLs, hBl, hWr, hC1, hC2, hC3, hRc, hRo, hSc, hSt, hBd⟩ := h
  unfold tl tlM
  by_cases h8 : σ 8 e = 1
  · rw [if_pos h8, if_pos h8]
    constructor
    · have hC2' := m_C2_tell he hC1.1 hC2
      have hC3' := m_C3_tell (e := e) hC1.1 hC3
      refine ⟨⟨?_, ?_, ?_, ?_, ?_, ?_, ?_, ?_, ?_, ?_, ?_, ?_, ?_, ?_, ?_, ?_, ?_⟩, ?_, ?_, ?_, ?_, ?_, ?_, ?_, ?_, ?_, ?_, ?_, ?_, ?_, ?_, ?_, ?_⟩
      all_goals (try simp (disch := decide) only [sc_s, sc_k, q102, q103, q106, q107, q108, q109, q110, q111, q116, q121, q122, q123, q124, q125, q130, q135, q140])
      all_goals (try with_reducible assumption)
    · intro p t p0 p1 t0 t1 t2
      have h3 := hC1.1 p p0 p1
      have h4 : t / 4 = p := by omega
      have h5 : t % 4 = t - 4 * p := by omega
      rw [sc_s]
      unfold wt
      rw [if_pos ⟨by omega, by omega, by rw [h4, h5, q135]; omega, t2⟩]
      decide
  · rw [if_neg h8, if_neg h8]
    refine ⟨?_, fun p t p0 p1 t0 t1 t2 t3 => ?_⟩
    · rw [sc_nop rfl]
      exact hh
    · have := (hC3 p t p0 p1 t0 t1 t3).1
      rw [t2] at this
      exact h8 this
theorem R_fgt {x y B e : Int} {σ μ : S2} (he : 0 ≤ e ∧ e ≤ 191) (h : Rg x y B σ μ) : Rg x y B (sc σ 12 (uc (σ 12) e 0)) (sc μ 141 (fg e (μ 105 0) (μ 141))) := by
  obtain ⟨⟨q102, q103, q106, q107, q108, q109, q110, q111, q116, q121, q122, q123, q124, q125, q130, q135, q140⟩, hSp, hMp, hPr, hHd, hFr, hLs, hBl, hWr, hC1, hC2, hC3, hRc, hRo, hSc, hSt, hBd⟩ := h
  have hSc2 := m_Sc_fg (d3 := σ 3) he (fun _ _ => rfl) hSc
  refine ⟨⟨?_, ?_, ?_, ?_, ?_, ?_, ?_, ?_, ?_, ?_, ?_, ?_, ?_, ?_, ?_, ?_, ?_⟩, ?_, ?_, ?_, ?_, ?_, ?_, ?_, ?_, ?_, ?_, ?_, ?_, ?_, ?_, ?_, ?_⟩
  all_goals (try simp (disch := decide) only [sc_s, sc_k, q102, q103, q106, q107, q108, q109, q110, q111, q116, q121, q122, q123, q124, q125, q130, q135, q140])
  all_goals (try with_reducible assumption)
def swC (a b : Int) (σ : S2) : S2 := sc (sc (sc (sc (sc (sc (sc (sc (sc (sc σ 2 (uc (uc (σ 2) b 1) a 0)) 3 (uc (uc (σ 3) b (σ 3 a)) a 0)) 4 (uc (uc (σ 4) b (σ 4 a)) a (-1))) 5 (uc (uc (σ 5) b (σ 5 a)) a 0)) 6 (uc (uc (σ 6) b (σ 6 a)) a 0)) 7 (uc (uc (σ 7) b (σ 7 a)) a 0)) 8 (uc (uc (σ 8) b (σ 8 a)) a 0)) 9 (uc (uc (σ 9) b (σ 9 a)) a (-1))) 10 (uc (uc (σ 10) b (σ 10 a)) a 0)) 11 (uc (uc (σ 11) b (σ 11 a)) a (-1))
def swM (a b : Int) (μ : S2) : S2 := sc (sc (sc (sc (sc (sc (sc (sc (sc (sc μ 111 (uc (uc (μ 111) b (μ 111 a)) a 0)) 112 (uc (μ 112) b (μ 112 a))) 113 (uc (μ 113) b (μ 113 a))) 114 (uc (μ 114) b (μ 114 a))) 115 (uc (μ 115) b (μ 115 a))) 116 (uc (uc (μ 116) b (μ 116 a)) a 0)) 117 (uc (μ 117) b (μ 117 a))) 118 (uc (μ 118) b (μ 118 a))) 119 (uc (μ 119) b (μ 119 a))) 120 (uc (μ 120) b 0)
theorem sw_cC {c : Int → Int} {a b f : Int} (ha : 0 ≤ a ∧ a ≤ 191) (hb : 0 ≤ b ∧ b ≤ 191) (hab : a ≠ b) (hcb : c b = -1) (hf : 0 ≤ f) : cC (uc (uc c b (c a)) a (-1)) 192 f = cC c 192 f := by
  have h1 := cC_uc (c := uc c b (c a)) (n := 192) (a := a) (v := -1) (f := f) ha.1 (by omega)
  have h2 := cC_uc (c := c) (n := 192) (a := b) (v := c a) (f := f) hb.1 (by omega)
  rw [h1, h2, uc_n hab, hcb, if_neg (show ¬ (-1 : Int) = f by omega)]
  omega
theorem R_swap {B a b : Int} {σ μ : S2} (ha : 0 ≤ a ∧ a ≤ 191) (hb : 0 ≤ b ∧ b ≤ 191) (hab : a ≠ b) (h3a : σ 3 a ≠ 0) (h3b : σ 3 b = 0) (hbm : b < 32 * σ 41 0) (h46 : σ 46 (a / 4) = 0) (h12a : σ 12 a = 0) (h12b : σ 12 b = 0) (hC : ∀ p t, 0 ≤ p → p ≤ 1 → 4 * p ≤ t → t < 4 * p + σ 1 p → (μ 136 t = a ∨ μ 136 t = b) → μ 139 t ≠ 0) (h : Rg (-1) (-1) B σ μ) : Rg (-1) (-1) B (swC a b σ) (swM a b μ) := by
  obtain ⟨⟨q102, q103, q106, q107, q108, q109, q110, q111, q116, q121, q122, q123, q124, q125, q130, q135, q140⟩, hSp, hMp, hPr, hHd, hFr, hLs, hBl, hWr, hC1, hC2, hC3, hRc, hRo, hSc, hSt, hBd⟩ := h
  have hba : b ≠ a := fun z => hab z.symm
  have hma := hMp a ha.1 ha.2
  have hmb := hMp b hb.1 hb.2
  have hpa := hPr a ha.1 ha.2
  have hpb := hPr b hb.1 hb.2
  have h8b := hpb.2.1 h3b
  have h9b := hpb.2.2.2.1 (by omega)
  have h11b := hpb.2.2.2.2.2 (by omega)
  have h46b : σ 46 (b / 4) = 0 := by
    apply Classical.byContradiction
    intro q
    have := (hBl.2.2 b hb.1 hb.2 q).1
    omega
  unfold swC swM
  refine ⟨⟨?_, ?_, ?_, ?_, ?_, ?_, ?_, ?_, ?_, ?_, ?_, ?_, ?_, ?_, ?_, ?_, ?_⟩, ?_, ?_, ?_, ?_, ?_, ?_, ?_, ?_, ?_, ?_, ?_, ?_, ?_, ?_, ?_, ?_⟩
  all_goals (try simp (disch := decide) only [sc_s, sc_k, q102, q103, q106, q107, q108, q109, q110, q111, q116, q121, q122, q123, q124, q125, q130, q135, q140])
  all_goals (try with_reducible assumption)
  · obtain ⟨a1, a2, a3, a4, a5, a6⟩ := hSp
    refine ⟨a1, a2, a3, a4, fun d d0 d1 => ?_, a6⟩
    have h1 := a5 d d0 d1
    by_cases hd : d = a
    · rw [hd, uc_s]
    · rw [uc_n hd, uc_n (show d ≠ b by omega)]
      exact h1
  · intro d d0 d1
    have h1 := hMp d d0 d1
    by_cases hd : d = a
    · subst hd
      simp only [uc_s, uc_n hab]
      exact ⟨by decide, by decide, fun _ => trivial, fun q => absurd rfl q⟩
    · by_cases hd2 : d = b
      · subst hd2
        simp only [uc_n hba, uc_s]
        have h2 := hma.2.2.2 h3a
        exact ⟨hma.1, hma.2.1, fun z => absurd z h3a, fun _ => ⟨trivial, h2.2⟩⟩
      · simp only [uc_n hd, uc_n hd2]
        exact h1
  · intro d d0 d1
    have h1 := hPr d d0 d1
    by_cases hd : d = a
    · subst hd
      simp only [uc_s]
      exact ⟨Or.inl trivial, fun _ => trivial, fun z => absurd z (by decide), fun _ => ⟨trivial, trivial⟩, fun z => absurd z (by decide), fun _ => trivial⟩
    · by_cases hd2 : d = b
      · subst hd2
        simp only [uc_n hba, uc_s]
        exact hpa
      · simp only [uc_n hd, uc_n hd2]
        exact h1
  · intro f f0 f1
    rw [sw_cC ha hb hab h9b.1 f0]
    exact hHd f f0 f1
  · refine ⟨hBl.1, fun d d0 d1 => ?_, fun d d0 d1 d2 => ?_⟩
    · have h1 := hBl.2.1 d d0 d1
      by_cases hd : d = b
      · rw [hd, uc_s, h46b]
      · rw [uc_n hd]
        exact h1
    · have h1 := hBl.2.2 d d0 d1 d2
      have hda : d ≠ a := fun z => d2 (by rw [z]; exact h46)
      have hdb : d ≠ b := fun z => d2 (by rw [z]; exact h46b)
      have h9 := (hPr d d0 d1).2.2.1 h1.1
      rw [uc_n hda, uc_n hdb, uc_n hda, uc_n hdb]
      refine ⟨h1.1, h1.2.1, h1.2.2.1, fun w w0 w1 w2 => ?_⟩
      by_cases hwa : w = a
      · rw [hwa, uc_s] at w2
        omega
      · rw [uc_n hwa] at w2
        by_cases hwb : w = b
        · rw [hwb, uc_s] at w2
          exact absurd (h1.2.2.2 a ha.1 ha.2 w2) (fun z => hda z.symm)
        · rw [uc_n hwb] at w2
          exact h1.2.2.2 w w0 w1 w2
  · intro d d0 d1 d2 d3
    by_cases hda : d = a
    · rw [hda, uc_s] at d2
      exact absurd rfl d2
    · rw [uc_n hda] at d2 d3 ⊢
      by_cases hdb : d = b
      · rw [hdb, uc_s] at d2 d3
        rw [hdb, uc_s]
        have h1 := hWr a ha.1 ha.2 d2 d3
        have h9 : 0 ≤ σ 9 a := by
          by_cases z : σ 8 a = 1
          · have := hpa.2.2.1 z
            omega
          · exact absurd (hpa.2.2.2.1 z).2 d2
        refine ⟨h1.1, fun w w0 w1 w2 => ?_⟩
        by_cases hwa : w = a
        · rw [hwa, uc_s] at w2
          omega
        · rw [uc_n hwa] at w2
          by_cases hwb : w = b
          · exact hwb
          · rw [uc_n hwb] at w2
            exact absurd (h1.2 w w0 w1 w2) hwa
      · rw [uc_n hdb] at d2 d3
        rw [uc_n hdb]
        have h1 := hWr d d0 d1 d2 d3
        have h9 : 0 ≤ σ 9 d := by
          by_cases z : σ 8 d = 1
          · have := (hPr d d0 d1).2.2.1 z
            omega
          · exact absurd ((hPr d d0 d1).2.2.2.1 z).2 d2
        refine ⟨h1.1, fun w w0 w1 w2 => ?_⟩
        by_cases hwa : w = a
        · rw [hwa, uc_s] at w2
          omega
        · rw [uc_n hwa] at w2
          by_cases hwb : w = b
          · rw [hwb, uc_s] at w2
            exact absurd (h1.2 a ha.1 ha.2 w2) (fun z => hda z.symm)
          · rw [uc_n hwb] at w2
            exact h1.2 w w0 w1 w2
  · intro p t p0 p1 t0 t1 t2
    have h1 := hC3 p t p0 p1 t0 t1 t2
    have na : μ 136 t ≠ a := fun z => hC p t p0 p1 t0 t1 (Or.inl z) t2
    have nb : μ 136 t ≠ b := fun z => hC p t p0 p1 t0 t1 (Or.inr z) t2
    rw [uc_n na, uc_n nb, uc_n na, uc_n nb]
    exact h1
  · intro r r0 r1
    rw [sw_cC ha hb hab h11b r0]
    exact hRc r r0 r1
  · obtain ⟨a1, a2, a3, a4, a5, a6, a7, a8, a9, a10⟩ := hSc
    refine ⟨a1, a2, a3, a4, a5, a6, a7, a8, a9, fun d d0 d1 => ?_⟩
    have h1 := a10 d d0 d1
    refine ⟨h1.1, h1.2.1, h1.2.2.1, fun z => ?_⟩
    rw [uc_n (fun w => z (by rw [w]; exact h12a)), uc_n (fun w => z (by rw [w]; exact h12b))]
    exact h1.2.2.2 z
theorem e7_takeOver {a b : Int} {σ : S2} (ha : 0 ≤ a ∧ a ≤ 191) (hb : 0 ≤ b ∧ b ≤ 191) (h3 : 0 ≤ σ 3 a ∧ σ 3 a ≤ 3) (h4 : -1 ≤ σ 4 a ∧ σ 4 a ≤ 2) (h5 : 0 ≤ σ 5 a ∧ σ 5 a ≤ 7) (h6 : 0 ≤ σ 6 a ∧ σ 6 a ≤ 1) (h7 : 0 ≤ σ 7 a ∧ σ 7 a ≤ 1) (h46 : σ 4 a = -1 → σ 5 a = 0 ∧ σ 6 a = 0) : FX1_takeOver b a σ = some (0, sc (swC a b σ) 12 (uc (uc (σ 12) b 0) a 0)) := by
  have e5 : (if σ 4 a = -1 then 0 else σ 5 a) = σ 5 a := by
    split
    · rename_i z; exact (h46 z).1.symm
    · rfl
  have e6 : (if σ 4 a ≠ -1 ∧ σ 6 a ≠ 0 then 1 else 0) = σ 6 a := by
    by_cases z : σ 4 a = -1
    · rw [if_neg (fun q => q.1 z)]; exact (h46 z).2.symm
    · by_cases z2 : σ 6 a = 0
      · rw [if_neg (fun q => q.2 z2), z2]
      · rw [if_pos ⟨z, z2⟩]; omega
  unfold FX1_takeOver
  rw [gd_pos hb, gd_pos ha, cb_e (e7_est hb h3 h4 (fun _ => h5) h6 h7), e5, e6]
  simp (disch := decide) only [bn, u2_sc, sc_s, sc_k]
  rw [cb_e (e7_clear ha)]
  unfold abC swC
  congr 2
  funext k
  simp (disch := decide) only [sc_s, sc_k]
  by_cases h2 : k = 2
  · subst h2; simp (disch := decide) only [sc_s, sc_k]
  by_cases h3 : k = 3
  · subst h3; simp (disch := decide) only [sc_s, sc_k]
  by_cases h4 : k = 4
  · subst h4; simp (disch := decide) only [sc_s, sc_k]
  by_cases h5 : k = 5
  · subst h5; simp (disch := decide) only [sc_s, sc_k]
  by_cases h6 : k = 6
  · subst h6; simp (disch := decide) only [sc_s, sc_k]
  by_cases h7 : k = 7
  · subst h7; simp (disch := decide) only [sc_s, sc_k]
  by_cases h8 : k = 8
  · subst h8; simp (disch := decide) only [sc_s, sc_k]
  by_cases h9 : k = 9
  · subst h9; simp (disch := decide) only [sc_s, sc_k]
  by_cases h10 : k = 10
  · subst h10; simp (disch := decide) only [sc_s, sc_k]
  by_cases h11 : k = 11
  · subst h11; simp (disch := decide) only [sc_s, sc_k]
  by_cases h12 : k = 12
  · subst h12; simp (disch := decide) only [sc_s, sc_k]
  simp only [sc, h2, h3, h4, h5, h6, h7, h8, h9, h10, h11, h12, if_false]
def cpM (a b : Int) (μ : S2) : S2 := sc (sc (sc (sc (sc (sc (sc (sc (sc (sc μ 111 (uc (μ 111) b (μ 111 a))) 112 (uc (μ 112) b (μ 112 a))) 113 (uc (μ 113) b (μ 113 a))) 114 (uc (μ 114) b (μ 114 a))) 115 (uc (μ 115) b (μ 115 a))) 116 (uc (μ 116) b (μ 116 a))) 117 (uc (μ 117) b (μ 117 a))) 118 (uc (μ 118) b 0)) 119 (uc (μ 119) b (μ 119 a))) 120 (uc (μ 120) b 0)
theorem e8_copies {a b : Int} {μ : S2} (ha : 0 ≤ a ∧ a ≤ 191) (hb : 0 ≤ b ∧ b ≤ 191) (hab : a ≠ b) (h3 : 0 ≤ μ 111 a ∧ μ 111 a ≤ 3) (h4 : -1 ≤ μ 112 a ∧ μ 112 a ≤ 2) (h5 : 0 ≤ μ 113 a ∧ μ 113 a ≤ 7) (h6 : 0 ≤ μ 114 a ∧ μ 114 a ≤ 1) (h7 : 0 ≤ μ 115 a ∧ μ 115 a ≤ 1) (h46 : μ 112 a = -1 → μ 113 a = 0 ∧ μ 114 a = 0) : FX8_copies a b μ = some (0, cpM a b μ) := by
  have e5 : (if μ 112 a = -1 then 0 else μ 113 a) = μ 113 a := by
    split
    · rename_i z; exact (h46 z).1.symm
    · rfl
  have e6 : (if μ 112 a ≠ -1 ∧ μ 114 a ≠ 0 then 1 else 0) = μ 114 a := by
    by_cases z : μ 112 a = -1
    · rw [if_neg (fun q => q.1 z)]; exact (h46 z).2.symm
    · by_cases z2 : μ 114 a = 0
      · rw [if_neg (fun q => q.2 z2), z2]
      · rw [if_pos ⟨z, z2⟩]; omega
  unfold FX8_copies
  rw [gd_pos ha, gd_pos hb, cb_e (e8_lays hb h3 h4 (fun _ => h5) h6 h7)]
  unfold laM
  rw [e5, e6]
  simp (disch := decide) only [bn, u2_sc, sc_s, sc_k]
  rw [uc_n hab, uc_uc]
  unfold cpM
  congr 2
  funext k
  by_cases h111 : k = 111
  · subst h111; simp (disch := decide) only [sc_s, sc_k]
  by_cases h112 : k = 112
  · subst h112; simp (disch := decide) only [sc_s, sc_k]
  by_cases h113 : k = 113
  · subst h113; simp (disch := decide) only [sc_s, sc_k]
  by_cases h114 : k = 114
  · subst h114; simp (disch := decide) only [sc_s, sc_k]
  by_cases h115 : k = 115
  · subst h115; simp (disch := decide) only [sc_s, sc_k]
  by_cases h116 : k = 116
  · subst h116; simp (disch := decide) only [sc_s, sc_k]
  by_cases h117 : k = 117
  · subst h117; simp (disch := decide) only [sc_s, sc_k]
  by_cases h118 : k = 118
  · subst h118; simp (disch := decide) only [sc_s, sc_k]
  by_cases h119 : k = 119
  · subst h119; simp (disch := decide) only [sc_s, sc_k]
  by_cases h120 : k = 120
  · subst h120; simp (disch := decide) only [sc_s, sc_k]
  simp only [sc, h111, h112, h113, h114, h115, h116, h117, h118, h119, h120, if_false]
theorem ub_uc {a b : Int} {c : Int → Int} : ub a (uc c b 0) = uc (ub a c) b 0 := by
  funext t
  show (if a / 4 * 4 ≤ t ∧ t < a / 4 * 4 + 4 then 0 else (if t = b then 0 else c t)) = if t = b then 0 else (if a / 4 * 4 ≤ t ∧ t < a / 4 * 4 + 4 then 0 else c t)
  by_cases h1 : a / 4 * 4 ≤ t ∧ t < a / 4 * 4 + 4
  · rw [if_pos h1, if_pos h1]
    split <;> rfl
  · rw [if_neg h1, if_neg h1]
/-- an address moves -/
theorem P_mov {B a b : Int} {σ μ : S2} (ha : 0 ≤ a ∧ a ≤ 191) (hb : 0 ≤ b ∧ b ≤ 191) (h3a : σ 3 a ≠ 0) (h3b : σ 3 b = 0) (hbm : b < 32 * σ 41 0) (h : Rg (-1) (-1) B σ μ) : ∃ s1 m1, (∀ K : S2 → Option (Int × S2), (cb (FX1_tellProcessors a σ) fun r6 s10 => gd (0 ≤ a ∧ a ≤ 191) <| cb (FX7_setJoined (a / 4) 0 s10) fun r7 s11 => cb (FX1_takeOver b a s11) fun r8 s12 => K s12) = K s1) ∧ (∀ K : S2 → Option (Int × S2), (cb (FX8_copies a b μ) fun r4 s8 => gd (0 ≤ b ∧ b ≤ 191) <| gd (0 ≤ a ∧ a ≤ 191) <| bn (upd2 s8 118 b (s8 118 a)) fun s9 => bn (fun (s10 : S2) => cb (FX8_unblocks a s10) fun r6 s12 => bn (upd2 s12 111 a 0) fun s13 => bn (upd2 s13 116 a 0) fun s14 => cb (FX8_forgets a s14) fun r7 s15 => cb (FX8_forgets b s15) fun r8 s16 => K s16) fun k5 => if s9 116 a = 1 then cb (FX8_tells a s9) fun r5 s11 => k5 s11 else k5 s9) = K m1) ∧ Rg (-1) (-1) B s1 m1 ∧ m1 101 = μ 101 ∧ s1 41 = σ 41 ∧ s1 35 = σ 35 ∧ ∀ d, d ≠ a → d ≠ b → s1 3 d = σ 3 d := by
  have hab : a ≠ b := fun z => h3a (by rw [z]; exact h3b)
  obtain ⟨hA, hA2⟩ := R_tell ha h
  have hB := R_unb ha hA
  have hD := R_fgt ha hB
  have hE := R_fgt hb hD
  have hh := h
  obtain ⟨⟨q102, q103, q106, q107, q108, q109, q110, q111, q116, q121, q122, q123, q124, q125, q130, q135, q140⟩, hSp, hMp, hPr, hHd, hFr, hLs, hBl, hWr, hC1, hC2, hC3, hRc, hRo, hSc, hSt, hBd⟩ := h
  have hma := (hMp a ha.1 ha.2).2.2.2 h3a
  have hmr := hMp a ha.1 ha.2
  have h105 : 0 ≤ μ 105 0 ∧ μ 105 0 ≤ 192 := by
    obtain ⟨b1, b2, b3, b4, b5, b6, b7, b8⟩ := hSc
    omega
  have t105 : tlM a σ μ 105 = μ 105 := tlM_k (by decide)
  have t120 : tlM a σ μ 120 = μ 120 := tlM_k (by decide)
  have t136 : tlM a σ μ 136 = μ 136 := tlM_k (by decide)
  have t141 : tlM a σ μ 141 = μ 141 := tlM_k (by decide)
  have hF := R_swap ha hb hab (by simp (disch := decide) only [sc_s, sc_k]; exact h3a) (by simp (disch := decide) only [sc_s, sc_k]; exact h3b) (by simp (disch := decide) only [sc_s, sc_k]; exact hbm) (by simp (disch := decide) only [sc_s, sc_k, uc_s]) (by simp (disch := decide) only [sc_s, sc_k]; rw [uc_n hab, uc_s]) (by simp (disch := decide) only [sc_s, sc_k, uc_s]) (by
    simp (disch := decide) only [sc_s, sc_k]
    rw [t136]
    intro p t p0 p1 t0 t1 t2
    rcases t2 with t2 | t2
    · exact hA2 p t p0 p1 t0 t1 t2
    · intro t3
      have h8b := (hPr b hb.1 hb.2).2.1 h3b
      have t3' : μ 139 t = 0 := by
        unfold tlM at t3
        by_cases z : σ 8 a = 1
        · rw [if_pos z, sc_s] at t3
          unfold wt at t3
          split at t3
          · exact absurd t3 (by decide)
          · exact t3
        · rw [if_neg z] at t3
          exact t3
      have := (hC3 p t p0 p1 t0 t1 t3').1
      rw [t2] at this
      omega) hE
  refine ⟨_, _, fun K => ?_, fun K => ?_, hF, ?_, ?_, ?_, ?_⟩
  · rw [cb_e (e7_tell ha), gd_pos ha, cb_e (e7_setJ0 ha), cb_e (e7_takeOver ha hb (by simp (disch := decide) only [sc_s, sc_k]; exact ⟨hmr.1, hmr.2.1⟩) (by simp (disch := decide) only [sc_s, sc_k]; omega) (by simp (disch := decide) only [sc_s, sc_k]; omega) (by simp (disch := decide) only [sc_s, sc_k]; omega) (by simp (disch := decide) only [sc_s, sc_k]; omega) (by simp (disch := decide) only [sc_s, sc_k]; exact hma.2.2.2.2.2.2.2.2.2.2.2.2.2))]
    congr 1
    unfold swC
    funext k
    simp (disch := decide) only [sc_s, sc_k]
    by_cases h2 : k = 2
    · subst h2; simp (disch := decide) only [sc_s, sc_k]
    by_cases h3 : k = 3
    · subst h3; simp (disch := decide) only [sc_s, sc_k]
    by_cases h4 : k = 4
    · subst h4; simp (disch := decide) only [sc_s, sc_k]
    by_cases h5 : k = 5
    · subst h5; simp (disch := decide) only [sc_s, sc_k]
    by_cases h6 : k = 6
    · subst h6; simp (disch := decide) only [sc_s, sc_k]
    by_cases h7 : k = 7
    · subst h7; simp (disch := decide) only [sc_s, sc_k]
    by_cases h8 : k = 8
    · subst h8; simp (disch := decide) only [sc_s, sc_k]
    by_cases h9 : k = 9
    · subst h9; simp (disch := decide) only [sc_s, sc_k]
    by_cases h10 : k = 10
    · subst h10; simp (disch := decide) only [sc_s, sc_k]
    by_cases h11 : k = 11
    · subst h11; simp (disch := decide) only [sc_s, sc_k]
    by_cases h12 : k = 12
    · subst h12; simp (disch := decide) only [sc_s, sc_k]; exact uc_comm (fun z => hab z.symm)
    by_cases h14 : k = 14
    · subst h14; simp (disch := decide) only [sc_s, sc_k]
    by_cases h46 : k = 46
    · subst h46; simp (disch := decide) only [sc_s, sc_k]
    simp only [sc, h2, h3, h4, h5, h6, h7, h8, h9, h10, h11, h12, h14, h46, if_false]
  · have hc := e8_copies (μ := μ) ha hb hab (by rw [q111]; exact ⟨hmr.1, hmr.2.1⟩) (by omega) (by omega) (by omega) (by omega) (by rw [hma.2.1, hma.2.2.1, hma.2.2.2.1]; exact hma.2.2.2.2.2.2.2.2.2.2.2.2.2)
    rw [cb_e hc, gd_pos hb, gd_pos ha]
    unfold cpM
    simp (disch := decide) only [bn, u2_sc, sc_s, sc_k]
    rw [uc_n hab, uc_n hab]
    by_cases z : σ 8 a = 1
    · have z2 : μ 116 a = 1 := by rw [q116]; exact z
      have t139 : tlM a σ μ = sc μ 139 (wt a (μ 135) (μ 136) (μ 139)) := if_pos z
      rw [if_pos z2, cb_e (e8_tells ha (by simp (disch := decide) only [sc_s, sc_k]; exact hC2.2.1)), cb_e (e8_unblocks ha)]
      simp (disch := decide) only [u2_sc, sc_s, sc_k]
      rw [cb_e (e8_forgets ha (by simp (disch := decide) only [sc_s, sc_k]; exact h105))]
      simp (disch := decide) only [sc_s, sc_k]
      rw [cb_e (e8_forgets hb (by simp (disch := decide) only [sc_s, sc_k]; exact h105)), t139]
      congr 1
      unfold swM
      funext k
      simp (disch := decide) only [sc_s, sc_k, ub_uc, uc_uc]
      by_cases h111 : k = 111
      · subst h111; simp (disch := decide) only [sc_s, sc_k]
      by_cases h112 : k = 112
      · subst h112; simp (disch := decide) only [sc_s, sc_k]
      by_cases h113 : k = 113
      · subst h113; simp (disch := decide) only [sc_s, sc_k]
      by_cases h114 : k = 114
      · subst h114; simp (disch := decide) only [sc_s, sc_k]
      by_cases h115 : k = 115
      · subst h115; simp (disch := decide) only [sc_s, sc_k]
      by_cases h116 : k = 116
      · subst h116; simp (disch := decide) only [sc_s, sc_k]
      by_cases h117 : k = 117
      · subst h117; simp (disch := decide) only [sc_s, sc_k]
      by_cases h118 : k = 118
      · subst h118; simp (disch := decide) only [sc_s, sc_k]
      by_cases h119 : k = 119
      · subst h119; simp (disch := decide) only [sc_s, sc_k]
      by_cases h120 : k = 120
      · subst h120; simp (disch := decide) only [sc_s, sc_k]
      by_cases h139 : k = 139
      · subst h139; simp (disch := decide) only [sc_s, sc_k]
      by_cases h141 : k = 141
      · subst h141; simp (disch := decide) only [sc_s, sc_k]
      simp only [sc, h111, h112, h113, h114, h115, h116, h117, h118, h119, h120, h139, h141, if_false]
    · have z2 : ¬ μ 116 a = 1 := by rw [q116]; exact z
      have t139 : tlM a σ μ = μ := if_neg z
      rw [if_neg z2, cb_e (e8_unblocks ha)]
      simp (disch := decide) only [u2_sc, sc_s, sc_k]
      rw [cb_e (e8_forgets ha (by simp (disch := decide) only [sc_s, sc_k]; exact h105))]
      simp (disch := decide) only [sc_s, sc_k]
      rw [cb_e (e8_forgets hb (by simp (disch := decide) only [sc_s, sc_k]; exact h105)), t139]
      congr 1
      unfold swM
      funext k
      simp (disch := decide) only [sc_s, sc_k, ub_uc, uc_uc]
      by_cases h111 : k = 111
      · subst h111; simp (disch := decide) only [sc_s, sc_k]
      by_cases h112 : k = 112
      · subst h112; simp (disch := decide) only [sc_s, sc_k]
      by_cases h113 : k = 113
      · subst h113; simp (disch := decide) only [sc_s, sc_k]
      by_cases h114 : k = 114
      · subst h114; simp (disch := decide) only [sc_s, sc_k]
      by_cases h115 : k = 115
      · subst h115; simp (disch := decide) only [sc_s, sc_k]
      by_cases h116 : k = 116
      · subst h116; simp (disch := decide) only [sc_s, sc_k]
      by_cases h117 : k = 117
      · subst h117; simp (disch := decide) only [sc_s, sc_k]
      by_cases h118 : k = 118
      · subst h118; simp (disch := decide) only [sc_s, sc_k]
      by_cases h119 : k = 119
      · subst h119; simp (disch := decide) only [sc_s, sc_k]
      by_cases h120 : k = 120
      · subst h120; simp (disch := decide) only [sc_s, sc_k]
      by_cases h141 : k = 141
      · subst h141; simp (disch := decide) only [sc_s, sc_k]
      simp only [sc, h111, h112, h113, h114, h115, h116, h117, h118, h119, h120, h141, if_false]
  · unfold swM
    simp (disch := decide) only [sc_s, sc_k]
    exact tlM_k (by decide)
  · unfold swC
    simp (disch := decide) only [sc_s, sc_k]
  · unfold swC
    simp (disch := decide) only [sc_s, sc_k]
  · intro d d0 d1
    unfold swC
    simp (disch := decide) only [sc_s, sc_k]
    rw [uc_n d0, uc_n d1]
theorem s_move : gSim_move Iv := by
  intro n σ μ s a c b hI hn hs ha hc hb
  have h := hI
  unfold Iv at h
  have h416 := h.2.1.2.1
  obtain ⟨e106, e102'⟩ := lv_al h
  have e102 : μ 102 0 = σ 41 0 := by rw [e102']
  have e106s : μ 106 s = σ 35 s := by rw [e106]
  by_cases h1 : (0 ≤ s) ∧ (s ≤ σ 41 0 - 1)
  · have hk := h.2.1.2.2.1 s (by omega) (by omega)
    by_cases h2 : (((((0 ≤ a) ∧ (a ≤ 31)) ∧ ((1 ≤ c) ∧ (c ≤ 32))) ∧ (a + c ≤ 32)) ∧ ((0 ≤ b) ∧ (b ≤ 31))) ∧ (b + c ≤ 32)
    · have hd1 : (((0 ≤ a) ∧ (a ≤ 31)) ∧ ((1 ≤ c) ∧ (c ≤ 32 - a))) ∧ (((0 ≤ b) ∧ (b ≤ 31)) ∧ ((1 ≤ c) ∧ (c ≤ 32 - b))) := by omega
      by_cases h35 : σ 35 s = 1
      · obtain ⟨N, hN⟩ := Int.eq_ofNat_of_zero_le (show 0 ≤ c by omega)
        obtain ⟨ca, a1, a2, a3, a4, a5, a6, a7⟩ := P_mapd (s := s) (a := a) (n := c) (by omega) h2.1.1.1.1 hN h2.1.1.1.2 h2.1.1.2 h
        obtain ⟨cb', b1, b2, b3, b4, b5, b6, b7⟩ := P_mapd (s := s) (a := b) (n := c) (by omega) h2.1.2 hN h2.1.1.1.2 h2.2 h
        have a2' := a2 1 (by decide) (by decide)
        have b2' := b2 0 (by decide) (by decide)
        rw [if_pos (show (1 : Int) ≠ 0 by decide)] at a2'
        rw [if_neg (show ¬ ((0 : Int) ≠ 0) by decide)] at b2'
        by_cases hz : ca = c
        · rw [if_pos hz] at a2'
          by_cases hz2 : cb' = 0
          · rw [if_pos hz2] at b2'
            have m3 := a7 hz
            have n3 := b6 hz2
            have hT := R_tw (c := 0) h
            obtain ⟨S, M, hS0, hM0, hJ, hT2⟩ := chain (J := fun j p q => Rg (-1) (-1) (4000000 * (n : Int)) p q ∧ q 101 = tw 0 μ 101 ∧ p 41 = σ 41 ∧ ∀ d : Int, ¬ (32 * s + a ≤ d ∧ d < 32 * s + a + j) → ¬ (32 * s + b ≤ d ∧ d < 32 * s + b + j) → p 3 d = σ 3 d)
              (T := fun j p q p' q' => (∀ K : S2 → Option (Int × S2), (cb (FX1_tellProcessors (32 * s + (a + j)) p) fun r6 s10 => gd (0 ≤ 32 * s + (a + (j : Int)) ∧ 32 * s + (a + (j : Int)) ≤ 191) <| cb (FX7_setJoined ((32 * s + (a + j)) / 4) 0 s10) fun r7 s11 => cb (FX1_takeOver (32 * s + (b + j)) (32 * s + (a + j)) s11) fun r8 s12 => K s12) = K p') ∧ (∀ K : S2 → Option (Int × S2), (cb (FX8_copies (32 * s + a + j) (32 * s + b + j) q) fun r4 s8 => gd (0 ≤ 32 * s + b + (j : Int) ∧ 32 * s + b + (j : Int) ≤ 191) <| gd (0 ≤ 32 * s + a + (j : Int) ∧ 32 * s + a + (j : Int) ≤ 191) <| bn (upd2 s8 118 (32 * s + b + j) (s8 118 (32 * s + a + j))) fun s9 => bn (fun (s10 : S2) => cb (FX8_unblocks (32 * s + a + j) s10) fun r6 s12 => bn (upd2 s12 111 (32 * s + a + j) 0) fun s13 => bn (upd2 s13 116 (32 * s + a + j) 0) fun s14 => cb (FX8_forgets (32 * s + a + j) s14) fun r7 s15 => cb (FX8_forgets (32 * s + b + j) s15) fun r8 s16 => K s16) fun k5 => if s9 116 (32 * s + a + j) = 1 then cb (FX8_tells (32 * s + a + j) s9) fun r5 s11 => k5 s11 else k5 s9) = K q')) N (by
              rintro j p q hj ⟨g1, g2, g3, g4⟩
              rw [show 32 * s + (a + (j : Int)) = 32 * s + a + j by omega, show 32 * s + (b + (j : Int)) = 32 * s + b + j by omega]
              have ea := m3 (32 * s + a + j) (by omega) (by omega)
              have eb := n3 (32 * s + b + j) (by omega) (by omega)
              have ea2 : p 3 (32 * s + a + j) = σ 3 (32 * s + a + j) := g4 _ (by omega) (fun z => ea (n3 _ z.1 (by omega)))
              have eb2 : p 3 (32 * s + b + j) = σ 3 (32 * s + b + j) := g4 _ (fun z => m3 _ z.1 (by omega) eb) (by omega)
              obtain ⟨s1, m1, c1, c2, c3, c4, c5, c6, c7⟩ := P_mov (a := 32 * s + a + j) (b := 32 * s + b + j) (by omega) (by omega) (by rw [ea2]; exact ea) (by rw [eb2]; exact eb) (by rw [g3]; omega) g1
              refine ⟨s1, m1, ⟨c1, c2⟩, c3, c4.trans g2, c5.trans g3, fun d d0 d1 => ?_⟩
              rw [c7 d (by omega) (by omega)]
              exact g4 d (by omega) (by omega)) σ (tw 0 μ) ⟨hT, rfl, rfl, fun _ _ _ => rfl⟩
            obtain ⟨g1, g2, g3, g4⟩ := hJ N (Nat.le_refl _)
            obtain ⟨rr, d1, d2, d3, d4⟩ := P_regions (s := s) (by omega) g1
            refine ⟨rr, S N, rr, M N, ?_, ?_, Or.inl (gx_0 (by omega)), ?_, fun _ => rfl, iv_ok (B := 4000000 * (n : Int)) (by omega) g1⟩
            · unfold FX7_move
              refine rgx_eq ?_ (Or.inr (by omega))
              rw [gd_pos hs, gd_pos ha, gd_pos hc, gd_pos hb, cb_e (x_kn hs h1 h416), if_neg (by rw [gx_0 hs.1]; decide), cb_e (x_dem hd1), if_neg (by decide)]
              simp only [bn]
              rw [if_pos (by omega), cb_e a1, if_pos hz, cb_e b1, if_pos hz2, cb_e (x_per rfl), if_neg (by decide), ← hS0]
              refine run1 (N := N) (x0 := 0) (by omega) ?_ ?_
              · intro k j hj
                have h3 := (hT2 j hj).1 (fun s12 => k ((j : Int) + 1) s12)
                rw [Int.zero_add, if_pos (by omega), gd_pos (by omega)]
                refine Eq.trans ?_ h3
                rw [cb_e (e7_tell (by omega)), cb_e (e7_tell (by omega)), gd_pos (by omega), gd_pos (by omega), cb_e (e7_setJ0 (by omega)), cb_e (e7_setJ0 (by omega)), gd_pos (by omega)]
              · intro k
                rw [if_neg (by omega), cb_e d1]
            · unfold FX8_move
              refine rgd_eq ?_ (by omega) (by omega)
              rw [gd_pos hs, gd_pos ha, gd_pos hc, gd_pos hb]
              simp only [bn]
              rw [if_pos (by rw [e102, e106s]; exact ⟨⟨h1, by omega⟩, h2⟩), cb_e a2', if_pos (by decide), cb_e b2', if_pos (by decide), cb_e (q_3 (by rw [e102]; exact h1) h2 rfl), if_pos (by decide), ← hM0]
              refine run1 (N := N) (x0 := 0) (by omega) ?_ ?_
              · intro k j hj
                have h3 := (hT2 j hj).2 (fun s16 => k ((j : Int) + 1) s16)
                rw [Int.zero_add, if_pos (by omega)]
                exact h3
              · intro k
                rw [if_neg (by omega), cb_e d2]
            · rw [gx_0 (by omega), g2]
              exact tw_0
          · rw [if_neg hz2] at b2'
            refine ⟨-1000000000003, σ, 0, tw 3 μ, ?_, ?_, by decide, by rw [gx_3]; exact tw_0, fun z => absurd z (by decide), iv_th hI⟩
            · unfold FX7_move
              refine rgx_eq ?_ (Or.inl (by decide))
              rw [gd_pos hs, gd_pos ha, gd_pos hc, gd_pos hb, cb_e (x_kn hs h1 h416), if_neg (by rw [gx_0 hs.1]; decide), cb_e (x_dem hd1), if_neg (by decide)]
              simp only [bn]
              rw [if_pos (by omega), cb_e a1, if_pos hz, cb_e b1, if_neg hz2, cb_e (x_perN rfl), if_pos (by decide)]
            · unfold FX8_move
              refine rgd_eq ?_ (by decide) (by decide)
              rw [gd_pos hs, gd_pos ha, gd_pos hc, gd_pos hb]
              simp only [bn]
              rw [if_pos (by rw [e102, e106s]; exact ⟨⟨h1, by omega⟩, h2⟩), cb_e a2', if_pos (by decide), cb_e b2', if_neg (by decide), cb_e (q_3c (by rw [e102]; exact h1) h2 rfl), if_neg (by decide)]
        · rw [if_neg hz] at a2'
          refine ⟨-1000000000003, σ, 0, tw 3 μ, ?_, ?_, by decide, by rw [gx_3]; exact tw_0, fun z => absurd z (by decide), iv_th hI⟩
          · unfold FX7_move
            refine rgx_eq ?_ (Or.inl (by decide))
            rw [gd_pos hs, gd_pos ha, gd_pos hc, gd_pos hb, cb_e (x_kn hs h1 h416), if_neg (by rw [gx_0 hs.1]; decide), cb_e (x_dem hd1), if_neg (by decide)]
            simp only [bn]
            rw [if_pos (by omega), cb_e a1, if_neg hz, cb_e (x_perN rfl), if_pos (by decide)]
          · unfold FX8_move
            refine rgd_eq ?_ (by decide) (by decide)
            rw [gd_pos hs, gd_pos ha, gd_pos hc, gd_pos hb]
            simp only [bn]
            rw [if_pos (by rw [e102, e106s]; exact ⟨⟨h1, by omega⟩, h2⟩), cb_e a2', if_neg (by decide), cb_e (q_3c (by rw [e102]; exact h1) h2 rfl), if_neg (by decide)]
      · refine ⟨-1000000000003, σ, 0, tw 3 μ, ?_, ?_, by decide, by rw [gx_3]; exact tw_0, fun z => absurd z (by decide), iv_th hI⟩
        · unfold FX7_move
          refine rgx_eq ?_ (Or.inl (by decide))
          rw [gd_pos hs, gd_pos ha, gd_pos hc, gd_pos hb, cb_e (x_kn hs h1 h416), if_neg (by rw [gx_0 hs.1]; decide), cb_e (x_dem hd1), if_neg (by decide)]
          simp only [bn]
          rw [if_neg (by omega), cb_e (x_perN rfl), if_pos (by decide)]
        · unfold FX8_move
          refine rgd_eq ?_ (by decide) (by decide)
          rw [gd_pos hs, gd_pos ha, gd_pos hc, gd_pos hb]
          simp only [bn]
          rw [if_neg (fun q => q.1.2 (by rw [e106s]; omega)), cb_e (q_3c (by rw [e102]; exact h1) h2 rfl), if_neg (by decide)]
    · have hd1 : ¬ ((((0 ≤ a) ∧ (a ≤ 31)) ∧ ((1 ≤ c) ∧ (c ≤ 32 - a))) ∧ (((0 ≤ b) ∧ (b ≤ 31)) ∧ ((1 ≤ c) ∧ (c ≤ 32 - b)))) := by omega
      refine ⟨-1000000000002, σ, 0, tw 2 μ, ?_, ?_, by decide, by rw [gx_2]; exact tw_0, fun z => absurd z (by decide), iv_th hI⟩
      · unfold FX7_move
        refine rgx_eq ?_ (Or.inl (by decide))
        rw [gd_pos hs, gd_pos ha, gd_pos hc, gd_pos hb, cb_e (x_kn hs h1 h416), if_neg (by rw [gx_0 hs.1]; decide), cb_e (x_demN hd1), if_pos (by decide)]
      · unfold FX8_move
        refine rgd_eq ?_ (by decide) (by decide)
        rw [gd_pos hs, gd_pos ha, gd_pos hc, gd_pos hb]
        simp only [bn]
        rw [if_neg (fun q => h2 q.2), cb_e (q_3b (by rw [e102]; exact h1) h2 (by decide)), if_neg (by decide)]
  · refine ⟨-1000000000001, σ, 0, tw 1 μ, ?_, ?_, by decide, by rw [gx_1]; exact tw_0, fun z => absurd z (by decide), iv_th hI⟩
    · unfold FX7_move
      refine rgx_eq ?_ (Or.inl (by decide))
      rw [gd_pos hs, gd_pos ha, gd_pos hc, gd_pos hb, cb_e (x_knN hs h1), if_pos (by decide)]
    · unfold FX8_move
      refine rgd_eq ?_ (by decide) (by decide)
      rw [gd_pos hs, gd_pos ha, gd_pos hc, gd_pos hb]
      simp only [bn]
      rw [if_neg (fun q => h1 (by rw [← e102]; exact q.1.1)), cb_e (q_3a (by rw [e102]; exact h1) (by decide)), if_neg (by decide)]
