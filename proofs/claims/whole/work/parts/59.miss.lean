/-! a miss: both sides -/
/-- the class's words behind a miss, to where the translation is taken -/
def msC (s e st : Int) (σ : S2) (KT : S2 → Option (Int × S2)) : Option (Int × S2) := bn (fun (x_source1 : Int) (s8 : S2) => cb (FX7_fault s e x_source1 st s8) fun r6 s11 => if r6 < 0 then some (r6, s11) else if s11 9 e < 0 then some ((-5), s11) else KT s11) fun k4 => if (σ 8 e = 0) ∧ (σ 4 e ≠ (-1)) then cb (FX7_cachedFrame (σ 4 e) (σ 5 e) s σ) fun r4 s9 => cb (FX7_pageIn r4 s9) fun r5 s10 => if r5 < 0 then some (r4, s10) else k4 r5 s10 else k4 (σ 9 e) σ
def ksL : List Nat := [0, 33, 34, 36, 37, 38, 39, 41, 42, 43, 47, 51]
def MsR (B s e st : Int) (σ μ : S2) : Prop := ∃ r s1 m1, FX8_looksAt s e st μ = some (r, m1) ∧ -5 ≤ r ∧ r ≤ 23 ∧ Rg (-1) (-1) (B + 280100) s1 m1 ∧ (0 ≤ r → s1 8 e = 1 ∧ s1 3 e = σ 3 e) ∧ (r < 0 → r = -4 ∨ r = -5) ∧ (∀ k, k ∈ ksL → s1 k = σ k) ∧ m1 101 = μ 101 ∧ ∀ KT : S2 → Option (Int × S2), msC s e st σ KT = if r < 0 then some (r, s1) else KT s1
theorem c_nop {μ : S2} {k : Nat} {i : Int} : sc μ k (uc (μ k) i (μ k i + 0)) = μ := by
  rw [Int.add_zero, uc_id rfl, sc_nop rfl]
/-- it is there, and fit -/
theorem P_ms1 {B s e st f : Int} {σ μ : S2} (hs : 0 ≤ s ∧ s ≤ 5) (he : 32 * s ≤ e ∧ e < 32 * s + 32) (hst : 0 ≤ st ∧ st ≤ 1) (h8 : σ 8 e = 1) (h9 : σ 9 e = f) (hfit : st = 0 ∨ σ 10 e ≠ 0) (h : Rg (-1) (-1) B σ μ) : MsR B s e st σ μ := by
  have he2 : 0 ≤ e ∧ e ≤ 191 := by omega
  have hh := h
  obtain ⟨⟨q102, q103, q106, q107, q108, q109, q110, q111, q116, q121, q122, q123, q124, q125, q130, q135, q140⟩, hSp, hMp, hPr, hHd, hFr, hLs, hBl, hWr, hC1, hC2, hC3, hRc, hRo, hSc, hSt, hBd⟩ := h
  have hp := hPr e he2.1 he2.2
  have hp1 := hp.2.2.1 h8
  have hfr := hFr.1 f (by omega) (by omega)
  have hcl : FX7_fault s e f st σ = some (0, if st ≠ 0 then sc (sc σ 10 (uc (σ 10) e 1)) 22 (uc (σ 22) f 0) else σ) := by
    unfold FX7_fault
    refine rgd_eq ?_ (by decide) (by decide)
    rw [gd_pos hs, gd_pos he2, gd_pos (by omega), gd_pos hst, if_pos ⟨by omega, Or.inl (by omega)⟩]
    simp only [bn]
    rw [if_neg (fun z => z h9)]
    by_cases hz : st ≠ 0
    · rw [if_pos hz, if_pos hz]
      simp (disch := decide) only [u2_sc, sc_k]
    · rw [if_neg hz, if_neg hz]
  have hR : Rg (-1) (-1) B (if st ≠ 0 then sc (sc σ 10 (uc (σ 10) e 1)) 22 (uc (σ 22) f 0) else σ) μ := by
    by_cases hz : st ≠ 0
    · rw [if_pos hz, uc_id (show σ 10 e = 1 by omega), sc_nop (σ := σ) rfl]
      have hhd := hHd f (by omega) (by omega)
      have hcp := cC_pos (c := σ 9) (n := 192) he2.1 (by omega) h9
      refine R_22 ?_ hh
      by_cases h2 : σ 15 f = 2
      · exact Or.inl h2
      · right
        have h1 : σ 15 f = 1 := by
          have : σ 15 f ≠ 0 := fun q => by have := hhd.2.2.1 q; omega
          omega
        have := (hWr e he2.1 he2.2 (by omega) (by rw [h9]; exact h1)).1
        rw [h9] at this
        exact this
    · rw [if_neg hz]; exact hh
  have s9 : (if st ≠ 0 then sc (sc σ 10 (uc (σ 10) e 1)) 22 (uc (σ 22) f 0) else σ) 9 = σ 9 := by
    split
    · simp (disch := decide) only [sc_s, sc_k]
    · rfl
  have s8 : (if st ≠ 0 then sc (sc σ 10 (uc (σ 10) e 1)) 22 (uc (σ 22) f 0) else σ) 8 = σ 8 := by
    split
    · simp (disch := decide) only [sc_s, sc_k]
    · rfl
  have s3 : (if st ≠ 0 then sc (sc σ 10 (uc (σ 10) e 1)) 22 (uc (σ 22) f 0) else σ) 3 = σ 3 := by
    split
    · simp (disch := decide) only [sc_s, sc_k]
    · rfl
  refine ⟨f, _, μ, ?_, by omega, by omega, R_B (by omega) hR, fun _ => ⟨by rw [s8]; exact h8, by rw [s3]⟩, fun z => by omega, ?_, rfl, ?_⟩
  · unfold FX8_looksAt
    refine rgd_eq ?_ (by omega) (by omega)
    rw [gd_pos hs, gd_pos he2, gd_pos hst, if_neg (show ¬ (μ 116 e ≠ 1) by rw [q116]; exact fun z => z h8)]
    simp only [bn]
    rw [if_neg (show ¬ ((st ≠ 0) ∧ (¬ (μ 118 e ≠ 0))) by omega)]
    congr 2
    omega
  · intro k hk
    unfold ksL at hk
    simp only [List.mem_cons, List.not_mem_nil, or_false] at hk
    split
    · rw [sc_k (by omega), sc_k (by omega)]
    · rfl
  · intro KT
    unfold msC
    simp only [bn]
    rw [if_neg (show ¬ ((σ 8 e = 0) ∧ (σ 4 e ≠ (-1))) by omega), h9, cb_e hcl, if_neg (by decide), s9, h9, if_neg (show ¬ f < 0 by omega), if_neg (show ¬ f < 0 by omega)]
/-- it is there, is to be stored into, and needs no copy -/
theorem P_ms2 {B s e f : Int} {σ μ : S2} (hs : 0 ≤ s ∧ s ≤ 5) (he : 32 * s ≤ e ∧ e < 32 * s + 32) (h8 : σ 8 e = 1) (h9 : σ 9 e = f) (h10 : σ 10 e = 0) (hfit : (σ 15 f = 1 ∧ σ 20 f = 1) ∨ (σ 15 f = 2 ∧ σ 6 e ≠ 0)) (h : Rg (-1) (-1) B σ μ) : MsR B s e 1 σ μ := by
  have he2 : 0 ≤ e ∧ e ≤ 191 := by omega
  have hh := h
  obtain ⟨⟨q102, q103, q106, q107, q108, q109, q110, q111, q116, q121, q122, q123, q124, q125, q130, q135, q140⟩, hSp, hMp, hPr, hHd, hFr, hLs, hBl, hWr, hC1, hC2, hC3, hRc, hRo, hSc, hSt, hBd⟩ := h
  have hp := hPr e he2.1 he2.2
  have hp1 := hp.2.2.1 h8
  have hm := hMp e he2.1 he2.2
  have h3 : σ 3 e ≠ 0 := fun z => by have := hp.2.1 z; omega
  have hm2 := hm.2.2.2 h3
  have hhd := hHd f (by omega) (by omega)
  have hcl : FX7_fault s e f 1 σ = some (0, sc (sc σ 10 (uc (σ 10) e 1)) 22 (uc (σ 22) f 0)) := by
    unfold FX7_fault
    refine rgd_eq ?_ (by decide) (by decide)
    rw [gd_pos hs, gd_pos he2, gd_pos (by omega), gd_pos (by decide), if_pos ⟨by omega, Or.inr (by
      rcases hfit with w | w
      · rw [if_neg (by omega), if_pos w.2]; decide
      · rw [if_pos w.1]; exact w.2)⟩]
    simp only [bn]
    rw [if_neg (fun z => z h9), if_pos (by decide)]
    simp (disch := decide) only [u2_sc, sc_k]
  have hcF : cC (σ 9) 192 f = σ 20 f := by
    rcases hfit with w | w
    · exact (hhd.2.2.2.1 (by omega) (by omega)).symm
    · exact (hhd.2.2.2.1 (by omega) (by omega)).symm
  have hent := e8_entriesOfS (f := f) (m := μ) (by omega) (c := σ 9) (fun d d0 d1 => by
    have h1 := hPr d d0 d1
    have h2 := hMp d d0 d1
    rw [q111, q116]
    constructor
    · rintro ⟨⟨a, b⟩, d⟩
      have := h1.2.2.1 b
      omega
    · intro a
      have h8 : σ 8 d = 1 := by
        apply Classical.byContradiction
        intro q
        have := (h1.2.2.2.1 q).1
        omega
      have h3 : σ 3 d ≠ 0 := fun q => by have := h1.2.1 q; omega
      have := h1.2.2.1 h8
      exact ⟨⟨by omega, h8⟩, by omega⟩)
  have e117 : μ 117 e = f := by omega
  refine ⟨f, sc (sc σ 10 (uc (σ 10) e 1)) 22 (uc (σ 22) f 0), if σ 15 f = 1 then sc (sc μ 126 (uc (μ 126) f 0)) 118 (uc (μ 118) e 1) else sc μ 118 (uc (μ 118) e 1), ?_, by omega, by omega, R_B (B := B) (by omega) ?_, fun _ => ⟨by simp (disch := decide) only [sc_s, sc_k]; exact h8, by simp (disch := decide) only [sc_s, sc_k]⟩, fun z => by omega, ?_, by split <;> simp (disch := decide) only [sc_s, sc_k], ?_⟩
  · unfold FX8_looksAt
    refine rgd_eq ?_ (by omega) (by omega)
    rw [gd_pos hs, gd_pos he2, gd_pos (by decide), if_neg (show ¬ (μ 116 e ≠ 1) by rw [q116]; exact fun z => z h8)]
    simp only [bn, e117]
    rw [if_pos (show ((1 : Int) ≠ 0) ∧ (¬ (μ 118 e ≠ 0)) from ⟨by decide, by omega⟩)]
    rcases hfit with w | w
    · rw [if_pos (show μ 121 f = 1 by rw [q121]; exact w.1), cb_e hent, if_pos (by omega), if_pos (by decide), if_pos w.1]
      rw [if_pos (show 0 ≤ f by omega)]
      simp (disch := decide) only [u2_sc, sc_k]
    · have h1 : ¬ μ 121 f = 1 := by rw [q121]; omega
      have h2 : ¬ ((μ 121 f = 1) ∨ (¬ (μ 114 e ≠ 0))) := by
        rw [q121, hm2.2.2.2.1]
        omega
      rw [if_neg h1, if_neg (fun z => z rfl), if_neg h2, if_neg (show ¬ σ 15 f = 1 by omega)]
      rw [if_pos (show 0 ≤ f by omega)]
      simp (disch := decide) only [u2_sc, sc_k]
  · rcases hfit with w | w
    · rw [if_pos w.1]
      exact R_wrL he2 (by omega) h8 h9 w.1 (by omega) hh
    · rw [if_neg (show ¬ σ 15 f = 1 by omega)]
      exact R_wrC h8 h9 w.1 hh
  · intro k hk
    unfold ksL at hk
    simp only [List.mem_cons, List.not_mem_nil, or_false] at hk
    rw [sc_k (by omega), sc_k (by omega)]
  · intro KT
    unfold msC
    simp only [bn]
    rw [if_neg (show ¬ ((σ 8 e = 0) ∧ (σ 4 e ≠ (-1))) by omega), h9, cb_e hcl, if_neg (by decide)]
    simp (disch := decide) only [sc_s, sc_k]
    rw [h9, if_neg (show ¬ f < 0 by omega), if_neg (show ¬ f < 0 by omega)]
