/-! the rows are the frames in the lists -/
theorem cnt_rows {pos c15 c17 c18 m128 m129 c40 : Int → Int} (h : rLp pos c15 c17 c18 m128 m129 c40) {l : Int} (hl : 0 ≤ l ∧ l ≤ 1) (P : Int → Prop) [DecidablePred P] : ∀ n : Nat, (n : Int) ≤ m129 l → cntI (fun k => P (m128 (24 * l + k))) n = cntI (fun f => (c15 f ≠ 0 ∧ c17 f = l) ∧ pos f < n ∧ P f) 24
  | 0, _ => by
    refine Eq.symm (cntI_0.mpr ?_)
    rintro f h0 h1 ⟨⟨h2, _⟩, h3, _⟩
    have := h.2.1 f h0 (by omega) h2
    omega
  | n + 1, hn => by
    have ih := cnt_rows h hl P n (by omega)
    have hr := h.2.2.1 l n hl.1 hl.2 (by omega) (by omega)
    have e1 := cntI_one (p := fun f => (c15 f ≠ 0 ∧ c17 f = l) ∧ pos f < ((n + 1 : Nat) : Int) ∧ P f) (q := fun f => (c15 f ≠ 0 ∧ c17 f = l) ∧ pos f < (n : Int) ∧ P f) (a := m128 (24 * l + n)) (n := 24) hr.1 (by omega) (by
      intro i h0 h1 h2
      constructor
      · rintro ⟨⟨a, b⟩, c, d⟩
        refine ⟨⟨a, b⟩, ?_, d⟩
        have h3 := h.2.1 i h0 (by omega) a
        by_cases hi : pos i = n
        · exact absurd (by rw [← hi, ← b]; exact h3.2.2.2.2.1.symm) h2
        · omega
      · rintro ⟨a, c, d⟩
        exact ⟨a, by omega, d⟩)
    rw [e1, ← ih]
    unfold cntI
    have e2 : (if (c15 (m128 (24 * l + n)) ≠ 0 ∧ c17 (m128 (24 * l + n)) = l) ∧ pos (m128 (24 * l + n)) < (n : Int) ∧ P (m128 (24 * l + n)) then (1 : Int) else 0) = 0 := if_neg (fun q => by have := hr.2.2.2.2; omega)
    rw [e2]
    have e3 : ((c15 (m128 (24 * l + n)) ≠ 0 ∧ c17 (m128 (24 * l + n)) = l) ∧ pos (m128 (24 * l + n)) < ((n + 1 : Nat) : Int) ∧ P (m128 (24 * l + n))) ↔ P (m128 (24 * l + n)) := ⟨fun q => q.2.2, fun q => ⟨⟨hr.2.2.1, hr.2.2.2.1⟩, by have := hr.2.2.2.2; omega, q⟩⟩
    by_cases hp : P (m128 (24 * l + n))
    · rw [if_pos hp, if_pos (e3.mpr hp)]; omega
    · rw [if_neg hp, if_neg (fun q => hp (e3.mp q))]; omega
theorem cntI_lt {p : Int → Prop} [DecidablePred p] {n : Nat} {a : Int} (h0 : 0 ≤ a) (h1 : a < n) (h : ¬ p a) : cntI p n + 1 ≤ n := by
  have e := cntI_one (p := fun _ => True) (q := fun i => if i = a then False else True) (n := n) h0 h1 (by intro i _ _ hi; simp [hi])
  have e2 : cntI p n ≤ cntI (fun i => if i = a then False else True) n := by
    have : ∀ m : Nat, m ≤ n → cntI p m ≤ cntI (fun i => if i = a then False else True) m := by
      intro m
      induction m with
      | zero => intro _; exact Int.le_refl _
      | succ m ih =>
        intro hm
        have := ih (by omega)
        unfold cntI
        by_cases hp : p (m : Int)
        · have hma : (m : Int) ≠ a := fun q => h (q ▸ hp)
          rw [if_pos hp]
          simp only [hma, if_false, if_true]
          omega
        · rw [if_neg hp]
          split <;> omega
    exact this n (Nat.le_refl _)
  have e3 := cntI_r (fun _ : Int => True) n
  simp at e
  omega
theorem m_Ls_24 {pos c15 c17 c18 m128 m129 c40 : Int → Int} (h : rLp pos c15 c17 c18 m128 m129 c40) {l : Int} (hl : 0 ≤ l ∧ l ≤ 1) : m129 l ≤ 24 := by
  obtain ⟨N, hN⟩ := Int.eq_ofNat_of_zero_le (h.1 l hl.1 hl.2)
  have h1 := cnt_rows h hl (fun _ => True) N (by omega)
  have h2 := cntI_r (fun f => (c15 f ≠ 0 ∧ c17 f = l) ∧ pos f < N ∧ True) 24
  have h3 : ∀ n : Nat, cntI (fun _ => True) n = n := fun n => by
    induction n with
    | zero => rfl
    | succ n ih => unfold cntI; rw [ih, if_pos trivial]; omega
  rw [h3] at h1
  omega
theorem m_Ls_23 {pos c15 c17 c18 m128 m129 c40 : Int → Int} (h : rLp pos c15 c17 c18 m128 m129 c40) {l f : Int} (hl : 0 ≤ l ∧ l ≤ 1) (hf : 0 ≤ f ∧ f ≤ 23) (hk : c15 f = 0 ∨ c17 f ≠ l) : m129 l ≤ 23 := by
  obtain ⟨N, hN⟩ := Int.eq_ofNat_of_zero_le (h.1 l hl.1 hl.2)
  have h1 := cnt_rows h hl (fun _ => True) N (by omega)
  have h2 := cntI_lt (p := fun f => (c15 f ≠ 0 ∧ c17 f = l) ∧ pos f < N ∧ True) (n := 24) (a := f) hf.1 (by omega) (by rintro ⟨⟨a, b⟩, _⟩; rcases hk with q | q; exact a q; exact q b)
  have h3 : ∀ n : Nat, cntI (fun _ => True) n = n := fun n => by
    induction n with
    | zero => rfl
    | succ n ih => unfold cntI; rw [ih, if_pos trivial]; omega
  rw [h3] at h1
  omega
/-! an entry leaves what it has -/
theorem m_row {pos c15 c17 c18 m128 m129 c40 : Int → Int} (h : rLp pos c15 c17 c18 m128 m129 c40) {p : Int} (hp : 0 ≤ p ∧ p ≤ 23) (hk : c15 p ≠ 0) : ∀ j, 0 ≤ j → j < m129 (c17 p) → (m128 (24 * c17 p + j) = p ↔ j = pos p) := by
  intro j h0 h1
  have h2 := h.2.1 p hp.1 hp.2 hk
  have h3 := h.2.2.1 (c17 p) j h2.1 h2.2.1 h0 h1
  constructor
  · intro q; rw [q] at h3; exact h3.2.2.2.2.symm
  · intro q; rw [q]; exact h2.2.2.2.2.1
theorem lbC_0 {e : Int} {σ : S2} (h8 : σ 8 e = 0) (h9 : σ 9 e = -1) (h10 : σ 10 e = 0) (h11 : σ 11 e = -1) : lbC e σ = sc σ 46 (uc (σ 46) (e / 4) 0) := by
  unfold lbC abC tl
  rw [if_neg (by omega), sc_nop (σ := σ) (k := 14) rfl]
  simp (disch := decide) only [sc_s, sc_k]
  rw [uc_id h8, uc_id h9, uc_id h10, uc_id h11, sc_nop (k := 8), sc_nop (k := 9), sc_nop (k := 10), sc_nop (k := 11)]
  all_goals simp (disch := decide) only [sc_s, sc_k]
theorem lbM_0 {e : Int} {μ : S2} (h8 : μ 116 e = 0) : lbM e μ = sc μ 120 (ub e (μ 120)) := by
  unfold lbM
  rw [uc_id h8, sc_nop rfl]
theorem R_unb {x y B e : Int} {σ μ : S2} (he : 0 ≤ e ∧ e ≤ 191) (h : Rg x y B σ μ) : Rg x y B (sc σ 46 (uc (σ 46) (e / 4) 0)) (sc μ 120 (ub e (μ 120))) := by
  obtain ⟨⟨q102, q103, q106, q107, q108, q109, q110, q111, q116, q121, q122, q123, q124, q125, q130, q135, q140⟩, hSp, hMp, hPr, hHd, hFr, hLs, hBl, hWr, hC1, hC2, hC3, hRc, hRo, hSc, hSt, hBd⟩ := h
  refine ⟨⟨?_, ?_, ?_, ?_, ?_, ?_, ?_, ?_, ?_, ?_, ?_, ?_, ?_, ?_, ?_, ?_, ?_⟩, ?_, ?_, ?_, ?_, ?_, ?_, ?_, ?_, ?_, ?_, ?_, ?_, ?_, ?_, ?_, ?_⟩
  all_goals (try simp (disch := decide) only [sc_s, sc_k])
  all_goals (try assumption)
  unfold rBl uc ub at *
  grind
theorem R_lv0 {x y B e : Int} {σ μ : S2} (he : 0 ≤ e ∧ e ≤ 191) (h8 : σ 8 e = 0) (h : Rg x y B σ μ) : FX7_leave e σ = some (0, lbC e σ) ∧ FX8_leaves e μ = some (0, lbM e μ) ∧ Rg x y B (lbC e σ) (lbM e μ) := by
  have h2 := h
  obtain ⟨⟨q102, q103, q106, q107, q108, q109, q110, q111, q116, q121, q122, q123, q124, q125, q130, q135, q140⟩, hSp, hMp, hPr, hHd, hFr, hLs, hBl, hWr, hC1, hC2, hC3, hRc, hRo, hSc, hSt, hBd⟩ := h
  have hp := hPr e he.1 he.2
  have h116 : μ 116 e = 0 := by rw [q116]; exact h8
  refine ⟨e7_leave0 he (hp.2.2.2.1 (by omega)).1 (hp.2.2.2.2.2 (by omega)), e8_leaves0 he (by omega) (by omega), ?_⟩
  rw [lbC_0 h8 (hp.2.2.2.1 (by omega)).1 (hp.2.2.2.1 (by omega)).2 (hp.2.2.2.2.2 (by omega)), lbM_0 h116]
  exact R_unb he h2
theorem R_lv1 {B e p : Int} {σ μ : S2} (he : 0 ≤ e ∧ e ≤ 191) (h8 : σ 8 e = 1) (h9 : σ 9 e = p) (h : Rg (-1) (-1) B σ μ) : FX7_leave e σ = some (0, sc (sc (lbC e σ) 20 (uc (σ 20) p (σ 20 p - 1))) 15 (l15 p σ)) ∧ ∃ m1, FX8_leaves e μ = some (0, m1) ∧ Rg (-1) (-1) B (sc (sc (lbC e σ) 20 (uc (σ 20) p (σ 20 p - 1))) 15 (l15 p σ)) m1 ∧ ∀ k, k ∉ [116, 120, 121, 128, 129, 139] → m1 k = μ k := by
  obtain ⟨⟨q102, q103, q106, q107, q108, q109, q110, q111, q116, q121, q122, q123, q124, q125, q130, q135, q140⟩, hSp, hMp, hPr, hHd, hFr, hLs, hBl, hWr, hC1, hC2, hC3, hRc, hRo, hSc, hSt, hBd⟩ := h
  have hp := hPr e he.1 he.2
  have hp1 := hp.2.2.1 h8
  have hp23 : 0 ≤ p ∧ p ≤ 23 := by omega
  have h117 : μ 117 e = p := by omega
  have h116 : μ 116 e = 1 := by rw [q116]; exact h8
  have hd := hHd p hp23.1 hp23.2
  have hc1 := cC_pos (c := σ 9) (n := 192) he.1 (by omega) h9
  have hk0 : σ 15 p ≠ 0 := fun q => by have := hd.2.2.1 q; omega
  have h20 := hd.2.2.2.1 (by omega) hk0
  have hcr := cC_r (c := σ 9) (n := 192) (f := p)
  have hc2 := cC_uc (c := σ 9) (n := 192) (a := e) (v := -1) (f := p) he.1 (by omega)
  rw [if_neg (by omega), if_pos h9] at hc2
  have hcc : ∀ d, 0 ≤ d → d ≤ 191 → (((0 < μ 111 d) ∧ (uc (μ 116) e 0 d = 1)) ∧ (μ 117 d = p) ↔ uc (σ 9) e (-1) d = p) := by
    intro d d0 d1
    have hpd := hPr d d0 d1
    have hmd := hMp d d0 d1
    rw [q116, q111]
    unfold uc
    grind
  have hw := hC2.2.1
  refine ⟨e7_leave1 he h9 (hp.2.2.2.2.2 (by omega)) hp23 (by omega), ?_⟩
  have hPr2 := m_Pr_abs (e := e) hPr
  have hHd2 := m_Hd_lv (x := -1) he h9 hp23 (by omega) hHd
  have hBl2 : ∀ d15 : Int → Int, (∀ f, f ≠ p → d15 f = σ 15 f) → rBl (uc (σ 46) (e / 4) 0) (ub e (μ 120)) (uc (σ 8) e 0) (uc (σ 9) e (-1)) d15 (σ 22) := fun d15 hd15 => m_Bl_lv he (by rw [h9]; exact hd15) (fun d d0 d1 d2 => ((hPr d d0 d1).2.2.1 d2).2.1) hBl
  have hWr2 : ∀ d15 : Int → Int, (∀ f, f ≠ p → d15 f = σ 15 f) → (d15 p = σ 15 p ∨ d15 p = 0) → rWr (uc (σ 10) e 0) (uc (σ 9) e (-1)) d15 (σ 22) := fun d15 hd15 hd2 => m_Wr_lv he (by rw [h9]; exact hd15) (by rw [h9]; exact hd2) (fun d d0 d1 d2 => by
    have := hPr d d0 d1
    apply Classical.byContradiction
    intro q
    by_cases h1 : σ 8 d = 1
    · exact q (this.2.2.1 h1).2.1
    · exact d2 (this.2.2.2.1 h1).2) hWr
  have hC22 := m_C2_tell he hC1.1 hC2
  have hC32 := m_C3_lv (e := e) hC1.1 hC3
  have h11 : uc (σ 11) e (-1) = σ 11 := uc_id (hp.2.2.2.2.2 (by omega))
  by_cases hf : σ 15 p = 1 ∧ σ 20 p ≤ 1
  · obtain ⟨pos, hLp⟩ := hLs
    have hL2 := hLp.2.1 p hp23.1 hp23.2 hk0
    refine ⟨_, e8_leaves1u he h116 h117 hp23 hw hcc ⟨by rw [q121]; exact hf.1, by omega⟩ (by rw [q123]) ⟨hL2.1, hL2.2.1⟩ rfl (m_Ls_24 hLp ⟨hL2.1, hL2.2.1⟩) ⟨hL2.2.2.1, hL2.2.2.2.1⟩ (m_row hLp hp23 hk0), ?_, ?_⟩
    · have hLs2 := m_Ls_un hp23 hk0 rfl hLp
      rw [if_pos hf] at hHd2
      unfold lbC abC tl l15 unM lbM
      rw [if_pos h8, if_pos hf]
      refine ⟨⟨?_, ?_, ?_, ?_, ?_, ?_, ?_, ?_, ?_, ?_, ?_, ?_, ?_, ?_, ?_, ?_, ?_⟩, ?_, ?_, ?_, ?_, ?_, ?_, ?_, ?_, ?_, ?_, ?_, ?_, ?_, ?_, ?_, ?_⟩
      all_goals (try simp (disch := decide) only [sc_s, sc_k, q102, q103, q106, q107, q108, q109, q110, q111, q116, q121, q122, q123, q124, q125, q130, q135, q140, h11])
      all_goals (try assumption)
      · exact m_Fr_0 hFr
      · exact hBl2 _ (fun f hf => uc_n hf)
      · exact hWr2 _ (fun f hf => uc_n hf) (Or.inr uc_s)
    · intro k hk
      unfold lbM unM
      simp only [List.mem_cons, List.not_mem_nil, or_false, not_or] at hk
      simp only [sc, hk, if_false]
  · refine ⟨_, e8_leaves1 he h116 h117 hp23 hw hcc (fun q => hf ⟨by rw [← q121]; exact q.1, by omega⟩), ?_, ?_⟩
    · rw [if_neg hf] at hHd2
      unfold lbC abC tl l15 lbM
      rw [if_pos h8, if_neg hf]
      refine ⟨⟨?_, ?_, ?_, ?_, ?_, ?_, ?_, ?_, ?_, ?_, ?_, ?_, ?_, ?_, ?_, ?_, ?_⟩, ?_, ?_, ?_, ?_, ?_, ?_, ?_, ?_, ?_, ?_, ?_, ?_, ?_, ?_, ?_, ?_⟩
      all_goals (try simp (disch := decide) only [sc_s, sc_k, q102, q103, q106, q107, q108, q109, q110, q111, q116, q121, q122, q123, q124, q125, q130, q135, q140, h11])
      all_goals (try assumption)
      · exact hBl2 _ (fun f hf => rfl)
      · exact hWr2 _ (fun f hf => rfl) (Or.inl rfl)
    · intro k hk
      unfold lbM
      simp only [List.mem_cons, List.not_mem_nil, or_false, not_or] at hk
      simp only [sc, hk, if_false]
