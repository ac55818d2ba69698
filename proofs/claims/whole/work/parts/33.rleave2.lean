/-! records that are left -/
theorem sumI_ge {g : Int → Int} {n : Nat} {a : Int} (h : ∀ i : Int, 0 ≤ i → i < n → 0 ≤ g i) (h0 : 0 ≤ a) (h1 : a < n) : g a ≤ sumI g n := by
  have e := sumI_one (g := g) (h := fun i => if i = a then 0 else g i) (a := a) (n := n) h0 h1 (fun i _ _ hi => by rw [if_neg hi])
  have e2 := sumI_0 (g := fun i => if i = a then 0 else g i) (n := n) (fun i a b => by
    show 0 ≤ (if i = _ then (0 : Int) else g i)
    split
    · exact Int.le_refl _
    · exact h i a b)
  rw [if_pos rfl] at e
  omega
theorem m_Ro_ge {c31 c49 m132 m133 : Int → Int} {r : Int} (hr : 0 ≤ r ∧ r ≤ 17) (h10 : m132 r = 10) (h : rRo c31 c49 m132 m133) : (if m133 r < 100 then 1 else 2) ≤ c31 0 := by
  have e := sumI_ge (g := fun r => if m132 r = 10 then (if m133 r < 100 then 1 else 2) else 0) (n := 18) (a := r) (fun i _ _ => by (repeat' split) <;> decide) hr.1 (by omega)
  simp only [if_pos h10] at e
  rw [h.1]
  exact e
theorem m_Rc_lv {c11 c26 c27 c28 c29 c30 c32 m132 m133 m134 : Int → Int} {e r : Int} (he : 0 ≤ e ∧ e ≤ 191) (hr : 0 ≤ r ∧ r ≤ 17) (h11 : c11 e = r) (h : rRc (-1) c11 c26 c27 c28 c29 c30 c32 m132 m133 m134) : rRc (-1) (uc c11 e (-1)) c26 c27 c28 c29 (uc c30 r (c30 r - 1)) c32 (if cC (uc c11 e (-1)) 192 r = 0 then uc m132 r (-1) else m132) m133 m134 := by
  intro q h0 h1
  have h2 := h q h0 h1
  have h3 := cC_uc (c := c11) (n := 192) (a := e) (v := -1) (f := q) he.1 (by omega)
  have h4 := cC_r (c := uc c11 e (-1)) (n := 192) (f := q)
  by_cases hq : q = r
  · subst hq
    rw [if_neg (by omega), if_pos h11] at h3
    rw [uc_s]
    by_cases hz : cC (uc c11 e (-1)) 192 q = 0
    · rw [if_pos hz, uc_s]
      refine ⟨by omega, by omega, fun q => absurd rfl q⟩
    · rw [if_neg hz]
      refine ⟨by omega, by omega, fun w => h2.2.2 w⟩
  · rw [if_neg (by omega), if_neg (by omega)] at h3
    rw [uc_n hq]
    have e1 : (if cC (uc c11 e (-1)) 192 r = 0 then uc m132 r (-1) else m132) q = m132 q := by
      split
      · exact uc_n hq
      · rfl
    rw [e1]
    refine ⟨by omega, h2.2⟩
theorem m_Ro_10 {c31 c49 m132 m133 : Int → Int} {r : Int} (hr : 0 ≤ r ∧ r ≤ 17) (h10 : m132 r = 10) (h : rRo c31 c49 m132 m133) : rRo (uc c31 0 (c31 0 - (if m133 r < 100 then 1 else 2))) c49 (uc m132 r (-1)) m133 := by
  obtain ⟨a1, a2, a3, a4⟩ := h
  have e := sumI_one (g := fun q => if uc m132 r (-1) q = 10 then (if m133 q < 100 then 1 else 2) else 0) (h := fun q => if m132 q = 10 then (if m133 q < 100 then 1 else 2) else 0) (a := r) (n := 18) hr.1 (by omega) (fun i _ _ hi => by rw [uc_n hi])
  simp only [uc_s, if_pos h10] at e
  rw [if_neg (by decide)] at e
  refine ⟨?_, ?_, ?_, ?_⟩
  · rw [uc_s, e, a1]; omega
  · rw [uc_s]; split <;> omega
  · unfold uc; grind
  · intro q h0 h1
    have h2 := a4 q h0 h1
    refine ⟨h2.1, h2.2.1, h2.2.2.trans ⟨?_, ?_⟩⟩
    · rintro ⟨i, x, y, z⟩
      exact ⟨i, x, y, by rw [uc_n (fun w => by rw [w] at z; omega)]; exact z⟩
    · rintro ⟨i, x, y, z⟩
      by_cases hi : i = r
      · rw [hi, uc_s] at z; omega
      · rw [uc_n hi] at z; exact ⟨i, x, y, z⟩
theorem m_Ro_pl {c31 c49 m132 m133 : Int → Int} {r : Int} (hr : 0 ≤ r ∧ r ≤ 17) (hp : 0 ≤ m132 r ∧ m132 r ≤ 9) (h : rRo c31 c49 m132 m133) : rRo c31 (uc c49 (m132 r) 0) (uc m132 r (-1)) m133 := by
  obtain ⟨a1, a2, a3, a4⟩ := h
  have e := sumI_one (g := fun q => if uc m132 r (-1) q = 10 then (if m133 q < 100 then 1 else 2) else 0) (h := fun q => if m132 q = 10 then (if m133 q < 100 then 1 else 2) else 0) (a := r) (n := 18) hr.1 (by omega) (fun i _ _ hi => by rw [uc_n hi])
  simp only [uc_s] at e
  rw [if_neg (by decide), if_neg (by omega)] at e
  refine ⟨?_, a2, ?_, ?_⟩
  · rw [e, a1]; omega
  · unfold uc; grind
  · intro q h0 h1
    have h2 := a4 q h0 h1
    by_cases hq : q = m132 r
    · rw [← hq, uc_s]
      refine ⟨by decide, by decide, ⟨fun w => absurd rfl w, ?_⟩⟩
      rintro ⟨i, x, y, z⟩
      by_cases hi : i = r
      · rw [hi, uc_s] at z; omega
      · rw [uc_n hi] at z
        exact absurd (a3 i r x y hr.1 hr.2 (by omega) (by omega) (by omega)) hi
    · rw [uc_n hq]
      refine ⟨h2.1, h2.2.1, h2.2.2.trans ⟨?_, ?_⟩⟩
      · rintro ⟨i, x, y, z⟩
        exact ⟨i, x, y, by rw [uc_n (fun w => by rw [w] at z; omega)]; exact z⟩
      · rintro ⟨i, x, y, z⟩
        by_cases hi : i = r
        · rw [hi, uc_s] at z; omega
        · rw [uc_n hi] at z; exact ⟨i, x, y, z⟩
theorem m_C3_n1 {c1 m136 m137 m139 c8 c9 : Int → Int} {e v : Int} (h8 : c8 e ≠ 1) (h : rC3 c1 m136 m137 m139 c8 c9) : rC3 c1 m136 m137 m139 (uc c8 e v) c9 := by
  intro p t hp0 hp1 ht0 ht1 hw
  have h2 := h p t hp0 hp1 ht0 ht1 hw
  rw [uc_n (fun q => by rw [q] at h2; exact h8 h2.1)]
  exact h2
theorem R_lv2 {B e r : Int} {σ μ : S2} (he : 0 ≤ e ∧ e ≤ 191) (h8 : σ 8 e = 2) (h11 : σ 11 e = r) (h : Rg (-1) (-1) B σ μ) : FX7_leave e σ = some (0, sc (sc (sc (lbC e σ) 30 (l30 r σ)) 31 (l31 r σ)) 49 (l49 r σ)) ∧ ∃ m1, FX8_leaves e μ = some (0, m1) ∧ Rg (-1) (-1) B (sc (sc (sc (lbC e σ) 30 (l30 r σ)) 31 (l31 r σ)) 49 (l49 r σ)) m1 ∧ ∀ k, k ∉ [116, 120, 132] → m1 k = μ k := by
  obtain ⟨⟨q102, q103, q106, q107, q108, q109, q110, q111, q116, q121, q122, q123, q124, q125, q130, q135, q140⟩, hSp, hMp, hPr, hHd, hFr, hLs, hBl, hWr, hC1, hC2, hC3, hRc, hRo, hSc, hSt, hBd⟩ := h
  have hp := hPr e he.1 he.2
  have hp2 := hp.2.2.2.2.1 h8
  have hr : 0 ≤ r ∧ r ≤ 17 := by omega
  have h9 := hp.2.2.2.1 (by omega)
  have h116 : μ 116 e = 2 := by rw [q116]; exact h8
  have h119 : μ 119 e = r := by omega
  have hd := hRc r hr.1 hr.2
  have hc1 := cC_pos (c := σ 11) (n := 192) he.1 (by omega) h11
  have hcr := cC_r (c := σ 11) (n := 192) (f := r)
  have hc2 := cC_uc (c := σ 11) (n := 192) (a := e) (v := -1) (f := r) he.1 (by omega)
  rw [if_neg (by omega), if_pos h11] at hc2
  have hm1 : μ 132 r ≠ -1 := fun q => by have := hd.2.1.mp q; omega
  have hd2 := hd.2.2 hm1
  have h31 : σ 28 r = 10 → 0 ≤ σ 31 0 - σ 27 r ∧ σ 31 0 - σ 27 r ≤ 8 := by
    intro q
    have h1 := m_Ro_ge hr (by omega) hRo
    have h2 := hRo.2.1
    rw [hd2.2.2.1]
    split at h1 <;> split <;> omega
  have hcc : ∀ d, 0 ≤ d → d ≤ 191 → (((0 < μ 111 d) ∧ (uc (μ 116) e 0 d = 2)) ∧ (μ 119 d = r) ↔ uc (σ 11) e (-1) d = r) := by
    intro d d0 d1
    have hpd := hPr d d0 d1
    have hmd := hMp d d0 d1
    rw [q116, q111]
    unfold uc
    grind
  refine ⟨e7_leave2 he h9.1 h11 hr (by omega) h31, _, e8_leaves2 he h116 h119 hr hcc, ?_, ?_⟩
  · have hPr2 := m_Pr_abs (e := e) hPr
    have hBl2 := m_Bl_lv (d15 := σ 15) (v := 0) he (fun _ _ => rfl) (fun d d0 d1 d2 => ((hPr d d0 d1).2.2.1 d2).2.1) hBl
    have hC32 := m_C3_n1 (e := e) (v := 0) (by omega) hC3
    have hRc2 := m_Rc_lv he hr h11 hRc
    have u9 : uc (σ 9) e (-1) = σ 9 := uc_id h9.1
    have u10 : uc (σ 10) e 0 = σ 10 := uc_id h9.2
    rw [u9, u10] at hPr2
    rw [u9] at hBl2
    unfold lbC abC tl lbM l30
    rw [if_neg (by omega)]
    refine ⟨⟨?_, ?_, ?_, ?_, ?_, ?_, ?_, ?_, ?_, ?_, ?_, ?_, ?_, ?_, ?_, ?_, ?_⟩, ?_, ?_, ?_, ?_, ?_, ?_, ?_, ?_, ?_, ?_, ?_, ?_, ?_, ?_, ?_, ?_⟩
    all_goals (try simp (disch := decide) only [sc_s, sc_k, q102, q103, q106, q107, q108, q109, q110, q111, q116, q121, q122, q123, q124, q125, q130, q135, q140, u9, u10])
    all_goals (try with_reducible assumption)
    unfold l31 l49
    by_cases hz : cC (uc (σ 11) e (-1)) 192 r = 0
    · rw [if_pos hz]
      by_cases h10 : σ 28 r = 10
      · rw [if_pos ⟨by omega, h10⟩, if_neg (by omega), hd2.2.2.1]
        exact m_Ro_10 hr (by omega) hRo
      · rw [if_neg (by omega), if_pos ⟨by omega, by omega, by omega⟩, hd2.1]
        exact m_Ro_pl hr (by omega) hRo
    · rw [if_neg hz, if_neg (by omega), if_neg (by omega)]
      exact hRo
  · intro k hk
    unfold lbM
    simp only [List.mem_cons, List.not_mem_nil, or_false, not_or] at hk
    simp only [sc, hk, if_false]
/-! a new page comes; leaving goes past it -/
def nwC (f v g : Int) (cs : Int → Int) (σ : S2) : S2 := sc (brC f 0 (bgC f 1 v g σ)) 48 cs
theorem c_lb {f v g e : Int} {cs : Int → Int} {σ : S2} : lbC e (nwC f v g cs σ) = nwC f v g cs (lbC e σ) := by
  funext k
  unfold lbC nwC brC bgC abC tl
  by_cases h14 : k = 14
  · subst h14; simp (disch := decide) only [sc_s, sc_k]
  by_cases h46 : k = 46
  · subst h46; simp (disch := decide) only [sc_s, sc_k]
  by_cases h8 : k = 8
  · subst h8; simp (disch := decide) only [sc_s, sc_k]
  by_cases h9 : k = 9
  · subst h9; simp (disch := decide) only [sc_s, sc_k]
  by_cases h10 : k = 10
  · subst h10; simp (disch := decide) only [sc_s, sc_k]
  by_cases h11 : k = 11
  · subst h11; simp (disch := decide) only [sc_s, sc_k]
  by_cases h15 : k = 15
  · subst h15; simp (disch := decide) only [sc_s, sc_k]
  by_cases h16 : k = 16
  · subst h16; simp (disch := decide) only [sc_s, sc_k]
  by_cases h21 : k = 21
  · subst h21; simp (disch := decide) only [sc_s, sc_k]
  by_cases h19 : k = 19
  · subst h19; simp (disch := decide) only [sc_s, sc_k]
  by_cases h20 : k = 20
  · subst h20; simp (disch := decide) only [sc_s, sc_k]
  by_cases h22 : k = 22
  · subst h22; simp (disch := decide) only [sc_s, sc_k]
  by_cases h23 : k = 23
  · subst h23; simp (disch := decide) only [sc_s, sc_k]
  by_cases h40 : k = 40
  · subst h40; simp (disch := decide) only [sc_s, sc_k]
  by_cases h18 : k = 18
  · subst h18; simp (disch := decide) only [sc_s, sc_k]
  by_cases h17 : k = 17
  · subst h17; simp (disch := decide) only [sc_s, sc_k]
  by_cases h48 : k = 48
  · subst h48; simp (disch := decide) only [sc_s, sc_k]
  simp only [sc, h14, h46, h8, h9, h10, h11, h15, h16, h21, h19, h20, h22, h23, h40, h18, h17, h48, if_false]
theorem c_lv1 {f v g e p : Int} {cs : Int → Int} {σ : S2} (hpf : p ≠ f) : sc (sc (lbC e (nwC f v g cs σ)) 20 (uc (nwC f v g cs σ 20) p (nwC f v g cs σ 20 p - 1))) 15 (l15 p (nwC f v g cs σ)) = nwC f v g cs (sc (sc (lbC e σ) 20 (uc (σ 20) p (σ 20 p - 1))) 15 (l15 p σ)) := by
  rw [c_lb]
  have e1 : nwC f v g cs σ 20 = uc (σ 20) f 0 := by
    unfold nwC brC bgC
    simp (disch := decide) only [sc_s, sc_k]
  have e2 : nwC f v g cs σ 15 = uc (σ 15) f 1 := by
    unfold nwC brC bgC
    simp (disch := decide) only [sc_s, sc_k]
  have e3 : l15 p (nwC f v g cs σ) = uc (l15 p σ) f 1 := by
    unfold l15
    rw [e1, e2, uc_n hpf, uc_n hpf]
    split
    · exact uc_comm (fun q => hpf q.symm)
    · rfl
  rw [e1, e3, uc_n hpf, uc_comm (fun q => hpf q.symm)]
  funext k
  unfold nwC brC bgC
  by_cases h15 : k = 15
  · subst h15; simp (disch := decide) only [sc_s, sc_k]
  by_cases h16 : k = 16
  · subst h16; simp (disch := decide) only [sc_s, sc_k]
  by_cases h21 : k = 21
  · subst h21; simp (disch := decide) only [sc_s, sc_k]
  by_cases h19 : k = 19
  · subst h19; simp (disch := decide) only [sc_s, sc_k]
  by_cases h20 : k = 20
  · subst h20; simp (disch := decide) only [sc_s, sc_k]
  by_cases h22 : k = 22
  · subst h22; simp (disch := decide) only [sc_s, sc_k]
  by_cases h23 : k = 23
  · subst h23; simp (disch := decide) only [sc_s, sc_k]
  by_cases h40 : k = 40
  · subst h40; simp (disch := decide) only [sc_s, sc_k]
  by_cases h18 : k = 18
  · subst h18; simp (disch := decide) only [sc_s, sc_k]
  by_cases h17 : k = 17
  · subst h17; simp (disch := decide) only [sc_s, sc_k]
  by_cases h48 : k = 48
  · subst h48; simp (disch := decide) only [sc_s, sc_k]
  simp only [sc, h15, h16, h21, h19, h20, h22, h23, h40, h18, h17, h48, if_false]
theorem c_lv2 {f v g e r : Int} {cs : Int → Int} {σ : S2} : sc (sc (sc (lbC e (nwC f v g cs σ)) 30 (l30 r (nwC f v g cs σ))) 31 (l31 r (nwC f v g cs σ))) 49 (l49 r (nwC f v g cs σ)) = nwC f v g cs (sc (sc (sc (lbC e σ) 30 (l30 r σ)) 31 (l31 r σ)) 49 (l49 r σ)) := by
  rw [c_lb]
  funext k
  unfold l30 l31 l49 nwC brC bgC
  by_cases h30 : k = 30
  · subst h30; simp (disch := decide) only [sc_s, sc_k]
  by_cases h31 : k = 31
  · subst h31; simp (disch := decide) only [sc_s, sc_k]
  by_cases h49 : k = 49
  · subst h49; simp (disch := decide) only [sc_s, sc_k]
  by_cases h15 : k = 15
  · subst h15; simp (disch := decide) only [sc_s, sc_k]
  by_cases h16 : k = 16
  · subst h16; simp (disch := decide) only [sc_s, sc_k]
  by_cases h21 : k = 21
  · subst h21; simp (disch := decide) only [sc_s, sc_k]
  by_cases h19 : k = 19
  · subst h19; simp (disch := decide) only [sc_s, sc_k]
  by_cases h20 : k = 20
  · subst h20; simp (disch := decide) only [sc_s, sc_k]
  by_cases h22 : k = 22
  · subst h22; simp (disch := decide) only [sc_s, sc_k]
  by_cases h23 : k = 23
  · subst h23; simp (disch := decide) only [sc_s, sc_k]
  by_cases h40 : k = 40
  · subst h40; simp (disch := decide) only [sc_s, sc_k]
  by_cases h18 : k = 18
  · subst h18; simp (disch := decide) only [sc_s, sc_k]
  by_cases h17 : k = 17
  · subst h17; simp (disch := decide) only [sc_s, sc_k]
  by_cases h48 : k = 48
  · subst h48; simp (disch := decide) only [sc_s, sc_k]
  simp only [sc, h30, h31, h49, h15, h16, h21, h19, h20, h22, h23, h40, h18, h17, h48, if_false]
