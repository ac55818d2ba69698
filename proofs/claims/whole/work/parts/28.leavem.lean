/-! leaving: what stays of each module -/
def wt (e : Int) (c n w : Int → Int) : Int → Int := fun t => if 0 ≤ t ∧ t < 8 ∧ t % 4 < c (t / 4) ∧ n t = e then 1 else w t
def ub (e : Int) (c : Int → Int) : Int → Int := fun t => if e / 4 * 4 ≤ t ∧ t < e / 4 * 4 + 4 then 0 else c t
def ur (off p n : Int) (c : Int → Int) : Int → Int := fun t => if off + p ≤ t ∧ t < off + n - 1 then c (t + 1) else c t
def fg (e n : Int) (c : Int → Int) : Int → Int := fun t => if 0 ≤ t ∧ t < n ∧ c t = e then -1 else c t
theorem m_Pr_abs {c3 c8 c9 c10 c11 m117 m118 m119 : Int → Int} {e : Int} (h : rPr c3 c8 c9 c10 c11 m117 m118 m119) : rPr c3 (uc c8 e 0) (uc c9 e (-1)) (uc c10 e 0) (uc c11 e (-1)) m117 m118 m119 := by
  unfold rPr uc at *
  grind
theorem m_Hd_lv {x e p : Int} {c9 c15 c20 : Int → Int} (he : 0 ≤ e ∧ e ≤ 191) (h9 : c9 e = p) (hp : 0 ≤ p ∧ p ≤ 23) (hx : x ≠ p) (h : rHd x c9 c15 c20) : rHd x (uc c9 e (-1)) (if c15 p = 1 ∧ c20 p ≤ 1 then uc c15 p 0 else c15) (uc c20 p (c20 p - 1)) := by
  intro f h0 h1
  have h2 := h f h0 h1
  have h3 := cC_uc (c := c9) (n := 192) (a := e) (v := -1) (f := f) he.1 (by omega)
  have h4 := cC_pos (c := c9) (n := 192) he.1 (by omega) h9
  unfold uc at *
  grind
theorem m_Bl_lv {c46 m120 c8 c9 c15 d15 c22 : Int → Int} {e : Int} (he : 0 ≤ e ∧ e ≤ 191) (h15 : ∀ f, f ≠ c9 e → d15 f = c15 f) (h9 : ∀ d, 0 ≤ d → d ≤ 191 → c8 d = 1 → 0 ≤ c9 d) (h : rBl c46 m120 c8 c9 c15 c22) : rBl (uc c46 (e / 4) 0) (ub e m120) (uc c8 e 0) (uc c9 e (-1)) d15 c22 := by
  unfold rBl uc ub at *
  grind
theorem m_Wr_lv {c10 c9 c15 d15 c22 : Int → Int} {e : Int} (he : 0 ≤ e ∧ e ≤ 191) (h15 : ∀ f, f ≠ c9 e → d15 f = c15 f) (h15e : d15 (c9 e) = c15 (c9 e) ∨ d15 (c9 e) = 0) (h9 : ∀ d, 0 ≤ d → d ≤ 191 → c10 d ≠ 0 → 0 ≤ c9 d) (h : rWr c10 c9 c15 c22) : rWr (uc c10 e 0) (uc c9 e (-1)) d15 c22 := by
  unfold rWr uc at *
  grind
theorem m_C3_lv {c1 m136 m137 m139 c8 c9 : Int → Int} {e : Int} (h1 : ∀ p, 0 ≤ p → p ≤ 1 → 0 ≤ c1 p ∧ c1 p ≤ 4) (h : rC3 c1 m136 m137 m139 c8 c9) : rC3 c1 m136 m137 (wt e c1 m136 m139) (uc c8 e 0) (uc c9 e (-1)) := by
  intro p t hp0 hp1 ht0 ht1 hw
  have h2 := h p t hp0 hp1 ht0 ht1
  have h3 := h1 p hp0 hp1
  have h4 : t / 4 = p := by omega
  have h5 : t % 4 = t - 4 * p := by omega
  unfold wt uc at *
  grind
theorem m_C2_tell {c1 c13 c14 m136 m139 : Int → Int} {e : Int} (he : 0 ≤ e ∧ e ≤ 191) (h1 : ∀ p, 0 ≤ p → p ≤ 1 → 0 ≤ c1 p ∧ c1 p ≤ 4) (h : rC2 c1 c13 c14 m136 m139) : rC2 c1 c13 (uc c14 e (gOr (c14 e) (c13 e))) m136 (wt e c1 m136 m139) := by
  obtain ⟨a1, a2, a3, a4⟩ := h
  have ae := a1 e he.1 he.2
  have hr := gOr_r (a := c14 e) (b := c13 e) ⟨ae.2.2.1, ae.2.2.2⟩ ⟨ae.1, ae.2.1⟩
  refine ⟨?_, ?_, ?_, a4⟩
  · unfold uc
    grind
  · unfold wt
    grind
  · intro p t hp0 hp1 ht0 ht1
    have h3 := h1 p hp0 hp1
    have h4 : t / 4 = p := by omega
    have h5 : t % 4 = t - 4 * p := by omega
    have h6 := a3 p t hp0 hp1 ht0 ht1
    have h7 := (a4 p e hp0 hp1 he.1 he.2)
    have h8 := bt_or (a := c14 e) (b := c13 e) (p := p) ⟨ae.2.2.1, ae.2.2.2⟩ ⟨ae.1, ae.2.1⟩ ⟨hp0, hp1⟩
    unfold wt uc
    by_cases q : m136 t = e
    · have h9 := h7.mpr ⟨t, ht0, ht1, q⟩
      rw [if_pos (by refine ⟨by omega, by omega, ?_, q⟩; rw [h4, h5]; omega), if_pos q, h8]
      exact ⟨fun _ => Or.inr h9, fun _ => by decide⟩
    · rw [if_neg (fun z => q z.2.2.2), if_neg q]
      exact h6
theorem m_Fr_0 {c15 c16 c19 c21 c22 c23 c24 c25 m126 m127 c44 : Int → Int} {p : Int} (h : rFr c15 c16 c19 c21 c22 c23 c24 c25 m126 m127 c44) : rFr (uc c15 p 0) c16 c19 c21 c22 c23 c24 c25 m126 m127 c44 := by
  unfold rFr uc at *
  grind
theorem m_Ls_un {c15 c17 c18 m128 m129 c40 : Int → Int} {p k : Int} {pos : Int → Int} (hp : 0 ≤ p ∧ p ≤ 23) (hk : c15 p ≠ 0) (hpos : pos p = k) (h : rLp pos c15 c17 c18 m128 m129 c40) : rLs (uc c15 p 0) c17 c18 (ur (24 * c17 p) k (m129 (c17 p)) m128) (uc m129 (c17 p) (m129 (c17 p) - 1)) c40 := by
  obtain ⟨a1, a2, a3, a4⟩ := h
  refine ⟨fun f => if c17 f = c17 p ∧ k < pos f then pos f - 1 else pos f, ?_, ?_, ?_, ?_⟩
  · unfold uc
    grind
  · unfold uc ur
    grind
  · unfold uc ur
    grind
  · unfold uc
    grind
