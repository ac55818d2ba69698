/-! leaving: what stays of each module -/
def wt (e : Int) (c n w : Int → Int) : Int → Int := fun t => if 0 ≤ t ∧ t < 8 ∧ t % 4 < c (t / 4) ∧ n t = e then 1 else w t
def ub (e : Int) (c : Int → Int) : Int → Int := fun t => if e / 4 * 4 ≤ t ∧ t < e / 4 * 4 + 4 then 0 else c t
def ur (off p n : Int) (c : Int → Int) : Int → Int := fun t => if off + p ≤ t ∧ t < off + n - 1 then c (t + 1) else c t
def fg (e n : Int) (c : Int → Int) : Int → Int := fun t => if 0 ≤ t ∧ t < n ∧ c t = e then -1 else c t
theorem m_Pr_abs {c3 c8 c9 c10 c11 m117 m118 m119 : Int → Int} {e : Int} (h : rPr c3 c8 c9 c10 c11 m117 m118 m119) : rPr c3 (uc c8 e 0) (uc c9 e (-1)) (uc c10 e 0) (uc c11 e (-1)) m117 m118 m119 := by
  unfold rPr uc at *
  grind
theorem m_Hd_lv {x e p : Int} {c9 c15 c20 : Int → Int} (he : 0 ≤ e ∧ e ≤ 191) (h9 : c9 e = p) (hp : 0 ≤ p ∧ p ≤ 23) (hx : x ≠ p) (h : rHd x c9 c15 c20) : rHd x (uc c9 e (-1)) (if c15 p = 1 ∧ c20 p ≤ 1 then uc c15 p 0 else c15) (uc c20 p (c20 p - 1)) := by
  intro f h0 h1
  have h2 := h f h0 h1
  have h3 := cC_uc (c := c9) (n := 192) (a := e) (v := -1) (f := f) he.1 (by omega)
  have h4 := cC_pos (c := c9) (n := 192) he.1 (by omega) h9
  rw [if_neg (by omega)] at h3
  by_cases hf : f = p
  · subst hf
    rw [if_pos h9] at h3
    have h5 := h2.2.2.2.1 (fun q => hx q.symm)
    have h6 : c15 f ≠ 0 := fun q => by have := h2.2.2.1 q; omega
    rw [uc_s]
    by_cases hc : c15 f = 1 ∧ c20 f ≤ 1
    · rw [if_pos hc, uc_s]
      have := h5 h6
      exact ⟨by omega, by omega, fun _ => by omega, fun _ q => absurd rfl q, fun _ q => by omega⟩
    · rw [if_neg hc]
      have := h5 h6
      exact ⟨h2.1, h2.2.1, fun q => absurd q h6, fun _ _ => by omega, fun _ _ => by omega⟩
  · have e1 : (if c15 p = 1 ∧ c20 p ≤ 1 then uc c15 p 0 else c15) f = c15 f := by
      split
      · exact uc_n hf
      · rfl
    rw [if_neg (by omega)] at h3
    rw [e1, uc_n hf]
    exact ⟨h2.1, h2.2.1, fun q => by have := h2.2.2.1 q; omega, fun a b => by have := h2.2.2.2.1 a b; omega, fun a b => by have := h2.2.2.2.2 a b; omega⟩
theorem m_Bl_lv {c46 m120 c8 c9 c15 d15 c22 : Int → Int} {e v : Int} (he : 0 ≤ e ∧ e ≤ 191) (h15 : ∀ f, f ≠ c9 e → d15 f = c15 f) (h9 : ∀ d, 0 ≤ d → d ≤ 191 → c8 d = 1 → 0 ≤ c9 d) (h : rBl c46 m120 c8 c9 c15 c22) : rBl (uc c46 (e / 4) 0) (ub e m120) (uc c8 e v) (uc c9 e (-1)) d15 c22 := by
  refine ⟨?_, ?_, ?_⟩
  · intro b b0 b1
    have := h.1 b b0 b1
    unfold uc
    split <;> omega
  · intro d d0 d1
    have := h.2.1 d d0 d1
    unfold uc ub
    by_cases hd : d / 4 = e / 4
    · rw [if_pos (by omega), if_pos hd]
    · rw [if_neg (by omega), if_neg hd]; exact this
  · intro d d0 d1 d2
    have hde : d / 4 ≠ e / 4 := fun q => d2 (by rw [q]; exact uc_s)
    rw [uc_n hde] at d2
    have h1 := h.2.2 d d0 d1 d2
    have hd : d ≠ e := fun q => hde (by rw [q])
    have hc9 : c9 d ≠ c9 e := fun q => hd (h1.2.2.2 e he.1 he.2 q.symm).symm
    rw [uc_n hd, uc_n hd, h15 _ hc9]
    refine ⟨h1.1, h1.2.1, h1.2.2.1, fun c c0 c1 c2 => ?_⟩
    by_cases hc : c = e
    · rw [hc, uc_s] at c2
      have := h9 d d0 d1 h1.1
      omega
    · rw [uc_n hc] at c2
      exact h1.2.2.2 c c0 c1 c2
theorem m_Wr_lv {c10 c9 c15 d15 c22 : Int → Int} {e : Int} (he : 0 ≤ e ∧ e ≤ 191) (h15 : ∀ f, f ≠ c9 e → d15 f = c15 f) (h15e : d15 (c9 e) = c15 (c9 e) ∨ d15 (c9 e) = 0) (h9 : ∀ d, 0 ≤ d → d ≤ 191 → c10 d ≠ 0 → 0 ≤ c9 d) (h : rWr c10 c9 c15 c22) : rWr (uc c10 e 0) (uc c9 e (-1)) d15 c22 := by
  unfold rWr uc at *
  grind
theorem m_C3_lv {c1 m136 m137 m139 c8 c9 : Int → Int} {e v w : Int} (h1 : ∀ p, 0 ≤ p → p ≤ 1 → 0 ≤ c1 p ∧ c1 p ≤ 4) (h : rC3 c1 m136 m137 m139 c8 c9) : rC3 c1 m136 m137 (wt e c1 m136 m139) (uc c8 e v) (uc c9 e w) := by
  intro p t hp0 hp1 ht0 ht1 hw
  have h3 := h1 p hp0 hp1
  have h4 : t / 4 = p := by omega
  have h5 : t % 4 = t - 4 * p := by omega
  unfold wt at hw
  by_cases q : m136 t = e
  · rw [if_pos ⟨by omega, by omega, by rw [h4, h5]; omega, q⟩] at hw
    exact absurd hw (by decide)
  · rw [if_neg (fun z => q z.2.2.2)] at hw
    rw [uc_n q, uc_n q]
    exact h p t hp0 hp1 ht0 ht1 hw
theorem m_C2_tell {c1 c14 m136 m139 : Int → Int} {e : Int} (he : 0 ≤ e ∧ e ≤ 191) (h1 : ∀ p, 0 ≤ p → p ≤ 1 → 0 ≤ c1 p ∧ c1 p ≤ 4) (h : rC2 c1 c14 m136 m139) : rC2 c1 (uc c14 e 3) m136 (wt e c1 m136 m139) := by
  obtain ⟨a1, a2, a3⟩ := h
  refine ⟨?_, ?_, ?_⟩
  · intro d d0 d1
    have h2 := a1 d d0 d1
    unfold uc
    split <;> omega
  · unfold wt
    grind
  · intro p t hp0 hp1 ht0 ht1
    have h3 := h1 p hp0 hp1
    have h4 : t / 4 = p := by omega
    have h5 : t % 4 = t - 4 * p := by omega
    have h6 := a3 p t hp0 hp1 ht0 ht1
    unfold wt uc
    by_cases q : m136 t = e
    · have h9 : gAnd 3 (p + 1) ≠ 0 := by
        rcases (show p = 0 ∨ p = 1 by omega) with rfl | rfl <;> decide +kernel
      rw [if_pos (by refine ⟨by omega, by omega, ?_, q⟩; rw [h4, h5]; omega), if_pos q]
      exact ⟨fun _ => h9, fun _ => by decide⟩
    · rw [if_neg (fun z => q z.2.2.2), if_neg q]
      exact h6
theorem m_Fr_0 {c15 c16 c19 c21 c22 c23 c24 c25 m126 m127 c44 : Int → Int} {p : Int} (h : rFr c15 c16 c19 c21 c22 c23 c24 c25 m126 m127 c44) : rFr (uc c15 p 0) c16 c19 c21 c22 c23 c24 c25 m126 m127 c44 := by
  unfold rFr uc at *
  grind
theorem m_Ls_un {c15 c17 c18 m128 m129 c40 : Int → Int} {p k : Int} {pos : Int → Int} (hp : 0 ≤ p ∧ p ≤ 23) (hk : c15 p ≠ 0) (hpos : pos p = k) (h : rLp pos c15 c17 c18 m128 m129 c40) : rLs (uc c15 p 0) c17 c18 (ur (24 * c17 p) k (m129 (c17 p)) m128) (uc m129 (c17 p) (m129 (c17 p) - 1)) c40 := by
  have h24 := fun l hl => m_Ls_24 h (l := l) hl
  have hrow := m_row h hp hk
  obtain ⟨a1, a2, a3, a4⟩ := h
  have hp2 := a2 p hp.1 hp.2 hk
  have hnk : ∀ f, 0 ≤ f → f ≤ 23 → c15 f ≠ 0 → f ≠ p → c17 f = c17 p → pos f ≠ k := fun f f0 f1 fk fp fl q => by
    have h5 := a2 f f0 f1 fk
    rw [fl, q, ← hpos] at h5
    exact fp (h5.2.2.2.2.1.symm.trans hp2.2.2.2.2.1)
  refine ⟨fun f => if c17 f = c17 p ∧ k < pos f then pos f - 1 else pos f, ?_, ?_, ?_, ?_⟩
  · intro l l0 l1
    have := a1 l l0 l1
    unfold uc
    split
    · omega
    · exact this
  · intro f f0 f1 fk
    dsimp only
    have hfp : f ≠ p := fun q => fk (by rw [q]; exact uc_s)
    rw [uc_n hfp] at fk
    have h5 := a2 f f0 f1 fk
    have h6 := h24 (c17 f) ⟨h5.1, h5.2.1⟩
    have h7 := h24 (c17 p) ⟨hp2.1, hp2.2.1⟩
    by_cases hl : c17 f = c17 p
    · have h8 := hnk f f0 f1 fk hfp hl
      rw [hl] at h5 h6 ⊢
      rw [uc_s]
      by_cases hkp : k < pos f
      · rw [if_pos ⟨rfl, hkp⟩]
        refine ⟨h5.1, h5.2.1, by omega, by omega, ?_, h5.2.2.2.2.2⟩
        unfold ur
        rw [if_pos (by omega), show 24 * c17 p + (pos f - 1) + 1 = 24 * c17 p + pos f by omega]
        exact h5.2.2.2.2.1
      · rw [if_neg (fun q => hkp q.2)]
        refine ⟨h5.1, h5.2.1, by omega, by omega, ?_, h5.2.2.2.2.2⟩
        unfold ur
        rw [if_neg (by omega)]
        exact h5.2.2.2.2.1
    · rw [if_neg (fun q => hl q.1), uc_n hl]
      refine ⟨h5.1, h5.2.1, h5.2.2.1, h5.2.2.2.1, ?_, h5.2.2.2.2.2⟩
      unfold ur
      rw [if_neg (by omega)]
      exact h5.2.2.2.2.1
  · intro l j l0 l1 j0 j1
    dsimp only
    have h7 := h24 (c17 p) ⟨hp2.1, hp2.2.1⟩
    have h6 := h24 l ⟨l0, l1⟩
    by_cases hl : l = c17 p
    · subst hl
      rw [uc_s] at j1
      by_cases hjk : k ≤ j
      · have h8 := a3 (c17 p) (j + 1) l0 l1 (by omega) (by omega)
        have e1 : ur (24 * c17 p) k (m129 (c17 p)) m128 (24 * c17 p + j) = m128 (24 * c17 p + (j + 1)) := by
          unfold ur
          rw [if_pos (by omega), Int.add_assoc]
        have hgp : m128 (24 * c17 p + (j + 1)) ≠ p := fun q => by rw [q] at h8; omega
        rw [e1, uc_n hgp, if_pos ⟨h8.2.2.2.1, by omega⟩]
        exact ⟨h8.1, h8.2.1, h8.2.2.1, h8.2.2.2.1, by omega⟩
      · have h8 := a3 (c17 p) j l0 l1 (by omega) (by omega)
        have e1 : ur (24 * c17 p) k (m129 (c17 p)) m128 (24 * c17 p + j) = m128 (24 * c17 p + j) := if_neg (by omega)
        have hgp : m128 (24 * c17 p + j) ≠ p := fun q => by rw [q] at h8; omega
        rw [e1, uc_n hgp, if_neg (by omega)]
        exact h8
    · rw [uc_n hl] at j1
      have h8 := a3 l j l0 l1 j0 j1
      have e1 : ur (24 * c17 p) k (m129 (c17 p)) m128 (24 * l + j) = m128 (24 * l + j) := if_neg (by omega)
      have hgp : m128 (24 * l + j) ≠ p := fun q => by rw [q] at h8; omega
      rw [e1, uc_n hgp, if_neg (by omega)]
      exact h8
  · intro f g f0 f1 g0 g1 fk gk fg
    dsimp only
    have hfp : f ≠ p := fun q => fk (by rw [q]; exact uc_s)
    have hgp : g ≠ p := fun q => gk (by rw [q]; exact uc_s)
    rw [uc_n hfp] at fk
    rw [uc_n hgp] at gk
    rw [← a4 f g f0 f1 g0 g1 fk gk fg]
    by_cases hl : c17 f = c17 p
    · have h1 := hnk f f0 f1 fk hfp hl
      have h2 := hnk g g0 g1 gk hgp (by rw [← fg]; exact hl)
      have hg : c17 g = c17 p := by rw [← fg]; exact hl
      by_cases hfk : k < pos f
      · rw [if_pos ⟨hl, hfk⟩]
        by_cases hgk : k < pos g
        · rw [if_pos ⟨hg, hgk⟩]; omega
        · rw [if_neg (fun q => hgk q.2)]; omega
      · rw [if_neg (fun q => hfk q.2)]
        by_cases hgk : k < pos g
        · rw [if_pos ⟨hg, hgk⟩]; omega
        · rw [if_neg (fun q => hgk q.2)]
    · have hg : c17 g ≠ c17 p := by rw [← fg]; exact hl
      rw [if_neg (fun q => hl q.1), if_neg (fun q => hg q.1)]
theorem m_Bl_unb {c46 m120 c8 c9 c15 c22 : Int → Int} {e : Int} (h : rBl c46 m120 c8 c9 c15 c22) : rBl (uc c46 (e / 4) 0) (ub e m120) c8 c9 c15 c22 := by
  refine ⟨?_, ?_, ?_⟩
  · intro b b0 b1
    have := h.1 b b0 b1
    unfold uc
    split <;> omega
  · intro d d0 d1
    have := h.2.1 d d0 d1
    unfold uc ub
    by_cases hd : d / 4 = e / 4
    · rw [if_pos (by omega), if_pos hd]
    · rw [if_neg (by omega), if_neg hd]; exact this
  · intro d d0 d1 d2
    have hde : d / 4 ≠ e / 4 := fun q => d2 (by rw [q]; exact uc_s)
    rw [uc_n hde] at d2
    exact h.2.2 d d0 d1 d2
