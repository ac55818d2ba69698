/-! a miss that wants a new page -/
/-- what P_new gives, behind the class's words -/
theorem ms_new {B e v s st a src : Int} {σ μ : S2} (hs : 0 ≤ s ∧ s ≤ 5) (he : 32 * s ≤ e ∧ e < 32 * s + 32) (hv : 0 ≤ v ∧ v ≤ 99999) (hst : 0 ≤ st ∧ st ≤ 1) (h3 : σ 3 e ≠ 0) (h35 : σ 35 s ≠ 0) (hsrc : -1 ≤ src ∧ src ≤ 23) (hc : ¬ ((0 ≤ src) ∧ (((¬ (st ≠ 0)) ∨ (σ 10 e ≠ 0)) ∨ ((if σ 15 src = 2 then σ 6 e else (if σ 20 src = 1 then 1 else 0 : Int) : Int) ≠ 0)))) (hv2 : (if 0 ≤ src then σ 16 src else (if 0 ≤ σ 11 e then σ 26 (σ 11 e) else 0 : Int) : Int) = v) (ha : (if src < 0 then 0 else 1 : Int) = a) (hB : B + 140010 ≤ 2147483647) (h : Rg (-1) (-1) B σ μ) : ∃ r s1 m1, FX7_fault s e src st σ = some (if r < 0 then r else 0, s1) ∧ FX8_renews s e v μ = some (r, m1) ∧ -5 ≤ r ∧ r ≤ 23 ∧ (r < 0 → (r = -4 ∨ r = -5) ∧ Rg (-1) (-1) (B + 140010) s1 m1 ∧ WF σ μ s1 m1) ∧ (0 ≤ r → Rg (-1) (-1) (B + 140010) s1 (sc (sc m1 140 (uc (m1 140) 6 (m1 140 6 + a))) 118 (uc (m1 118) e st)) ∧ s1 8 e = 1 ∧ s1 9 e = r ∧ (∀ k, k ∈ [0, 33, 34, 36, 37, 38, 39, 41, 42, 43, 47, 51] → s1 k = σ k) ∧ s1 3 e = σ 3 e ∧ m1 101 = μ 101) := by
  obtain ⟨r, s1, m1, a1, a2, a3, a4, a5⟩ := P_new (w := st) (a := a) hs he hv hst (by rw [← ha]; split <;> omega) h3 h35 hB h
  exact ⟨r, s1, m1, e7_fcopy hs (by omega) hsrc hst hc hv2 ha (by split <;> omega) a1, a2, a3, a4, a5⟩
/-- it is there, and a copy comes -/
theorem P_ms3 {B s e f : Int} {σ μ : S2} (hs : 0 ≤ s ∧ s ≤ 5) (he : 32 * s ≤ e ∧ e < 32 * s + 32) (h35 : σ 35 s ≠ 0) (h8 : σ 8 e = 1) (h9 : σ 9 e = f) (h10 : σ 10 e = 0) (hno : ¬ ((σ 15 f = 1 ∧ σ 20 f = 1) ∨ (σ 15 f = 2 ∧ σ 6 e ≠ 0))) (hB : B + 280100 ≤ 2147483647) (h : Rg (-1) (-1) B σ μ) : MsR B s e 1 σ μ := by
  have he2 : 0 ≤ e ∧ e ≤ 191 := by omega
  have hh := h
  obtain ⟨⟨q102, q103, q106, q107, q108, q109, q110, q111, q116, q121, q122, q123, q124, q125, q130, q135, q140⟩, hSp, hMp, hPr, hHd, hFr, hLs, hBl, hWr, hC1, hC2, hC3, hRc, hRo, hSc, hSt, hBd⟩ := h
  have hp := hPr e he2.1 he2.2
  have hp1 := hp.2.2.1 h8
  have hm := hMp e he2.1 he2.2
  have h3 : σ 3 e ≠ 0 := fun z => by have := hp.2.1 z; omega
  have hm2 := hm.2.2.2 h3
  have hhd := hHd f (by omega) (by omega)
  have hfr := hFr.1 f (by omega) (by omega)
  have hcp := cC_pos (c := σ 9) (n := 192) he2.1 (by omega) h9
  have hk0 : σ 15 f ≠ 0 := fun q => by have := hhd.2.2.1 q; omega
  have e117 : μ 117 e = f := by omega
  have e118 : μ 118 e = 0 := by omega
  have hent := e8_entriesOfS (f := f) (m := μ) (by omega) (c := σ 9) (fun d d0 d1 => by
    have h1 := hPr d d0 d1
    have h2 := hMp d d0 d1
    rw [q111, q116]
    constructor
    · rintro ⟨⟨a, b⟩, d⟩
      have := h1.2.2.1 b
      omega
    · intro a
      have h8 : σ 8 d = 1 := by
        apply Classical.byContradiction
        intro q
        have := (h1.2.2.2.1 q).1
        omega
      have h3 : σ 3 d ≠ 0 := fun q => by have := h1.2.1 q; omega
      have := h1.2.2.1 h8
      exact ⟨⟨by omega, h8⟩, by omega⟩)
  have hst2 : (if σ 15 f = 2 then σ 6 e else (if σ 20 f = 1 then 1 else 0 : Int) : Int) = 0 := by
    by_cases h2 : σ 15 f = 2
    · rw [if_pos h2]; omega
    · rw [if_neg h2, if_neg (by omega)]
  obtain ⟨r, s1, m1, a1, a2, a3, a4, a5, a6⟩ := ms_new (st := 1) (src := f) (a := 1) (v := σ 16 f) hs he ⟨hfr.1, hfr.2.1⟩ (by decide) h3 h35 (by omega) (by rw [hst2]; omega) (if_pos (by omega)) (if_neg (by omega)) (by omega) hh
  have hL : ∀ mm : S2, mm = sc (sc m1 140 (uc (m1 140) 6 (m1 140 6 + (if r < 0 then 0 else 1 : Int)))) 118 (uc (m1 118) e (if 0 ≤ r then 1 else 0 : Int)) → FX8_looksAt s e 1 μ = some (r, mm) := by
    intro mm hmm
    unfold FX8_looksAt
    refine rgd_eq ?_ (by omega) (by omega)
    rw [gd_pos hs, gd_pos he2, gd_pos (by decide), if_neg (show ¬ (μ 116 e ≠ 1) by rw [q116]; exact fun z => z h8)]
    simp only [bn, e117]
    rw [if_pos (show ((1 : Int) ≠ 0) ∧ (¬ (μ 118 e ≠ 0)) from ⟨by decide, by omega⟩)]
    have e122 : μ 122 f = σ 16 f := by rw [q122]
    have hc2 : (μ 121 f = 1) ∨ (¬ (μ 114 e ≠ 0)) := by
      rw [q121, hm2.2.2.2.1]
      omega
    have hfin : (cb (FX8_renews s e (μ 122 f) μ) fun r3 s11 => some (r3, upd2 (upd2 s11 140 6 ((s11 140 6) + (if r3 < 0 then 0 else 1 : Int))) 118 e (if 0 ≤ r3 then 1 else 0 : Int))) = some (r, mm) := by
      rw [e122, cb_e a2, hmm]
      simp (disch := decide) only [u2_sc, sc_k]
    by_cases h1 : μ 121 f = 1
    · have h20 : ¬ cC (σ 9) 192 f = 1 := by
        rw [q121] at h1
        have := hhd.2.2.2.1 (by omega) hk0
        omega
      rw [if_pos h1, cb_e hent, if_neg h20, if_neg (fun z => z rfl), if_pos hc2]
      exact hfin
    · rw [if_neg h1, if_neg (fun z => z rfl), if_pos hc2]
      exact hfin
  by_cases hr : 0 ≤ r
  · obtain ⟨b1, b2, b3, b4, b5, b6⟩ := a6 hr
    refine ⟨r, s1, _, hL _ rfl, a3, a4, ?_, fun _ => ⟨b2, b5⟩, fun z => by omega, b4, by simp (disch := decide) only [sc_s, sc_k]; exact b6, ?_⟩
    · rw [if_neg (show ¬ r < 0 by omega), if_pos hr]
      exact R_B (by omega) b1
    · intro KT
      unfold msC
      simp only [bn]
      rw [if_neg (show ¬ r < 0 by omega)] at a1
      rw [if_neg (show ¬ ((σ 8 e = 0) ∧ (σ 4 e ≠ (-1))) by omega), h9, cb_e a1, if_neg (by decide), b3, if_neg (show ¬ r < 0 by omega), if_neg (show ¬ r < 0 by omega)]
  · obtain ⟨b1, b2, b3⟩ := a5 (by omega)
    refine ⟨r, s1, _, hL _ rfl, a3, a4, ?_, fun z => absurd z hr, fun _ => b1, ?_, by simp (disch := decide) only [sc_s, sc_k]; exact b3.2.1 101 (by decide), ?_⟩
    · rw [if_pos (show r < 0 by omega), if_neg hr, c_nop]
      refine R_B (by omega) (R_118 (fun z => ?_) b2)
      have := b3.2.2.2.2 e he2.1 he2.2 z
      omega
    · intro k hk
      exact (WG_WF b3).1 k hk
    · intro KT
      unfold msC
      simp only [bn]
      rw [if_pos (show r < 0 by omega)] at a1
      rw [if_neg (show ¬ ((σ 8 e = 0) ∧ (σ 4 e ≠ (-1))) by omega), h9, cb_e a1, if_pos (show r < 0 by omega), if_pos (show r < 0 by omega)]
/-- it is out, or of nothing: a new page comes -/
theorem P_ms4 {B s e st v : Int} {σ μ : S2} (hs : 0 ≤ s ∧ s ≤ 5) (he : 32 * s ≤ e ∧ e < 32 * s + 32) (hst : 0 ≤ st ∧ st ≤ 1) (h3 : σ 3 e ≠ 0) (h35 : σ 35 s ≠ 0) (hcase : (σ 8 e = 2 ∧ v = μ 133 (μ 119 e)) ∨ (σ 8 e = 0 ∧ σ 4 e = -1 ∧ v = 0)) (hB : B + 280100 ≤ 2147483647) (h : Rg (-1) (-1) B σ μ) : MsR B s e st σ μ := by
  have he2 : 0 ≤ e ∧ e ≤ 191 := by omega
  have hh := h
  obtain ⟨⟨q102, q103, q106, q107, q108, q109, q110, q111, q116, q121, q122, q123, q124, q125, q130, q135, q140⟩, hSp, hMp, hPr, hHd, hFr, hLs, hBl, hWr, hC1, hC2, hC3, hRc, hRo, hSc, hSt, hBd⟩ := h
  have hp := hPr e he2.1 he2.2
  have hm := hMp e he2.1 he2.2
  have hm2 := hm.2.2.2 h3
  have h9 := (hp.2.2.2.1 (by omega)).1
  have h8n : σ 8 e ≠ 1 := by omega
  have hv : 0 ≤ v ∧ v ≤ 99999 ∧ (if 0 ≤ σ 11 e then σ 26 (σ 11 e) else 0 : Int) = v := by
    rcases hcase with w | w
    · have h11 := hp.2.2.2.2.1 w.1
      have hc := cC_pos (c := σ 11) (n := 192) he2.1 (by omega) rfl
      have hr := hRc (σ 11 e) (by omega) (by omega)
      have h5 := hr.2.2 (fun z => by have := hr.2.1.mp z; omega)
      rw [if_pos (by omega), w.2, ← h11.1]
      exact ⟨h5.2.2.2.2.2.1, h5.2.2.2.2.2.2.1, h5.2.1⟩
    · have h11 := hp.2.2.2.2.2 (by omega)
      rw [if_neg (by omega)]
      omega
  obtain ⟨r, s1, m1, a1, a2, a3, a4, a5, a6⟩ := ms_new (st := st) (src := -1) (a := 0) (v := v) hs he ⟨hv.1, hv.2.1⟩ hst h3 h35 (by decide) (fun z => absurd z.1 (by decide)) ((if_neg (by decide)).trans hv.2.2) (if_pos (by decide)) (by omega) hh
  have hL : FX8_looksAt s e st μ = some (r, sc m1 118 (uc (m1 118) e st)) := by
    unfold FX8_looksAt
    refine rgd_eq ?_ (by omega) (by omega)
    rw [gd_pos hs, gd_pos he2, gd_pos hst, if_pos (show μ 116 e ≠ 1 by rw [q116]; exact h8n)]
    have hci : FX8_comesIn s e st μ = some (r, m1) := by
      unfold FX8_comesIn
      refine rgd_eq ?_ (by omega) (by omega)
      rw [gd_pos hs, gd_pos he2, gd_pos hst]
      rcases hcase with w | w
      · have h11 := hp.2.2.2.2.1 w.1
        rw [if_pos (show μ 116 e = 2 by rw [q116]; exact w.1), gd_pos (by omega), ← w.2, cb_e a2]
      · rw [if_neg (show ¬ μ 116 e = 2 by rw [q116]; omega), if_pos (show μ 112 e = -1 by rw [hm2.2.1]; exact w.2.1), ← w.2.2, cb_e a2]
    rw [cb_e hci]
    simp only [bn]
    rw [u2_sc]
  by_cases hr : 0 ≤ r
  · obtain ⟨b1, b2, b3, b4, b5, b6⟩ := a6 hr
    rw [c_nop] at b1
    refine ⟨r, s1, _, hL, a3, a4, R_B (by omega) b1, fun _ => ⟨b2, b5⟩, fun z => by omega, b4, by simp (disch := decide) only [sc_s, sc_k]; exact b6, ?_⟩
    intro KT
    unfold msC
    simp only [bn]
    rw [if_neg (show ¬ r < 0 by omega)] at a1
    rw [if_neg (show ¬ ((σ 8 e = 0) ∧ (σ 4 e ≠ (-1))) by omega), h9, cb_e a1, if_neg (by decide), b3, if_neg (show ¬ r < 0 by omega), if_neg (show ¬ r < 0 by omega)]
  · obtain ⟨b1, b2, b3⟩ := a5 (by omega)
    refine ⟨r, s1, _, hL, a3, a4, R_B (by omega) (R_118 (fun z => ?_) b2), fun z => absurd z hr, fun _ => b1, ?_, by simp (disch := decide) only [sc_s, sc_k]; exact b3.2.1 101 (by decide), ?_⟩
    · have := b3.2.2.2.2 e he2.1 he2.2 z
      omega
    · intro k hk
      exact (WG_WF b3).1 k hk
    · intro KT
      unfold msC
      simp only [bn]
      rw [if_pos (show r < 0 by omega)] at a1
      rw [if_neg (show ¬ ((σ 8 e = 0) ∧ (σ 4 e ≠ (-1))) by omega), h9, cb_e a1, if_pos (show r < 0 by omega), if_pos (show r < 0 by omega)]
/-- it is of a file -/
theorem P_ms5 {B s e st : Int} {σ μ : S2} (hs : 0 ≤ s ∧ s ≤ 5) (he : 32 * s ≤ e ∧ e < 32 * s + 32) (hst : 0 ≤ st ∧ st ≤ 1) (h3 : σ 3 e ≠ 0) (h35 : σ 35 s ≠ 0) (h8 : σ 8 e = 0) (h4 : σ 4 e ≠ -1) (hB : B + 280100 ≤ 2147483647) (h : Rg (-1) (-1) B σ μ) : MsR B s e st σ μ := by
  have he2 : 0 ≤ e ∧ e ≤ 191 := by omega
  have hes : e / 32 = s := by omega
  have hm2 := (h.2.2.1 e he2.1 he2.2).2.2.2 h3
  have q116 : μ 116 = σ 8 := h.1.2.2.2.2.2.2.2.2.1
  have q107 : μ 107 = σ 33 := h.1.2.2.2.1
  obtain ⟨r, s1, m1, c1, c2, c3, c4, c5, c6, c7, c8, c9⟩ := P_cached (a := σ 4 e) (b := σ 5 e) (q := s) (by omega) (by omega) (by omega) (by omega) h
  rw [if_neg (show ¬ s < 0 by omega)] at c2
  have hL : ∀ (r' : Int) (mm m' : S2), -5 ≤ r' → r' ≤ 23 → mm = sc m' 118 (uc (m' 118) e st) → FX8_comesIn s e st μ = some (r', m') → FX8_looksAt s e st μ = some (r', mm) := by
    intro r' mm m' g1 g2 hmm hci
    unfold FX8_looksAt
    refine rgd_eq ?_ g1 g2
    rw [gd_pos hs, gd_pos he2, gd_pos hst, if_pos (show μ 116 e ≠ 1 by rw [q116]; omega), cb_e hci]
    simp only [bn]
    rw [u2_sc, hmm]
  have hC : ∀ (r' : Int) (m' : S2), -5 ≤ r' → r' ≤ 23 → (if (r < 0) ∨ ((st ≠ 0) ∧ (¬ (m1 114 e ≠ 0))) then bn (fun (v1 : Int) (s4 : S2) => bn (upd2 s4 140 6 ((s4 140 6) + (if v1 < 0 then 0 else 1 : Int))) fun s6 => some (v1, s6)) fun k1 => if r < 0 then k1 r m1 else cb (FX8_renews s e (m1 122 r) m1) fun r4 s5 => k1 r4 s5 else bn (upd2 m1 117 e r) fun s7 => bn (upd2 s7 116 e 1) fun s8 => some (r, s8)) = some (r', m') → FX8_comesIn s e st μ = some (r', m') := by
    intro r' m' g1 g2 hx
    unfold FX8_comesIn
    refine rgd_eq ?_ g1 g2
    rw [gd_pos hs, gd_pos he2, gd_pos hst, if_neg (show ¬ μ 116 e = 2 by rw [q116]; omega), hm2.2.1, if_neg h4, hm2.2.2.1, q107, cb_e c2]
    exact hx
  by_cases hr : 0 ≤ r
  · have hk := c7 hr
    have hlv : s1 35 s ≠ 0 := by rw [c9 (by omega) hs.1]; exact h35
    have hW := c4.2.2.1 e he2.1 he2.2 (by rw [hes]; exact hlv)
    have t8 : s1 8 e = 0 := by omega
    have t3 : s1 3 e ≠ 0 := by omega
    have hp := c3.2.2.2.1 e he2.1 he2.2
    have hm3 := (c3.2.2.1 e he2.1 he2.2).2.2.2 t3
    have t9 := hp.2.2.2.1 (by omega)
    have hfr := c3.2.2.2.2.2.1.1 r hr c6
    have hhd := c3.2.2.2.2.1 r hr c6
    have m122 : m1 122 = s1 16 := c3.1.2.2.2.2.2.2.2.2.2.2.1
    have hpi : FX7_pageIn r s1 = some (r, s1) := by
      rw [e7_pageIn ⟨c5, c6⟩, if_pos hr]
    by_cases hcp : (st ≠ 0) ∧ (¬ (m1 114 e ≠ 0))
    · -- a copy of it
      have hst1 : st = 1 := by omega
      have hsh : s1 6 e = 0 := by rw [← hm3.2.2.2.1]; omega
      obtain ⟨r2, s2, m2, a1, a2, a3, a4, a5, a6⟩ := ms_new (st := st) (src := r) (a := 1) (v := s1 16 r) hs he ⟨hfr.1, hfr.2.1⟩ hst t3 hlv (by omega) (by rw [if_pos hk, hsh]; omega) (if_pos hr) (if_neg (by omega)) (by omega) c3
      have e122 : m1 122 r = s1 16 r := by rw [m122]
      have hci := hC r2 (sc m2 140 (uc (m2 140) 6 (m2 140 6 + (if r2 < 0 then 0 else 1 : Int)))) a3 a4 (by
        rw [if_pos (Or.inr hcp)]
        simp only [bn]
        rw [if_neg (show ¬ r < 0 by omega), e122, cb_e a2, u2_sc])
      by_cases hr2 : 0 ≤ r2
      · obtain ⟨b1, b2, b3, b4, b5, b6⟩ := a6 hr2
        refine ⟨r2, s2, _, hL r2 _ _ a3 a4 rfl hci, a3, a4, ?_, fun _ => ⟨b2, by rw [b5, hW.1.2.1]⟩, fun z => by omega, fun k hk2 => by rw [b4 k hk2, c4.1 k hk2], by simp (disch := decide) only [sc_s, sc_k]; rw [b6, c4.2.1 101 (by decide)], ?_⟩
        · rw [if_neg (show ¬ r2 < 0 by omega)]
          simp (disch := decide) only [sc_s, sc_k]
          exact R_B (by omega) b1
        · intro KT
          unfold msC
          simp only [bn]
          rw [if_neg (show ¬ r2 < 0 by omega)] at a1
          rw [if_pos ⟨h8, h4⟩, cb_e c1, cb_e hpi, if_neg (show ¬ r < 0 by omega), cb_e a1, if_neg (by decide), b3, if_neg (show ¬ r2 < 0 by omega), if_neg (show ¬ r2 < 0 by omega)]
      · obtain ⟨b1, b2, b3⟩ := a5 (by omega)
        refine ⟨r2, s2, _, hL r2 _ _ a3 a4 rfl hci, a3, a4, ?_, fun z => absurd z hr2, fun _ => b1, fun k hk2 => by rw [(WG_WF b3).1 k hk2, c4.1 k hk2], by simp (disch := decide) only [sc_s, sc_k]; rw [b3.2.1 101 (by decide), c4.2.1 101 (by decide)], ?_⟩
        · rw [if_pos (show r2 < 0 by omega), c_nop]
          refine R_B (by omega) (R_118 (fun z => ?_) b2)
          have := b3.2.2.2.2 e he2.1 he2.2 z
          omega
        · intro KT
          unfold msC
          simp only [bn]
          rw [if_pos (show r2 < 0 by omega)] at a1
          rw [if_pos ⟨h8, h4⟩, cb_e c1, cb_e hpi, if_neg (show ¬ r < 0 by omega), cb_e a1, if_pos (show r2 < 0 by omega), if_pos (show r2 < 0 by omega)]
    · -- the cached page itself
      obtain ⟨d1, d2, d3⟩ := R_lv0 he2 t8 c3
      have hcC : s1 20 r = cC (s1 9) 192 r := hhd.2.2.2.1 (by omega) (by omega)
      have l3 : (lbC e s1) 3 = s1 3 := by unfold lbC abC; simp (disch := decide) only [sc_s, sc_k]
      have l8 : (lbC e s1) 8 e = 0 := by unfold lbC abC; simp (disch := decide) only [sc_s, sc_k, uc_s]
      have l15 : (lbC e s1) 15 = s1 15 := by unfold lbC abC; simp (disch := decide) only [sc_s, sc_k]
      have l20 : (lbC e s1) 20 = s1 20 := by unfold lbC abC; simp (disch := decide) only [sc_s, sc_k]
      have l9 : (lbC e s1) 9 = s1 9 := by unfold lbC abC; simp (disch := decide) only [sc_s, sc_k]; exact uc_id t9.1
      have hz := cC_lt (c := s1 9) (n := 192) (f := r) (a := e) he2.1 (by omega) (by omega)
      have hz2 := cC_r (c := s1 9) (n := 192) (f := r)
      have hR := R_enter (e := e) (f := r) (w := st) he2 ⟨hr, c6⟩ hst (Or.inl rfl) (by rw [l3]; exact t3) l8 (by rw [l15]; omega) (by rw [l20, l9]; exact hcC) (fun z => by rw [l15] at z; omega) d3
      have hci := hC r (sc (sc m1 117 (uc (m1 117) e r)) 116 (uc (m1 116) e 1)) c5 c6 (by
        rw [if_neg (by omega)]
        simp (disch := decide) only [bn, u2_sc, sc_k])
      have hcl : FX7_fault s e r st s1 = some (0, etC e r st (lbC e s1)) := by
        unfold FX7_fault
        refine rgd_eq ?_ (by decide) (by decide)
        rw [gd_pos hs, gd_pos he2, gd_pos (by omega), gd_pos hst, if_pos ⟨hr, by
          by_cases hz : st = 0
          · exact Or.inl (Or.inl (fun z => z hz))
          · right
            rw [if_pos hk, ← hm3.2.2.2.1]
            omega⟩]
        simp only [bn]
        rw [if_pos (show s1 9 e ≠ r by omega), cb_e (e7_give he2 ⟨hr, c6⟩ hst d1 (by rw [l20]; omega))]
      have hmm : sc (sc (sc m1 117 (uc (m1 117) e r)) 116 (uc (m1 116) e 1)) 118 (uc ((sc (sc m1 117 (uc (m1 117) e r)) 116 (uc (m1 116) e 1)) 118) e st) = etM e r st (sc (sc m1 116 (m1 116)) 120 (m1 120)) := by
        rw [sc_nop (σ := m1) rfl, sc_nop (σ := m1) rfl]
        unfold etM
        simp (disch := decide) only [sc_s, sc_k]
      refine ⟨r, etC e r st (lbC e s1), _, hL r _ _ c5 c6 rfl hci, c5, c6, ?_, fun _ => ⟨by unfold etC; simp (disch := decide) only [sc_s, sc_k, uc_s], ?_⟩, fun z => by omega, ?_, by simp (disch := decide) only [sc_s, sc_k]; exact c4.2.1 101 (by decide), ?_⟩
      · have hub : ub e (m1 120) = m1 120 ∨ True := Or.inr trivial
        -- the entry was in no block: nothing to undo there
        have hBl := c3.2.2.2.2.2.2.2.1
        have hun : ∀ t, e / 4 * 4 ≤ t → t < e / 4 * 4 + 4 → m1 120 t = 0 := by
          intro t t0 t1
          have h1 := hBl.2.1 t (by omega) (by omega)
          have h2 : t / 4 = e / 4 := by omega
          rw [h1, h2]
          apply Classical.byContradiction
          intro q
          have := (hBl.2.2 e he2.1 he2.2 q).1
          omega
        have hub2 : ub e (m1 120) = m1 120 := by
          funext t
          unfold ub
          split
          · rename_i q; exact (hun t q.1 q.2).symm
          · rfl
        have e116 : m1 116 e = 0 := by
          have : m1 116 = s1 8 := c3.1.2.2.2.2.2.2.2.2.1
          rw [this]; exact t8
        rw [lbM_0 e116, hub2, sc_nop rfl] at hR
        have hmm2 : sc (sc (sc m1 117 (uc (m1 117) e r)) 116 (uc (m1 116) e 1)) 118 (uc ((sc (sc m1 117 (uc (m1 117) e r)) 116 (uc (m1 116) e 1)) 118) e st) = etM e r st m1 := by
          unfold etM
          simp (disch := decide) only [sc_s, sc_k]
        rw [hmm2]
        exact R_B (by omega) hR
      · have e1 : (etC e r st (lbC e s1)) 3 = s1 3 := by unfold etC; simp (disch := decide) only [sc_s, sc_k]; exact l3
        rw [e1, hW.1.2.1]
      · intro k hk2
        rw [← c4.1 k hk2]
        unfold ksL at hk2
        simp only [List.mem_cons, List.not_mem_nil, or_false] at hk2
        unfold etC lbC abC
        rw [sc_k (by omega), sc_k (by omega), sc_k (by omega), sc_k (by omega), sc_k (by omega), sc_k (by omega), sc_k (by omega), sc_k (by omega), sc_k (by omega), sc_k (by omega)]
      · intro KT
        have e9 : (etC e r st (lbC e s1)) 9 e = r := by unfold etC; simp (disch := decide) only [sc_s, sc_k, uc_s]
        unfold msC
        simp only [bn]
        rw [if_pos ⟨h8, h4⟩, cb_e c1, cb_e hpi, if_neg (show ¬ r < 0 by omega), cb_e hcl, if_neg (by decide), e9, if_neg (show ¬ r < 0 by omega), if_neg (show ¬ r < 0 by omega)]
  · have hci := hC r (sc m1 140 (uc (m1 140) 6 (m1 140 6 + (if r < 0 then 0 else 1 : Int)))) c5 c6 (by
      rw [if_pos (Or.inl (by omega))]
      simp only [bn]
      rw [if_pos (show r < 0 by omega), u2_sc])
    rw [if_pos (show r < 0 by omega), c_nop] at hci
    refine ⟨r, s1, _, hL r _ _ c5 c6 rfl hci, c5, c6, R_B (by omega) (R_118 (fun z => ?_) c3), fun z => absurd z hr, fun z => by have := c8 z; omega, c4.1, by simp (disch := decide) only [sc_s, sc_k]; exact c4.2.1 101 (by decide), ?_⟩
    · have := c4.2.2.2.2 e he2.1 he2.2 z
      omega
    · intro KT
      unfold msC
      simp only [bn]
      rw [if_pos ⟨h8, h4⟩, cb_e c1, cb_e (e7_pageIn ⟨c5, c6⟩), if_neg hr, if_pos (show (-1 : Int) < 0 by decide), if_pos (show r < 0 by omega)]
theorem P_miss {B s e st : Int} {σ μ : S2} (hs : 0 ≤ s ∧ s ≤ 5) (he : 32 * s ≤ e ∧ e < 32 * s + 32) (hst : 0 ≤ st ∧ st ≤ 1) (h3 : σ 3 e ≠ 0) (h35 : σ 35 s ≠ 0) (hB : B + 280100 ≤ 2147483647) (h : Rg (-1) (-1) B σ μ) : MsR B s e st σ μ := by
  have hp := h.2.2.2.1 e (by omega) (by omega)
  rcases hp.1 with h8 | h8 | h8
  · by_cases h4 : σ 4 e = -1
    · exact P_ms4 hs he hst h3 h35 (Or.inr ⟨h8, h4, rfl⟩) hB h
    · exact P_ms5 hs he hst h3 h35 h8 h4 hB h
  · by_cases hf : st = 0 ∨ σ 10 e ≠ 0
    · exact P_ms1 hs he hst h8 rfl hf h
    · have hst1 : st = 1 := by omega
      subst hst1
      by_cases hno : (σ 15 (σ 9 e) = 1 ∧ σ 20 (σ 9 e) = 1) ∨ (σ 15 (σ 9 e) = 2 ∧ σ 6 e ≠ 0)
      · exact P_ms2 hs he h8 rfl (by omega) hno h
      · exact P_ms3 hs he h35 h8 rfl (by omega) hno hB h
  · exact P_ms4 hs he hst h3 h35 (Or.inl ⟨h8, rfl⟩) hB h
