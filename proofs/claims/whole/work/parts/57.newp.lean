/-! a new page for an entry -/
theorem e7_pageIn {r : Int} {σ : S2} (h : -5 ≤ r ∧ r ≤ 23) : FX7_pageIn r σ = some (if 0 ≤ r then r else -1, σ) := by
  unfold FX7_pageIn
  refine rgd_eq ?_ (by split <;> omega) (by split <;> omega)
  rw [gd_pos (by omega)]
  by_cases h0 : 0 ≤ r
  · rw [if_pos ⟨h0, by omega⟩, if_pos h0]
  · rw [if_neg (fun z => h0 z.1), if_neg h0]
theorem e7_give {e f w : Int} {σ s : S2} (he : 0 ≤ e ∧ e ≤ 191) (hf : 0 ≤ f ∧ f ≤ 23) (hw : 0 ≤ w ∧ w ≤ 1) (hl : FX7_leave e σ = some (0, s)) (h20 : 0 ≤ s 20 f ∧ s 20 f ≤ 191) : FX7_give e f w σ = some (0, etC e f w s) := by
  unfold FX7_give etC
  rw [gd_pos he, gd_pos hf, gd_pos hw, cb_e hl]
  simp (disch := decide) only [bn, u2_sc, sc_s, sc_k]
  rw [gd_pos (by omega)]
theorem P_new {B e v w s a : Int} {σ μ : S2} (hs : 0 ≤ s ∧ s ≤ 5) (he : 32 * s ≤ e ∧ e < 32 * s + 32) (hv : 0 ≤ v ∧ v ≤ 99999) (hw : 0 ≤ w ∧ w ≤ 1) (ha : 0 ≤ a ∧ a ≤ 1) (h3 : σ 3 e ≠ 0) (h35 : σ 35 s ≠ 0) (hB : B + 140010 ≤ 2147483647) (h : Rg (-1) (-1) B σ μ) : ∃ r s1 m1, (cb (FX7_frameFor (σ 33 s) s σ) fun r2 s6 => cb (FX7_pageIn r2 s6) fun r3 s7 => if r3 < 0 then some (r2, s7) else cb (FX2_begin r3 1 v (s7 33 s) s7) fun r4 s8 => cb (FX7_bringToEnd r3 0 s8) fun r5 s9 => bn (upd2 s9 48 6 ((s9 48 6) + a)) fun s10 => cb (FX7_give e r3 w s10) fun r6 s11 => some ((0 : Int), s11)) = some (if r < 0 then r else 0, s1) ∧ FX8_renews s e v μ = some (r, m1) ∧ -5 ≤ r ∧ r ≤ 23 ∧ (r < 0 → (r = -4 ∨ r = -5) ∧ Rg (-1) (-1) (B + 140010) s1 m1 ∧ WF σ μ s1 m1) ∧ (0 ≤ r → Rg (-1) (-1) (B + 140010) s1 (sc (sc m1 140 (uc (m1 140) 6 (m1 140 6 + a))) 118 (uc (m1 118) e w)) ∧ s1 8 e = 1 ∧ s1 9 e = r ∧ (∀ k, k ∈ [0, 33, 34, 36, 37, 38, 39, 41, 42, 43, 47, 51] → s1 k = σ k) ∧ s1 3 e = σ 3 e ∧ m1 101 = μ 101) := by
  have he2 : 0 ≤ e ∧ e ≤ 191 := by omega
  have hg := h.2.1.2.2.1 s hs.1 hs.2
  have q107 : μ 107 = σ 33 := h.1.2.2.2.1
  have hes : e / 32 = s := by omega
  obtain ⟨r, s', m', c1, c2, c3, c4, c5, c6, c7, c8, c9⟩ := P_takes (g := σ 33 s) (q := s) ⟨hg.1, hg.2.1⟩ (by omega) (by omega) h
  by_cases hr : 0 ≤ r
  · have hk := c7 hr
    have hlv : s' 35 s ≠ 0 := by rw [c9 (by omega) hs.1]; exact h35
    have hW := (c4.2.2.1 e he2.1 he2.2 (by rw [hes]; exact hlv)).1
    have s33 : s' 33 = σ 33 := c4.1 33 (by decide)
    have m107 : m' 107 = σ 33 := by rw [c4.2.1 107 (by decide), q107]
    obtain ⟨s'', m'', d1, d2, d3, d4, d5⟩ := R_leave he2 c3
    have hcom := d5 r v (σ 33 s) (uc (s' 48) 6 (s' 48 6 + a)) hr c6 hk
    have hk2 : s'' 15 r = 0 := by
      have := d4.2.2.2.2.2.2 r
      omega
    have t48 : s'' 48 = s' 48 := d4.1 48 (by decide)
    have t3 : s'' 3 = s' 3 := d4.1 3 (by decide)
    have m140 : m'' 140 = s'' 48 := d3.1.2.2.2.2.2.2.2.2.2.2.2.2.2.2.2.2
    have hBd2 := d3.2.2.2.2.2.2.2.2.2.2.2.2.2.2.2.2
    have hcC : cC (s'' 9) 192 r = 0 := (d3.2.2.2.2.1 r hr c6).2.2.1 hk2
    have hR1 := R_nw (f := r) (v := v) (g := σ 33 s) (cs := uc (s' 48) 6 (s' 48 6 + a)) ⟨hr, c6⟩ hk2 hv ⟨hg.1, hg.2.1⟩ (fun k k0 k1 => by
      have := hBd2.2.2.2.2 k k0 k1
      rw [← t48]
      unfold uc
      split
      · rename_i z; subst z; omega
      · omega) d3
    have n8 : nwC r v (σ 33 s) (uc (s' 48) 6 (s' 48 6 + a)) s'' 8 = s'' 8 := nwC_k (by decide)
    have n3 : nwC r v (σ 33 s) (uc (s' 48) 6 (s' 48 6 + a)) s'' 3 = s'' 3 := nwC_k (by decide)
    have n9 : nwC r v (σ 33 s) (uc (s' 48) 6 (s' 48 6 + a)) s'' 9 = s'' 9 := nwC_k (by decide)
    have n20 : nwC r v (σ 33 s) (uc (s' 48) 6 (s' 48 6 + a)) s'' 20 r = 0 := by unfold nwC brC bgC; simp (disch := decide) only [sc_s, sc_k, uc_s]
    have n15 : nwC r v (σ 33 s) (uc (s' 48) 6 (s' 48 6 + a)) s'' 15 r = 1 := by unfold nwC brC bgC; simp (disch := decide) only [sc_s, sc_k, uc_s]
    have n22 : nwC r v (σ 33 s) (uc (s' 48) 6 (s' 48 6 + a)) s'' 22 r = 0 := by unfold nwC brC bgC; simp (disch := decide) only [sc_s, sc_k, uc_s]
    have hR2 := R_enter (e := e) (w := w) he2 ⟨hr, c6⟩ hw (Or.inr rfl) (by rw [n3, t3, hW.2.1]; exact h3) (by rw [n8, d4.2.2.1, uc_s]) (by omega) (by rw [n20, n9, hcC]) (fun _ => Or.inl ⟨by rw [n9]; exact hcC, n22⟩) hR1
    have hn129 : 0 ≤ m'' 129 0 ∧ m'' 129 0 ≤ 23 := by
      obtain ⟨pos, hLp⟩ := d3.2.2.2.2.2.2.1
      exact ⟨hLp.1 0 (by decide) (by decide), m_Ls_23 hLp (by decide) ⟨hr, c6⟩ (Or.inl hk2)⟩
    refine ⟨r, etC e r w (nwC r v (σ 33 s) (uc (s' 48) 6 (s' 48 6 + a)) s''), sc (sc (ptM r 1 v (σ 33 s) 0 (m'' 129 0) m'') 117 (uc (m'' 117) e r)) 116 (uc (m'' 116) e 1), ?_, ?_, by omega, c6, fun z => by omega, fun _ => ⟨?_, ?_, ?_, ?_, ?_, ?_⟩⟩
    · rw [cb_e c1, cb_e (e7_pageIn ⟨c5, c6⟩), if_pos hr, if_neg (by omega), s33, cb_e (e7_begin ⟨hr, c6⟩ (by decide) hv ⟨hg.1, hg.2.1⟩), cb_e (e7_bring ⟨hr, c6⟩ (by decide))]
      simp only [bn]
      have e1 : upd2 (brC r 0 (bgC r 1 v (σ 33 s) s')) 48 6 (brC r 0 (bgC r 1 v (σ 33 s) s') 48 6 + a) = nwC r v (σ 33 s) (uc (s' 48) 6 (s' 48 6 + a)) s' := by
        rw [u2_sc]
        unfold nwC
        have e2 : brC r 0 (bgC r 1 v (σ 33 s) s') 48 = s' 48 := by unfold brC bgC; simp (disch := decide) only [sc_s, sc_k]
        rw [e2]
      rw [e1, cb_e (e7_give he2 ⟨hr, c6⟩ hw hcom (by rw [n20]; decide)), if_neg (by omega)]
    · unfold FX8_renews
      refine rgd_eq ?_ (by omega) (by omega)
      rw [gd_pos hs, gd_pos he2, gd_pos hv, q107, cb_e c2]
      simp only [bn]
      rw [if_pos hr, cb_e d2, d4.2.1 107 (by decide), m107, cb_e (e8_puts ⟨hr, c6⟩ (by decide) hv ⟨hg.1, hg.2.1⟩ (by decide) rfl hn129)]
      unfold ptM enM
      simp (disch := decide) only [u2_sc, sc_s, sc_k]
    · have e1 : sc (sc (sc (sc (ptM r 1 v (σ 33 s) 0 (m'' 129 0) m'') 117 (uc (m'' 117) e r)) 116 (uc (m'' 116) e 1)) 140 (uc ((sc (sc (ptM r 1 v (σ 33 s) 0 (m'' 129 0) m'') 117 (uc (m'' 117) e r)) 116 (uc (m'' 116) e 1)) 140) 6 ((sc (sc (ptM r 1 v (σ 33 s) 0 (m'' 129 0) m'') 117 (uc (m'' 117) e r)) 116 (uc (m'' 116) e 1)) 140 6 + a))) 118 (uc ((sc (sc (ptM r 1 v (σ 33 s) 0 (m'' 129 0) m'') 117 (uc (m'' 117) e r)) 116 (uc (m'' 116) e 1)) 118) e w) = etM e r w (pnM r v (σ 33 s) (uc (s' 48) 6 (s' 48 6 + a)) m'') := by
        rw [← t48, ← m140]
        funext k
        unfold etM pnM ptM enM
        by_cases h117 : k = 117
        · subst h117; simp (disch := decide) only [sc_s, sc_k]
        by_cases h116 : k = 116
        · subst h116; simp (disch := decide) only [sc_s, sc_k]
        by_cases h140 : k = 140
        · subst h140; simp (disch := decide) only [sc_s, sc_k]
        by_cases h118 : k = 118
        · subst h118; simp (disch := decide) only [sc_s, sc_k]
        by_cases h121 : k = 121
        · subst h121; simp (disch := decide) only [sc_s, sc_k]
        by_cases h122 : k = 122
        · subst h122; simp (disch := decide) only [sc_s, sc_k]
        by_cases h123 : k = 123
        · subst h123; simp (disch := decide) only [sc_s, sc_k]
        by_cases h124 : k = 124
        · subst h124; simp (disch := decide) only [sc_s, sc_k]
        by_cases h125 : k = 125
        · subst h125; simp (disch := decide) only [sc_s, sc_k]
        by_cases h126 : k = 126
        · subst h126; simp (disch := decide) only [sc_s, sc_k]
        by_cases h127 : k = 127
        · subst h127; simp (disch := decide) only [sc_s, sc_k]
        by_cases h128 : k = 128
        · subst h128; simp (disch := decide) only [sc_s, sc_k]
        by_cases h129 : k = 129
        · subst h129; simp (disch := decide) only [sc_s, sc_k]
        simp only [sc, h117, h116, h140, h118, h121, h122, h123, h124, h125, h126, h127, h128, h129, if_false]
      rw [e1]
      exact R_B (by omega) hR2
    · unfold etC; simp (disch := decide) only [sc_s, sc_k, uc_s]
    · unfold etC; simp (disch := decide) only [sc_s, sc_k, uc_s]
    · intro k hk3
      have g1 : (etC e r w (nwC r v (σ 33 s) (uc (s' 48) 6 (s' 48 6 + a)) s'')) k = s'' k := by
        simp only [List.mem_cons, List.not_mem_nil, or_false] at hk3
        unfold etC
        rw [sc_k (by omega), sc_k (by omega), sc_k (by omega), sc_k (by omega), nwC_k (by simp only [List.mem_cons, List.not_mem_nil, or_false, not_or]; omega)]
      rw [g1, d4.1 k (by simp only [List.mem_cons, List.not_mem_nil, or_false, not_or] at hk3 ⊢; omega), c4.1 k (by simp only [List.mem_cons, List.not_mem_nil, or_false] at hk3 ⊢; omega)]
    · have g1 : (etC e r w (nwC r v (σ 33 s) (uc (s' 48) 6 (s' 48 6 + a)) s'')) 3 = s'' 3 := by unfold etC; simp (disch := decide) only [sc_s, sc_k]; exact n3
      rw [g1, t3, hW.2.1]
    · unfold ptM enM
      simp (disch := decide) only [sc_s, sc_k]
      rw [d4.2.1 101 (by decide), c4.2.1 101 (by decide)]
  · refine ⟨r, s', m', ?_, ?_, c5, c6, fun _ => ⟨by have := c8 (by omega); omega, R_B (by omega) c3, c4⟩, fun z => absurd z hr⟩
    · rw [cb_e c1, cb_e (e7_pageIn ⟨c5, c6⟩), if_neg hr, if_pos (by decide), if_pos (by omega)]
    · unfold FX8_renews
      refine rgd_eq ?_ (by omega) (by omega)
      rw [gd_pos hs, gd_pos he2, gd_pos hv, q107, cb_e c2]
      simp only [bn]
      rw [if_neg hr]
