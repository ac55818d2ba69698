/-! pages that are put out: the whole -/
theorem m_Fr_fin {c15 c16 c19 c21 c22 a d c24 c25 m126 m127 c44 : Int → Int} {f : Int} (hd : ∀ g, g ≠ f → d g = a g) (hdf : 0 ≤ d f ∧ d f ≤ 1) (h : rFr c15 c16 c19 c21 c22 a c24 c25 m126 m127 c44) : rFr (uc c15 f 0) c16 c19 c21 c22 d c24 c25 m126 m127 c44 := by
  refine ⟨fun g g0 g1 => ?_, h.2⟩
  have h1 := h.1 g g0 g1
  by_cases hg : g = f
  · subst hg
    rw [uc_s]
    exact ⟨h1.1, h1.2.1, h1.2.2.1, h1.2.2.2.1, h1.2.2.2.2.1, h1.2.2.2.2.2.1, h1.2.2.2.2.2.2.1, h1.2.2.2.2.2.2.2.1, hdf.1, hdf.2, h1.2.2.2.2.2.2.2.2.2.2.1, h1.2.2.2.2.2.2.2.2.2.2.2.1, fun q => absurd q (by decide), fun q => absurd q (by decide)⟩
  · rw [uc_n hg, hd g hg]
    exact h1
theorem R_fin {B f r l k n : Int} {a c : Int → Int} {σ μ : S2} (hf : 0 ≤ f ∧ f ≤ 23) (hr : -1 ≤ r ∧ r ≤ 17) (hk : σ 15 f ≠ 0) (ha : ∀ g, g ≠ f → σ 23 g = a g) (haf : 0 ≤ σ 23 f ∧ σ 23 f ≤ 1) (hno : ∀ e, 0 ≤ e → e ≤ 191 → σ 9 e ≠ f) (hrc : 0 ≤ r → 1 ≤ cC (σ 11) 192 r) (h : Rg f r B (mdC a c σ) μ) (hl : σ 17 f = l) (hpos : ∃ pos, rLp pos (σ 15) (σ 17) (σ 18) (μ 128) (μ 129) (σ 40) ∧ pos f = k) (hn : μ 129 l = n) : Rg (-1) (-1) B (sc (sc σ 15 (uc (σ 15) f 0)) 48 c) (sc (unM l k n μ) 121 (uc (μ 121) f 0)) := by
  unfold mdC Rg rEq at h
  simp (disch := decide) only [sc_s, sc_k] at h
  obtain ⟨⟨q102, q103, q106, q107, q108, q109, q110, q111, q116, q121, q122, q123, q124, q125, q130, q135, q140⟩, hSp, hMp, hPr, hHd, hFr, hLs, hBl, hWr, hC1, hC2, hC3, hRc, hRo, hSc, hSt, hBd⟩ := h
  have hz : cC (σ 9) 192 f = 0 := cC_0.mpr fun e e0 e1 => hno e e0 (by omega)
  obtain ⟨pos, hLp, hpk⟩ := hpos
  have hLs2 := m_Ls_un hf hk hpk hLp
  rw [hl, hn] at hLs2
  unfold unM
  refine ⟨⟨?_, ?_, ?_, ?_, ?_, ?_, ?_, ?_, ?_, ?_, ?_, ?_, ?_, ?_, ?_, ?_, ?_⟩, ?_, ?_, ?_, ?_, ?_, ?_, ?_, ?_, ?_, ?_, ?_, ?_, ?_, ?_, ?_, ?_⟩
  all_goals (try simp (disch := decide) only [sc_s, sc_k, q102, q103, q106, q107, q108, q109, q110, q111, q116, q121, q122, q123, q124, q125, q130, q135, q140, hn])
  all_goals (try with_reducible assumption)
  · intro g g0 g1
    have h1 := hHd g g0 g1
    by_cases hg : g = f
    · subst hg
      rw [uc_s]
      exact ⟨by decide, by decide, fun _ => hz, fun _ q => absurd rfl q, fun _ q => absurd q (by decide)⟩
    · rw [uc_n hg]
      exact ⟨h1.1, h1.2.1, h1.2.2.1, fun _ => h1.2.2.2.1 hg, fun _ => h1.2.2.2.2 hg⟩
  · exact m_Fr_fin ha haf hFr
  · refine ⟨hBl.1, hBl.2.1, fun e e0 e1 e2 => ?_⟩
    have h1 := hBl.2.2 e e0 e1 e2
    rw [uc_n (hno e e0 e1)]
    exact h1
  · intro e e0 e1 e2
    rw [uc_n (hno e e0 e1)]
    exact hWr e e0 e1 e2
  · intro q q0 q1
    have h1 := hRc q q0 q1
    refine ⟨h1.1, ⟨fun w => ⟨(h1.2.1.mp w).1, by omega⟩, fun w => h1.2.1.mpr ⟨w.1, fun w2 => ?_⟩⟩, h1.2.2⟩
    subst w2
    have := hrc q0
    omega
def OF (σ μ s1 m1 : S2) : Prop := (∀ k, k ∉ [8, 9, 10, 11, 14, 15, 23, 26, 27, 28, 29, 30, 31, 32, 44, 45, 46, 48, 49] → s1 k = σ k) ∧ (∀ k, k ∉ [103, 116, 119, 120, 121, 128, 129, 130, 131, 132, 133, 134, 139, 140] → m1 k = μ k) ∧ ∀ e, 0 ≤ e → e ≤ 191 → (s1 8 e = σ 8 e ∧ s1 9 e = σ 9 e ∧ s1 10 e = σ 10 e) ∨ (σ 8 e = 1 ∧ s1 8 e ≠ 1)
theorem e7_writeBack {f K : Int} {σ : S2} (hf : 0 ≤ f ∧ f ≤ 23) (hK : (σ 24 f) * 8 + σ 25 f = K) (hK2 : 0 ≤ K ∧ K ≤ 23) : FX7_writeBack f σ = some (0, sc (sc (sc σ 44 (uc (σ 44) K (σ 16 f))) 48 (uc (σ 48) 5 (σ 48 5 + 1))) 23 (uc (σ 23) f 0)) := by
  unfold FX7_writeBack
  rw [gd_pos hf, hK]
  simp (disch := decide) only [bn, u2_sc, sc_s, sc_k]
  rw [gd_pos (by omega), if_pos (by omega)]
theorem e7_noteEv {f K : Int} {σ : S2} (hf : 0 ≤ f ∧ f ≤ 23) (hK : (σ 24 f) * 8 + σ 25 f = K) (hK2 : 0 ≤ K ∧ K ≤ 23) : FX7_noteEviction f σ = some (0, sc σ 45 (uc (σ 45) K (σ 48 2 + 1))) := by
  unfold FX7_noteEviction
  rw [gd_pos hf, hK]
  simp (disch := decide) only [bn, u2_sc, sc_s, sc_k]
  rw [gd_pos (by omega), if_pos (by omega)]
/-- from the loops on -/
theorem L_out2 {B f r : Int} {a c : Int → Int} {σ μ : S2} (hf : 0 ≤ f ∧ f ≤ 23) (hr : -1 ≤ r ∧ r ≤ 17) (hk : σ 15 f ≠ 0) (ha : ∀ g, g ≠ f → σ 23 g = a g) (haf : 0 ≤ σ 23 f ∧ σ 23 f ≤ 1) (hex : 0 ≤ r → ∃ e, 0 ≤ e ∧ e ≤ 191 ∧ σ 9 e = f) (hc : c = uc (σ 48) 2 (σ 48 2 + 1)) (h : Rg f r B (mdC a c σ) μ) : ∃ s1 m1, gl1 1000 (fun k3 (x_i_space1 : Int) (s6 : S2) => if x_i_space1 < 6 then gl1 1000 (fun k4 (x_i_entry1 : Int) (s7 : S2) => if x_i_entry1 < 32 then bn (fun (s8 : S2) => k4 (x_i_entry1 + 1) s8) fun k5 => gd (0 ≤ 32 * x_i_space1 + x_i_entry1 ∧ 32 * x_i_space1 + x_i_entry1 ≤ 191) <| if s7 9 (32 * x_i_space1 + x_i_entry1) = f then cb (FX1_tellProcessors (32 * x_i_space1 + x_i_entry1) s7) fun r4 s9 => cb (FX7_setJoined ((32 * x_i_space1 + x_i_entry1) / 4) 0 s9) fun r5 s10 => cb (FX1_becomeOut (32 * x_i_space1 + x_i_entry1) r s10) fun r6 s11 => k5 s11 else k5 s7 else k3 (x_i_space1 + 1) s7) 0 s6 else bn (upd2 s6 15 f 0) fun s12 => bn (upd2 s12 48 2 ((s12 48 2) + 1)) fun s13 => some ((1 : Int), s13)) 0 σ = some ((1 : Int), s1) ∧ gl1 1000 (fun k4 (x_e1 : Int) (s9 : S2) => if x_e1 < 192 then bn (fun (s10 : S2) => k4 (x_e1 + 1) s10) fun k5 => if ((0 < s9 111 x_e1) ∧ (s9 116 x_e1 = 1)) ∧ (s9 117 x_e1 = f) then cb (FX8_tells x_e1 s9) fun r2 s11 => cb (FX8_unblocks x_e1 s11) fun r3 s12 => bn (upd2 s12 116 x_e1 (if r = (-1) then 0 else 2 : Int)) fun s13 => gd ((-1) ≤ r ∧ r ≤ 17) <| bn (upd2 s13 119 x_e1 r) fun s14 => k5 s14 else k5 s9 else cb (FX8_unlist f s9) fun r4 s15 => bn (upd2 s15 121 f 0) fun s16 => some ((1 : Int), s16)) 0 μ = some ((1 : Int), m1) ∧ Rg (-1) (-1) B s1 m1 ∧ s1 15 = uc (σ 15) f 0 ∧ (∀ k, k ∉ [8, 9, 10, 11, 14, 15, 30, 46, 48] → s1 k = σ k) ∧ (∀ k, k ∉ [116, 119, 120, 121, 128, 129, 139] → m1 k = μ k) ∧ ∀ e, 0 ≤ e → e ≤ 191 → (s1 8 e = σ 8 e ∧ s1 9 e = σ 9 e ∧ s1 10 e = σ 10 e) ∨ (σ 8 e = 1 ∧ s1 8 e ≠ 1) := by
  obtain ⟨s1, m1, b1, b2, b3, b4, b5, b6⟩ := L_out hf hr hk h
  obtain ⟨g1, g2, g3, g4⟩ := mdC_R h
  have hk1 : s1 15 f ≠ 0 := by rw [b5 15 (by decide)]; exact hk
  have hrc : 0 ≤ r → 1 ≤ cC (s1 11) 192 r := by
    intro h0
    obtain ⟨e, e0, e1, e2⟩ := hex h0
    exact cC_pos e0 (by omega) (((b4 e e0 e1).2.2 e2).2 h0)
  have hLs : rLs (s1 15) (s1 17) (s1 18) (m1 128) (m1 129) (s1 40) := by
    have h1 := b3
    unfold mdC Rg at h1
    simp (disch := decide) only [sc_s, sc_k] at h1
    exact h1.2.2.2.2.2.2.1
  have h123 : m1 121 = s1 15 ∧ m1 123 = s1 17 := by
    have h1 := b3.1
    unfold mdC rEq at h1
    simp (disch := decide) only [sc_s, sc_k] at h1
    exact ⟨h1.2.2.2.2.2.2.2.2.2.1, h1.2.2.2.2.2.2.2.2.2.2.2.1⟩
  obtain ⟨pos, hLp⟩ := hLs
  have hL2 := hLp.2.1 f hf.1 hf.2 hk1
  have hfin := R_fin (l := s1 17 f) (k := pos f) (n := m1 129 (s1 17 f)) hf hr hk1 (fun g hg => by rw [b5 23 (by decide)]; exact ha g hg) (by rw [b5 23 (by decide)]; exact haf) (fun e e0 e1 => (b4 e e0 e1).1) hrc b3 rfl ⟨pos, hLp, rfl⟩ rfl
  refine ⟨_, _, (b1 (fun s6 => bn (upd2 s6 15 f 0) fun s12 => bn (upd2 s12 48 2 ((s12 48 2) + 1)) fun s13 => some ((1 : Int), s13))).trans ?_, (b2 (fun s9 => cb (FX8_unlist f s9) fun r4 s15 => bn (upd2 s15 121 f 0) fun s16 => some ((1 : Int), s16))).trans ?_, hfin, ?_, ?_, ?_, ?_⟩
  · simp (disch := decide) only [bn, u2_sc, sc_s, sc_k]
    rw [hc, b5 48 (by decide)]
  · rw [cb_e (e8_unlist hf (l := s1 17 f) (p := pos f) (n := m1 129 (s1 17 f)) (by rw [h123.2]) ⟨hL2.1, hL2.2.1⟩ rfl (m_Ls_24 hLp ⟨hL2.1, hL2.2.1⟩) ⟨hL2.2.2.1, hL2.2.2.2.1⟩ (m_row hLp hf hk1))]
    unfold unM
    simp (disch := decide) only [bn, u2_sc, sc_s, sc_k]
  · simp (disch := decide) only [sc_s, sc_k]
    rw [b5 15 (by decide)]
  · intro k hk3
    simp only [List.mem_cons, List.not_mem_nil, or_false, not_or] at hk3
    simp only [sc, hk3, if_false]
    refine b5 k ?_
    simp only [List.mem_cons, List.not_mem_nil, or_false, not_or]
    omega
  · intro k hk3
    simp only [List.mem_cons, List.not_mem_nil, or_false, not_or] at hk3
    unfold unM
    simp only [sc, hk3, if_false]
    refine b6 k ?_
    simp only [List.mem_cons, List.not_mem_nil, or_false, not_or]
    omega
  · intro e e0 e1
    simp (disch := decide) only [sc_s, sc_k]
    have h1 := b4 e e0 e1
    by_cases h2 : σ 9 e = f
    · exact Or.inr ⟨(g4 e e0 e1 (by omega)).1, (h1.2.2 h2).1⟩
    · exact Or.inl ⟨(h1.2.1 h2).1, (h1.2.1 h2).2.1, (h1.2.1 h2).2.2.1⟩
