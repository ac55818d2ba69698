/-! calls: fork -/
def rsC (a b : Int) (σ : S2) : S2 := sc (sc (sc (sc (sc (sc (sc (sc (sc (sc (sc σ 2 (uc (σ 2) b 1)) 3 (uc (σ 3) b (σ 3 a))) 4 (uc (σ 4) b (σ 4 a))) 5 (uc (σ 5) b (σ 5 a))) 6 (uc (σ 6) b (σ 6 a))) 7 (uc (σ 7) b (σ 7 a))) 8 (uc (σ 8) b (σ 8 a))) 9 (uc (σ 9) b (σ 9 a))) 11 (uc (σ 11) b (σ 11 a))) 20 (if 0 ≤ σ 9 a then uc (σ 20) (σ 9 a) (σ 20 (σ 9 a) + 1) else σ 20)) 30 (if 0 ≤ σ 11 a then uc (σ 30) (σ 11 a) (σ 30 (σ 11 a) + 1) else σ 30)
theorem e7_resemble {a b : Int} {σ : S2} (ha : 0 ≤ a ∧ a ≤ 191) (hb : 0 ≤ b ∧ b ≤ 191) (h2 : σ 2 a ≠ 0) (h3 : 0 ≤ σ 3 a ∧ σ 3 a ≤ 3) (h4 : -1 ≤ σ 4 a ∧ σ 4 a ≤ 2) (h5 : 0 ≤ σ 5 a ∧ σ 5 a ≤ 7) (h6 : 0 ≤ σ 6 a ∧ σ 6 a ≤ 1) (h7 : 0 ≤ σ 7 a ∧ σ 7 a ≤ 1) (h46 : σ 4 a = -1 → σ 5 a = 0 ∧ σ 6 a = 0) (h20 : 0 ≤ σ 9 a → 0 ≤ σ 20 (σ 9 a) ∧ σ 20 (σ 9 a) ≤ 191) (h30 : 0 ≤ σ 11 a → 0 ≤ σ 30 (σ 11 a) ∧ σ 30 (σ 11 a) ≤ 191) : FX1_resemble b a σ = some (0, rsC a b σ) := by
  have e5 : (if σ 4 a = -1 then 0 else σ 5 a) = σ 5 a := by
    split
    · rename_i z; exact (h46 z).1.symm
    · rfl
  have e6 : (if σ 4 a ≠ -1 ∧ σ 6 a ≠ 0 then 1 else 0) = σ 6 a := by
    by_cases z : σ 4 a = -1
    · rw [if_neg (fun q => q.1 z)]; exact (h46 z).2.symm
    · by_cases z2 : σ 6 a = 0
      · rw [if_neg (fun q => q.2 z2), z2]
      · rw [if_pos ⟨z, z2⟩]; omega
  unfold FX1_resemble
  rw [gd_pos hb, gd_pos ha, if_neg (fun z => z h2), cb_e (e7_est hb h3 h4 (fun _ => h5) h6 h7), e5, e6]
  simp (disch := decide) only [bn, u2_sc, sc_s, sc_k, uc_s]
  unfold rsC
  by_cases z9 : 0 ≤ σ 9 a
  · rw [if_pos z9, if_pos z9, gd_pos (by omega)]
    by_cases z11 : 0 ≤ σ 11 a
    · rw [if_pos z11, if_pos z11, gd_pos (by omega)]
    · rw [if_neg z11, if_neg z11]
      congr 2
      funext k
      by_cases h2 : k = 2
      · subst h2; simp (disch := decide) only [sc_s, sc_k]
      by_cases h3 : k = 3
      · subst h3; simp (disch := decide) only [sc_s, sc_k]
      by_cases h4 : k = 4
      · subst h4; simp (disch := decide) only [sc_s, sc_k]
      by_cases h5 : k = 5
      · subst h5; simp (disch := decide) only [sc_s, sc_k]
      by_cases h6 : k = 6
      · subst h6; simp (disch := decide) only [sc_s, sc_k]
      by_cases h7 : k = 7
      · subst h7; simp (disch := decide) only [sc_s, sc_k]
      by_cases h8 : k = 8
      · subst h8; simp (disch := decide) only [sc_s, sc_k]
      by_cases h9 : k = 9
      · subst h9; simp (disch := decide) only [sc_s, sc_k]
      by_cases h11 : k = 11
      · subst h11; simp (disch := decide) only [sc_s, sc_k]
      by_cases h20 : k = 20
      · subst h20; simp (disch := decide) only [sc_s, sc_k]
      by_cases h30 : k = 30
      · subst h30; simp (disch := decide) only [sc_s, sc_k]
      simp only [sc, h2, h3, h4, h5, h6, h7, h8, h9, h11, h20, h30, if_false]
  · rw [if_neg z9, if_neg z9]
    by_cases z11 : 0 ≤ σ 11 a
    · rw [if_pos z11, if_pos z11, gd_pos (by omega)]
      congr 2
      funext k
      by_cases h2 : k = 2
      · subst h2; simp (disch := decide) only [sc_s, sc_k]
      by_cases h3 : k = 3
      · subst h3; simp (disch := decide) only [sc_s, sc_k]
      by_cases h4 : k = 4
      · subst h4; simp (disch := decide) only [sc_s, sc_k]
      by_cases h5 : k = 5
      · subst h5; simp (disch := decide) only [sc_s, sc_k]
      by_cases h6 : k = 6
      · subst h6; simp (disch := decide) only [sc_s, sc_k]
      by_cases h7 : k = 7
      · subst h7; simp (disch := decide) only [sc_s, sc_k]
      by_cases h8 : k = 8
      · subst h8; simp (disch := decide) only [sc_s, sc_k]
      by_cases h9 : k = 9
      · subst h9; simp (disch := decide) only [sc_s, sc_k]
      by_cases h11 : k = 11
      · subst h11; simp (disch := decide) only [sc_s, sc_k]
      by_cases h20 : k = 20
      · subst h20; simp (disch := decide) only [sc_s, sc_k]
      by_cases h30 : k = 30
      · subst h30; simp (disch := decide) only [sc_s, sc_k]
      simp only [sc, h2, h3, h4, h5, h6, h7, h8, h9, h11, h20, h30, if_false]
    · rw [if_neg z11, if_neg z11]
      congr 2
      funext k
      by_cases h2 : k = 2
      · subst h2; simp (disch := decide) only [sc_s, sc_k]
      by_cases h3 : k = 3
      · subst h3; simp (disch := decide) only [sc_s, sc_k]
      by_cases h4 : k = 4
      · subst h4; simp (disch := decide) only [sc_s, sc_k]
      by_cases h5 : k = 5
      · subst h5; simp (disch := decide) only [sc_s, sc_k]
      by_cases h6 : k = 6
      · subst h6; simp (disch := decide) only [sc_s, sc_k]
      by_cases h7 : k = 7
      · subst h7; simp (disch := decide) only [sc_s, sc_k]
      by_cases h8 : k = 8
      · subst h8; simp (disch := decide) only [sc_s, sc_k]
      by_cases h9 : k = 9
      · subst h9; simp (disch := decide) only [sc_s, sc_k]
      by_cases h11 : k = 11
      · subst h11; simp (disch := decide) only [sc_s, sc_k]
      by_cases h20 : k = 20
      · subst h20; simp (disch := decide) only [sc_s, sc_k]
      by_cases h30 : k = 30
      · subst h30; simp (disch := decide) only [sc_s, sc_k]
      simp only [sc, h2, h3, h4, h5, h6, h7, h8, h9, h11, h20, h30, if_false]
theorem R_res {B a b : Int} {σ μ : S2} (ha : 0 ≤ a ∧ a ≤ 191) (hb : 0 ≤ b ∧ b ≤ 191) (hab : a ≠ b) (h3a : σ 3 a ≠ 0) (h3b : σ 3 b = 0) (hbm : b < 32 * σ 41 0) (h10a : σ 10 a = 0) (h46 : σ 46 (a / 4) = 0) (h : Rg (-1) (-1) B σ μ) : Rg (-1) (-1) B (rsC a b σ) (cpM a b μ) := by
  obtain ⟨⟨q102, q103, q106, q107, q108, q109, q110, q111, q116, q121, q122, q123, q124, q125, q130, q135, q140⟩, hSp, hMp, hPr, hHd, hFr, hLs, hBl, hWr, hC1, hC2, hC3, hRc, hRo, hSc, hSt, hBd⟩ := h
  have hba : b ≠ a := fun z => hab z.symm
  have hma := hMp a ha.1 ha.2
  have hpa := hPr a ha.1 ha.2
  have hpb := hPr b hb.1 hb.2
  have h8b := hpb.2.1 h3b
  have h9b := hpb.2.2.2.1 (by omega)
  have h11b := hpb.2.2.2.2.2 (by omega)
  have h12b : σ 12 b = 0 := by
    apply Classical.byContradiction
    intro q
    exact (hSc.2.2.2.2.2.2.2.2.2 b hb.1 hb.2).2.2.2 q h3b
  have h46b : σ 46 (b / 4) = 0 := by
    apply Classical.byContradiction
    intro q
    have := (hBl.2.2 b hb.1 hb.2 q).1
    omega
  unfold rsC cpM
  refine ⟨⟨?_, ?_, ?_, ?_, ?_, ?_, ?_, ?_, ?_, ?_, ?_, ?_, ?_, ?_, ?_, ?_, ?_⟩, ?_, ?_, ?_, ?_, ?_, ?_, ?_, ?_, ?_, ?_, ?_, ?_, ?_, ?_, ?_, ?_⟩
  all_goals (try simp (disch := decide) only [sc_s, sc_k, q102, q103, q106, q107, q108, q109, q110, q111, q116, q121, q122, q123, q124, q125, q130, q135, q140])
  all_goals (try with_reducible assumption)
  · obtain ⟨a1, a2, a3, a4, a5, a6⟩ := hSp
    refine ⟨a1, a2, a3, a4, fun d d0 d1 => ?_, a6⟩
    rw [uc_n (show d ≠ b by omega)]
    exact a5 d d0 d1
  · intro d d0 d1
    have h1 := hMp d d0 d1
    by_cases hd2 : d = b
    · subst hd2
      simp only [uc_s]
      have h2 := hma.2.2.2 h3a
      exact ⟨hma.1, hma.2.1, fun z => absurd z h3a, fun _ => ⟨trivial, h2.2⟩⟩
    · simp only [uc_n hd2]
      exact h1
  · intro d d0 d1
    have h1 := hPr d d0 d1
    by_cases hd2 : d = b
    · subst hd2
      simp only [uc_s]
      refine ⟨hpa.1, hpa.2.1, fun z => ?_, fun z => ⟨(hpa.2.2.2.1 z).1, h9b.2⟩, hpa.2.2.2.2⟩
      have h2 := hpa.2.2.1 z
      exact ⟨h2.1, h2.2.1, h2.2.2.1, h9b.2, by rw [h9b.2]; decide, by rw [h9b.2]; decide⟩
    · simp only [uc_n hd2]
      exact h1
  · intro f f0 f1
    have h1 := hHd f f0 f1
    have h2 := cC_uc (c := σ 9) (n := 192) (a := b) (v := σ 9 a) (f := f) hb.1 (by omega)
    rw [h9b.1, if_neg (show ¬ (-1 : Int) = f by omega)] at h2
    rw [h2]
    by_cases hf : σ 9 a = f
    · have hp := cC_pos (c := σ 9) (n := 192) (f := f) (a := a) ha.1 (by omega) hf
      rw [if_pos hf, if_pos (by omega), hf, uc_s]
      refine ⟨h1.1, h1.2.1, fun z => ?_, fun z1 z2 => ?_, fun z1 z2 => ?_⟩
      · have := h1.2.2.1 z
        omega
      · have := h1.2.2.2.1 z1 z2
        omega
      · omega
    · rw [if_neg hf]
      have e20 : (if 0 ≤ σ 9 a then uc (σ 20) (σ 9 a) (σ 20 (σ 9 a) + 1) else σ 20) f = σ 20 f := by
        split
        · rw [uc_n (fun z => hf z.symm)]
        · rfl
      rw [e20]
      refine ⟨h1.1, h1.2.1, fun z => ?_, fun z1 z2 => ?_, fun z1 z2 => ?_⟩
      · have := h1.2.2.1 z
        omega
      · have := h1.2.2.2.1 z1 z2
        omega
      · have := h1.2.2.2.2 z1 z2
        omega
  · refine ⟨hBl.1, fun d d0 d1 => ?_, fun d d0 d1 d2 => ?_⟩
    · have h1 := hBl.2.1 d d0 d1
      by_cases hd : d = b
      · rw [hd, uc_s, h46b]
      · rw [uc_n hd]
        exact h1
    · have h1 := hBl.2.2 d d0 d1 d2
      have hda : d ≠ a := fun z => d2 (by rw [z]; exact h46)
      have hdb : d ≠ b := fun z => d2 (by rw [z]; exact h46b)
      rw [uc_n hdb, uc_n hdb]
      refine ⟨h1.1, h1.2.1, h1.2.2.1, fun w w0 w1 w2 => ?_⟩
      by_cases hwb : w = b
      · rw [hwb, uc_s] at w2
        exact absurd (h1.2.2.2 a ha.1 ha.2 w2) (fun z => hda z.symm)
      · rw [uc_n hwb] at w2
        exact h1.2.2.2 w w0 w1 w2
  · intro d d0 d1 d2 d3
    have hda : d ≠ a := fun z => d2 (by rw [z]; exact h10a)
    have hdb : d ≠ b := fun z => d2 (by rw [z]; exact h9b.2)
    rw [uc_n hdb] at d3 ⊢
    have h1 := hWr d d0 d1 d2 d3
    refine ⟨h1.1, fun w w0 w1 w2 => ?_⟩
    by_cases hwb : w = b
    · rw [hwb, uc_s] at w2
      exact absurd (h1.2 a ha.1 ha.2 w2) (fun z => hda z.symm)
    · rw [uc_n hwb] at w2
      exact h1.2 w w0 w1 w2
  · intro p t p0 p1 t0 t1 t2
    have h1 := hC3 p t p0 p1 t0 t1 t2
    have nb : μ 136 t ≠ b := fun z => by
      rw [z] at h1
      omega
    rw [uc_n nb, uc_n nb]
    exact h1
  · intro r r0 r1
    have h1 := hRc r r0 r1
    have h2 := cC_uc (c := σ 11) (n := 192) (a := b) (v := σ 11 a) (f := r) hb.1 (by omega)
    rw [h11b, if_neg (show ¬ (-1 : Int) = r by omega)] at h2
    rw [h2]
    by_cases hf : σ 11 a = r
    · have hp := cC_pos (c := σ 11) (n := 192) (f := r) (a := a) ha.1 (by omega) hf
      rw [if_pos hf, if_pos (by omega), hf, uc_s]
      refine ⟨by omega, ⟨fun z => ?_, fun z => ?_⟩, h1.2.2⟩
      · have := h1.2.1.mp z
        omega
      · omega
    · have e30 : (if 0 ≤ σ 11 a then uc (σ 30) (σ 11 a) (σ 30 (σ 11 a) + 1) else σ 30) r = σ 30 r := by
        split
        · rw [uc_n (fun z => hf z.symm)]
        · rfl
      rw [if_neg hf, e30]
      exact ⟨by omega, h1.2.1, h1.2.2⟩
  · obtain ⟨a1, a2, a3, a4, a5, a6, a7, a8, a9, a10⟩ := hSc
    refine ⟨a1, a2, a3, a4, a5, a6, a7, a8, a9, fun d d0 d1 => ?_⟩
    have h1 := a10 d d0 d1
    refine ⟨h1.1, h1.2.1, h1.2.2.1, fun z => ?_⟩
    rw [uc_n (fun w => z (by rw [w]; exact h12b))]
    exact h1.2.2.2 z
/-- an address is forked -/
theorem P_frk {B a b : Int} {σ μ : S2} (ha : 0 ≤ a ∧ a ≤ 191) (hb : 0 ≤ b ∧ b ≤ 191) (hab : a ≠ b) (h3b : σ 3 b = 0) (hbm : b < 32 * σ 41 0) (h : Rg (-1) (-1) B σ μ) : ∃ s1 m1, (∀ K : S2 → Option (Int × S2), (cb (FX1_forbidStores a σ) fun r4 s6 => gd (0 ≤ a ∧ a ≤ 191) <| cb (FX7_setJoined (a / 4) 0 s6) fun r5 s7 => cb (FX1_resemble b a s7) fun r6 s8 => K s8) = K s1) ∧ (∀ K : S2 → Option (Int × S2), (gd (0 ≤ a ∧ a ≤ 191) <| if 0 < μ 111 a then cb (FX8_copies a b μ) fun r2 s8 => cb (FX8_unwrites a s8) fun r3 s9 => cb (FX8_unblocks a s9) fun r4 s10 => K s10 else K μ) = K m1) ∧ Rg (-1) (-1) B s1 m1 ∧ m1 101 = μ 101 ∧ s1 41 = σ 41 ∧ ∀ d, d ≠ b → s1 3 d = σ 3 d := by
  have hh := h
  obtain ⟨⟨q102, q103, q106, q107, q108, q109, q110, q111, q116, q121, q122, q123, q124, q125, q130, q135, q140⟩, hSp, hMp, hPr, hHd, hFr, hLs, hBl, hWr, hC1, hC2, hC3, hRc, hRo, hSc, hSt, hBd⟩ := h
  have hmr := hMp a ha.1 ha.2
  have hpa := hPr a ha.1 ha.2
  by_cases h3a : σ 3 a = 0
  · have h8 := hpa.2.1 h3a
    have h10 := (hpa.2.2.2.1 (by omega)).2
    have h46 : σ 46 (a / 4) = 0 := by
      apply Classical.byContradiction
      intro q
      have := (hBl.2.2 a ha.1 ha.2 q).1
      omega
    have e2 : fbC a σ = σ := by
      unfold fbC
      rw [if_neg (fun z => z h10), sc_nop rfl, sc_nop (uc_id h10)]
    refine ⟨σ, μ, fun K => ?_, fun K => ?_, hh, rfl, rfl, fun _ _ => rfl⟩
    · rw [cb_e (e7_forbid ha), gd_pos ha, e2, cb_e (e7_setJ0 ha), sc_nop (uc_id h46)]
      have e3 : FX1_resemble b a σ = some (0, σ) := by
        unfold FX1_resemble
        rw [gd_pos hb, gd_pos ha, if_pos (fun z => z (hmr.2.2.1 h3a))]
      rw [cb_e e3]
    · rw [gd_pos ha, if_neg (by rw [q111]; omega)]
  · have hma := hmr.2.2.2 h3a
    obtain ⟨hA1, hA2⟩ := P_fb ha hh
    have hB := R_unb ha hA2
    have f10 : fbC a σ 10 a = 0 := by unfold fbC; simp (disch := decide) only [sc_s, sc_k, uc_s]
    have f3 : fbC a σ 3 = σ 3 := fbC_k (by decide)
    have f41 : fbC a σ 41 = σ 41 := fbC_k (by decide)
    have hF := R_res ha hb hab (by simp (disch := decide) only [sc_s, sc_k]; rw [f3]; exact h3a) (by simp (disch := decide) only [sc_s, sc_k]; rw [f3]; exact h3b) (by simp (disch := decide) only [sc_s, sc_k]; rw [f41]; exact hbm) (by simp (disch := decide) only [sc_s, sc_k]; exact f10) (by simp (disch := decide) only [sc_s, sc_k, uc_s]) hB
    have hBh := hB.2.2.2.2.1
    have hBr := hB.2.2.2.2.2.2.2.2.2.2.2.2.1
    refine ⟨_, _, fun K => ?_, fun K => ?_, hF, ?_, ?_, ?_⟩
    · have g2 : fbC a σ 2 = σ 2 := fbC_k (by decide)
      have g4 : fbC a σ 4 = σ 4 := fbC_k (by decide)
      have g5 : fbC a σ 5 = σ 5 := fbC_k (by decide)
      have g6 : fbC a σ 6 = σ 6 := fbC_k (by decide)
      have g7 : fbC a σ 7 = σ 7 := fbC_k (by decide)
      have g8 : fbC a σ 8 = σ 8 := fbC_k (by decide)
      have g9 : fbC a σ 9 = σ 9 := fbC_k (by decide)
      have g11 : fbC a σ 11 = σ 11 := fbC_k (by decide)
      have g15 : fbC a σ 15 = σ 15 := fbC_k (by decide)
      have g20 : fbC a σ 20 = σ 20 := fbC_k (by decide)
      have g30 : fbC a σ 30 = σ 30 := fbC_k (by decide)
      have h20 : 0 ≤ σ 9 a → 0 ≤ σ 20 (σ 9 a) ∧ σ 20 (σ 9 a) ≤ 191 := fun z => by
        have h8 : σ 8 a = 1 := by
          apply Classical.byContradiction
          intro q
          have := (hpa.2.2.2.1 q).1
          omega
        have h9 := hpa.2.2.1 h8
        have hhd := hHd (σ 9 a) h9.2.1 h9.2.2.1
        have hc1 := cC_pos (c := σ 9) (n := 192) (f := σ 9 a) (a := a) ha.1 (by omega) rfl
        have hc2 := cC_lt (c := σ 9) (n := 192) (f := σ 9 a) (a := b) hb.1 (by omega) (by
          have := ((hPr b hb.1 hb.2).2.2.2.1 (by have := (hPr b hb.1 hb.2).2.1 h3b; omega)).1
          omega)
        have hk : σ 15 (σ 9 a) ≠ 0 := fun w => by
          have := hhd.2.2.1 w
          omega
        have := hhd.2.2.2.1 (by omega) hk
        omega
      have h30 : 0 ≤ σ 11 a → 0 ≤ σ 30 (σ 11 a) ∧ σ 30 (σ 11 a) ≤ 191 := fun z => by
        have h11 : σ 8 a = 2 := by
          apply Classical.byContradiction
          intro q
          have := hpa.2.2.2.2.2 q
          omega
        have h9 := hpa.2.2.2.2.1 h11
        have hrc := hRc (σ 11 a) h9.2.1 h9.2.2
        have hc2 := cC_lt (c := σ 11) (n := 192) (f := σ 11 a) (a := b) hb.1 (by omega) (by
          have := (hPr b hb.1 hb.2).2.2.2.2.2 (by have := (hPr b hb.1 hb.2).2.1 h3b; omega)
          omega)
        have hcr := cC_r (c := σ 11) (n := 192) (f := σ 11 a)
        omega
      rw [cb_e (e7_forbid ha), gd_pos ha, cb_e (e7_setJ0 ha), cb_e (e7_resemble ha hb (by simp (disch := decide) only [sc_s, sc_k]; rw [g2]; omega) (by simp (disch := decide) only [sc_s, sc_k]; rw [f3]; exact ⟨hmr.1, hmr.2.1⟩) (by simp (disch := decide) only [sc_s, sc_k]; rw [g4]; omega) (by simp (disch := decide) only [sc_s, sc_k]; rw [g5]; omega) (by simp (disch := decide) only [sc_s, sc_k]; rw [g6]; omega) (by simp (disch := decide) only [sc_s, sc_k]; rw [g7]; omega) (by simp (disch := decide) only [sc_s, sc_k]; rw [g4, g5, g6]; exact hma.2.2.2.2.2.2.2.2.2.2.2.2.2) (by simp (disch := decide) only [sc_s, sc_k]; rw [g9, g20]; exact h20) (by simp (disch := decide) only [sc_s, sc_k]; rw [g11, g30]; exact h30))]
    · have hc := e8_copies (μ := μ) ha hb hab (by rw [q111]; exact ⟨hmr.1, hmr.2.1⟩) (by omega) (by omega) (by omega) (by omega) (by rw [hma.2.1, hma.2.2.1, hma.2.2.2.1]; exact hma.2.2.2.2.2.2.2.2.2.2.2.2.2)
      rw [gd_pos ha, if_pos (by rw [q111]; omega), cb_e hc]
      have hunw : FX8_unwrites a (cpM a b μ) = some (0, cpM a b (fbM a σ μ)) := by
        unfold FX8_unwrites
        rw [gd_pos ha]
        simp only [bn, u2_sc]
        have c116 : cpM a b μ 116 a = σ 8 a := by
          unfold cpM
          simp (disch := decide) only [sc_s, sc_k]
          rw [uc_n hab, q116]
        have c118 : cpM a b μ 118 a = μ 118 a := by
          unfold cpM
          simp (disch := decide) only [sc_s, sc_k]
          rw [uc_n hab]
        by_cases h10 : σ 10 a = 0
        · have e1 : fbM a σ μ = μ := if_neg (fun z => z h10)
          rw [e1, if_neg]
          rintro ⟨z1, z2⟩
          rw [c116] at z1
          rw [c118] at z2
          have := hpa.2.2.1 z1
          omega
        · have h8 : σ 8 a = 1 := by
            apply Classical.byContradiction
            intro q
            exact h10 (hpa.2.2.2.1 q).2
          have h118 := hpa.2.2.1 h8
          have e1 : fbM a σ μ = sc (sc μ 118 (uc (μ 118) a 0)) 139 (wt a (μ 135) (μ 136) (μ 139)) := if_pos h10
          rw [if_pos ⟨by rw [c116]; exact h8, by rw [c118]; omega⟩, cb_e (e8_tells ha (by unfold cpM; simp (disch := decide) only [sc_s, sc_k]; exact hC2.2.1)), e1]
          unfold cpM
          simp (disch := decide) only [sc_s, sc_k]
          rw [uc_comm (i := b) (j := a) (fun z => hab z.symm)]
          congr 2
          funext k
          by_cases h111 : k = 111
          · subst h111; simp (disch := decide) only [sc_s, sc_k]
          by_cases h112 : k = 112
          · subst h112; simp (disch := decide) only [sc_s, sc_k]
          by_cases h113 : k = 113
          · subst h113; simp (disch := decide) only [sc_s, sc_k]
          by_cases h114 : k = 114
          · subst h114; simp (disch := decide) only [sc_s, sc_k]
          by_cases h115 : k = 115
          · subst h115; simp (disch := decide) only [sc_s, sc_k]
          by_cases h116 : k = 116
          · subst h116; simp (disch := decide) only [sc_s, sc_k]
          by_cases h117 : k = 117
          · subst h117; simp (disch := decide) only [sc_s, sc_k]
          by_cases h118 : k = 118
          · subst h118; simp (disch := decide) only [sc_s, sc_k]
          by_cases h119 : k = 119
          · subst h119; simp (disch := decide) only [sc_s, sc_k]
          by_cases h120 : k = 120
          · subst h120; simp (disch := decide) only [sc_s, sc_k]
          by_cases h139 : k = 139
          · subst h139; simp (disch := decide) only [sc_s, sc_k]
          simp only [sc, h111, h112, h113, h114, h115, h116, h117, h118, h119, h120, h139, if_false]
      rw [cb_e hunw, cb_e (e8_unblocks ha)]
      congr 1
      unfold cpM
      simp (disch := decide) only [sc_s, sc_k]
      rw [ub_uc]
      funext k
      by_cases h111 : k = 111
      · subst h111; simp (disch := decide) only [sc_s, sc_k]
      by_cases h112 : k = 112
      · subst h112; simp (disch := decide) only [sc_s, sc_k]
      by_cases h113 : k = 113
      · subst h113; simp (disch := decide) only [sc_s, sc_k]
      by_cases h114 : k = 114
      · subst h114; simp (disch := decide) only [sc_s, sc_k]
      by_cases h115 : k = 115
      · subst h115; simp (disch := decide) only [sc_s, sc_k]
      by_cases h116 : k = 116
      · subst h116; simp (disch := decide) only [sc_s, sc_k]
      by_cases h117 : k = 117
      · subst h117; simp (disch := decide) only [sc_s, sc_k]
      by_cases h118 : k = 118
      · subst h118; simp (disch := decide) only [sc_s, sc_k]
      by_cases h119 : k = 119
      · subst h119; simp (disch := decide) only [sc_s, sc_k]
      by_cases h120 : k = 120
      · subst h120; simp (disch := decide) only [sc_s, sc_k]
      simp only [sc, h111, h112, h113, h114, h115, h116, h117, h118, h119, h120, if_false]
    · unfold cpM
      simp (disch := decide) only [sc_s, sc_k]
      exact fbM_k (by decide)
    · unfold rsC
      simp (disch := decide) only [sc_s, sc_k]
      exact f41
    · intro d hd
      unfold rsC
      simp (disch := decide) only [sc_s, sc_k]
      rw [uc_n hd, f3]
theorem s_fork : gSim_fork Iv := by
  intro n σ μ s hI hn hs
  have h := hI
  unfold Iv at h
  have h416 := h.2.1.2.1
  obtain ⟨e106, e102'⟩ := lv_al h
  have e102 : μ 102 0 = σ 41 0 := by rw [e102']
  have e106s : μ 106 s = σ 35 s := by rw [e106]
  by_cases h1 : (0 ≤ s) ∧ (s ≤ σ 41 0 - 1)
  · have hs5 : 0 ≤ s ∧ s ≤ 5 := by omega
    have hk := h.2.1.2.2.1 s hs5.1 hs5.2
    by_cases h2 : (σ 35 s ≠ 0) ∧ (σ 41 0 < 6)
    · have e107 : μ 107 = σ 33 := h.1.2.2.2.1
      have e109 : μ 109 = σ 36 := h.1.2.2.2.2.2.1
      obtain ⟨d, hd⟩ : ∃ d, d = σ 41 0 := ⟨_, rfl⟩
      have hsd : s ≠ d := by omega
      have hR : Rg (-1) (-1) (4000000 * (n : Int)) (sc (sc (sc (sc σ 41 (uc (σ 41) 0 (d + 1))) 33 (uc (σ 33) d (σ 33 s))) 35 (uc (σ 35) d 1)) 36 (uc (σ 36) d (σ 36 s))) (sc (sc (sc (sc (tw 0 μ) 102 (uc (μ 102) 0 (d + 1))) 106 (uc (μ 106) d 1)) 107 (uc (μ 107) d (μ 107 s))) 109 (uc (μ 109) d (μ 109 s))) := by
        have hR0 := R_tw (c := 0) h
        have t1 : tw 0 μ 102 = μ 102 := tw_k (by decide)
        have t2 : tw 0 μ 106 = μ 106 := tw_k (by decide)
        have t3 : tw 0 μ 107 = μ 107 := tw_k (by decide)
        have t4 : tw 0 μ 109 = μ 109 := tw_k (by decide)
        rw [← t1, ← t2, ← t3, ← t4]
        generalize tw 0 μ = μ0 at hR0
        clear h
        have h := hR0
        obtain ⟨⟨q102, q103, q106, q107, q108, q109, q110, q111, q116, q121, q122, q123, q124, q125, q130, q135, q140⟩, hSp, hMp, hPr, hHd, hFr, hLs, hBl, hWr, hC1, hC2, hC3, hRc, hRo, hSc, hSt, hBd⟩ := h
        refine ⟨⟨?_, ?_, ?_, ?_, ?_, ?_, ?_, ?_, ?_, ?_, ?_, ?_, ?_, ?_, ?_, ?_, ?_⟩, ?_, ?_, ?_, ?_, ?_, ?_, ?_, ?_, ?_, ?_, ?_, ?_, ?_, ?_, ?_, ?_⟩
        all_goals (try simp (disch := decide) only [sc_s, sc_k, q102, q103, q106, q107, q108, q109, q110, q111, q116, q121, q122, q123, q124, q125, q130, q135, q140])
        all_goals (try with_reducible assumption)
        obtain ⟨a1, a2, a3, a4, a5, a6⟩ := hSp
        refine ⟨by rw [uc_s]; omega, by rw [uc_s]; omega, fun t t0 t1 => ?_, fun t t0 t1 => ?_, fun e e0 e1 => ?_, a6⟩
        · have := a3 t t0 t1
          unfold uc
          split
          · omega
          · exact this
        · rw [uc_s] at t0
          rw [uc_n (by omega)]
          exact a4 t (by omega) t1
        · rw [uc_s] at e0
          exact a5 e (by omega) e1
      have hc0 := h.2.1.2.2.2.2.1
      obtain ⟨S, M, hS0, hM0, hJ, hT2⟩ := chain (J := fun j p q => Rg (-1) (-1) (4000000 * (n : Int)) p q ∧ q 101 = tw 0 μ 101 ∧ p 41 0 = d + 1 ∧ ∀ z : Int, 32 * d + j ≤ z → z ≤ 191 → p 3 z = 0)
        (T := fun j p q p' q' => (∀ K : S2 → Option (Int × S2), (cb (FX1_forbidStores (32 * s + j) p) fun r4 s6 => gd (0 ≤ 32 * s + (j : Int) ∧ 32 * s + (j : Int) ≤ 191) <| cb (FX7_setJoined ((32 * s + j) / 4) 0 s6) fun r5 s7 => cb (FX1_resemble (32 * d + j) (32 * s + j) s7) fun r6 s8 => K s8) = K p') ∧ (∀ K : S2 → Option (Int × S2), (gd (0 ≤ 32 * s + (j : Int) ∧ 32 * s + (j : Int) ≤ 191) <| if 0 < q 111 (32 * s + j) then cb (FX8_copies (32 * s + j) (32 * d + j) q) fun r2 s8 => cb (FX8_unwrites (32 * s + j) s8) fun r3 s9 => cb (FX8_unblocks (32 * s + j) s9) fun r4 s10 => K s10 else K q) = K q')) 32 (by
        rintro j p q hj ⟨g1, g2, g3, g4⟩
        obtain ⟨s1, m1, c1, c2, c3, c4, c5, c6⟩ := P_frk (a := 32 * s + j) (b := 32 * d + j) (by omega) (by omega) (by omega) (g4 _ (Int.le_refl _) (by omega)) (by rw [g3]; omega) g1
        refine ⟨s1, m1, ⟨c1, c2⟩, c3, c4.trans g2, by rw [c5]; exact g3, fun z z0 z1 => ?_⟩
        rw [c6 z (by omega)]
        exact g4 z (by omega) z1) _ _ ⟨hR, by simp (disch := decide) only [sc_s, sc_k], by simp (disch := decide) only [sc_s, sc_k, uc_s], fun z z0 z1 => by
          simp (disch := decide) only [sc_s, sc_k]
          exact hc0 z (by omega) z1⟩
      obtain ⟨g1, g2, g3, g4⟩ := hJ 32 (Nat.le_refl _)
      refine ⟨d, S 32, d, M 32, ?_, ?_, Or.inl (gx_0 (by omega)), ?_, fun _ => rfl, iv_ok (B := 4000000 * (n : Int)) (by omega) g1⟩
      · unfold FX7_fork
        refine rgx_eq ?_ (Or.inr (by omega))
        rw [gd_pos hs, cb_e (x_kn hs h1 h416), if_neg (by rw [gx_0 hs.1]; decide), cb_e (x_per (if_pos h2)), if_neg (by decide)]
        have e1 : FX7_begin (σ 33 s) σ = some (d, sc (sc (sc σ 41 (uc (σ 41) 0 (d + 1))) 33 (uc (σ 33) d (σ 33 s))) 35 (uc (σ 35) d 1)) := by
          unfold FX7_begin
          refine rgd_eq ?_ (by omega) (by omega)
          rw [gd_pos (by omega), gd_pos (by omega), if_pos h2.2, ← hd]
          simp only [bn]
          rw [gd_pos (by omega)]
          simp (disch := decide) only [u2_sc, sc_s, sc_k]
        rw [cb_e e1]
        simp (disch := decide) only [bn, u2_sc, sc_s, sc_k]
        refine Eq.trans (b := gl1 1000 _ 0 (S 0)) (by rw [hS0]) ?_
        refine run1 (N := 32) (x0 := 0) (by decide) ?_ ?_
        · intro k j hj
          rw [Int.zero_add, if_pos (by omega)]
          exact (hT2 j hj).1 (fun s8 => k ((j : Int) + 1) s8)
        · intro k
          exact if_neg (by decide)
      · unfold FX8_fork
        refine rgd_eq ?_ (by omega) (by omega)
        have t102 : tw 0 μ 102 0 = d := by rw [tw_k (by decide), e102, hd]
        rw [gd_pos hs, cb_e (q_2 (by rw [e102]; exact h1) (by rw [e102, e106s]; exact ⟨⟨h1, h2.1⟩, h2.2⟩)), if_pos (by decide), t102, gd_pos (by omega)]
        simp (disch := decide) only [bn, u2_sc, sc_s, sc_k]
        rw [gd_pos (by omega), gd_pos hs5, tw_k (show 102 ≠ 101 by decide), tw_k (show 106 ≠ 101 by decide), tw_k (show 107 ≠ 101 by decide), tw_k (show 109 ≠ 101 by decide)]
        refine Eq.trans (b := gl1 1000 _ 0 (M 0)) (by rw [hM0]) ?_
        refine run1 (N := 32) (x0 := 0) (by decide) ?_ ?_
        · intro k j hj
          rw [Int.zero_add, if_pos (by omega)]
          exact (hT2 j hj).2 (fun s8 => k ((j : Int) + 1) s8)
        · intro k
          exact if_neg (by decide)
      · rw [gx_0 (by omega), g2]
        exact tw_0
    · refine ⟨-1000000000003, σ, 0, tw 2 μ, ?_, ?_, by decide, by rw [gx_3]; exact tw_0, fun z => absurd z (by decide), iv_th hI⟩
      · unfold FX7_fork
        refine rgx_eq ?_ (Or.inl (by decide))
        rw [gd_pos hs, cb_e (x_kn hs h1 h416), if_neg (by rw [gx_0 hs.1]; decide), cb_e (x_perN (if_neg h2)), if_pos (by decide)]
      · unfold FX8_fork
        refine rgd_eq ?_ (by decide) (by decide)
        rw [gd_pos hs, cb_e (q_2b (by rw [e102]; exact h1) (by rw [e102, e106s]; exact fun z => h2 ⟨z.1.2, z.2⟩)), if_neg (by decide)]
  · refine ⟨-1000000000001, σ, 0, tw 1 μ, ?_, ?_, by decide, by rw [gx_1]; exact tw_0, fun z => absurd z (by decide), iv_th hI⟩
    · unfold FX7_fork
      refine rgx_eq ?_ (Or.inl (by decide))
      rw [gd_pos hs, cb_e (x_knN hs h1), if_pos (by decide)]
    · unfold FX8_fork
      refine rgd_eq ?_ (by decide) (by decide)
      rw [gd_pos hs, cb_e (q_2a (by rw [e102]; exact h1)), if_neg (by decide)]
