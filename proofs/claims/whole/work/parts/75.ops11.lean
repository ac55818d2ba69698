/-! calls: scan: an address is looked at -/
theorem P_gets {B e g : Int} {σ μ : S2} (he : 0 ≤ e ∧ e ≤ 191) (hg : 0 ≤ g ∧ g ≤ 23) (hk : σ 15 g = 1) (h22 : σ 22 g ≠ 0) (hne : σ 9 e ≠ g) (h3 : σ 3 e ≠ 0) (h : Rg (-1) (-1) B σ μ) : ∃ s1 m1, FX7_give e g 0 σ = some (0, s1) ∧ FX8_getsPage e g μ = some (0, m1) ∧ Rg (-1) (-1) B s1 m1 ∧ (∀ k, k ∈ [3, 12, 35, 36, 41, 42, 43] → s1 k = σ k) ∧ ∀ k, k ∈ [101, 102, 104, 105, 106, 109, 141] → m1 k = μ k := by
  obtain ⟨s, m, a1, a2, a3, a4, _⟩ := R_leave he h
  have s15 : s 15 g = 1 := by
    have := a4.2.2.2.2.2.2 g
    omega
  have s22 : s 22 g ≠ 0 := by rw [a4.1 22 (by decide)]; exact h22
  have s9 : s 9 e = -1 := by rw [a4.2.2.2.1, uc_s]
  have s8 : s 8 e = 0 := by rw [a4.2.2.1, uc_s]
  have s3 : s 3 e ≠ 0 := by rw [a4.1 3 (by decide)]; exact h3
  have hd := a3.2.2.2.2.1 g hg.1 hg.2
  have h20 := hd.2.2.2.1 (by omega) (by omega)
  have hlt := cC_lt (c := s 9) (n := 192) (f := g) (a := e) he.1 (by omega) (by omega)
  have hr := cC_r (c := s 9) (n := 192) (f := g)
  have hE := R_enter (x := -1) (w := 0) he hg (by decide) (Or.inl rfl) s3 s8 (by omega) h20 (fun _ => Or.inr ⟨s22, rfl⟩) a3
  refine ⟨etC e g 0 s, etM e g 0 m, e7_give he hg (by decide) a1 (by omega), ?_, hE, fun k hk2 => ?_, fun k hk2 => ?_⟩
  · unfold FX8_getsPage etM
    rw [gd_pos he, gd_pos hg, cb_e a2]
    simp (disch := decide) only [bn, u2_sc, sc_s, sc_k]
    rw [sc_comm (k := 116) (l := 117) (by decide)]
  · unfold etC
    simp only [List.mem_cons, List.not_mem_nil, or_false] at hk2
    rcases hk2 with z | z | z | z | z | z | z <;> subst z <;> simp (disch := decide) only [sc_s, sc_k] <;> exact a4.1 _ (by decide)
  · unfold etM
    simp only [List.mem_cons, List.not_mem_nil, or_false] at hk2
    rcases hk2 with z | z | z | z | z | z | z <;> subst z <;> simp (disch := decide) only [sc_s, sc_k] <;> exact a4.2.1 _ (by decide)
theorem e8_unw {e : Int} {μ : S2} (he : 0 ≤ e ∧ e ≤ 191) (hw : ∀ t, 0 ≤ t → t ≤ 7 → 0 ≤ μ 139 t ∧ μ 139 t ≤ 1) : FX8_unwrites e μ = some (0, if (μ 116 e = 1) ∧ (μ 118 e ≠ 0) then sc (sc μ 118 (uc (μ 118) e 0)) 139 (wt e (μ 135) (μ 136) (μ 139)) else μ) := by
  unfold FX8_unwrites
  rw [gd_pos he]
  simp only [bn, u2_sc]
  by_cases z : (μ 116 e = 1) ∧ (μ 118 e ≠ 0)
  · rw [if_pos z, if_pos z, cb_e (e8_tells he (by simp (disch := decide) only [sc_s, sc_k]; exact hw))]
    simp (disch := decide) only [sc_s, sc_k]
  · rw [if_neg z, if_neg z]
theorem fbC_22 {e : Int} {σ : S2} {c : Int → Int} : fbC e (sc σ 22 c) = sc (fbC e σ) 22 c := by
  unfold fbC tl
  simp (disch := decide) only [sc_s, sc_k]
  rw [sc_comm (k := 22) (l := 14) (by decide), sc_comm (k := 22) (l := 10) (by decide)]
theorem R_mark {x y B g : Int} {σ μ : S2} (hk : σ 15 g = 1) (w10 : ∀ e, 0 ≤ e → e ≤ 191 → σ 9 e = g → σ 10 e = 0) (w46 : ∀ e, 0 ≤ e → e ≤ 191 → σ 9 e = g → σ 46 (e / 4) = 0) (h : Rg x y B σ μ) : Rg x y B (sc σ 22 (uc (σ 22) g 1)) (sc μ 126 (uc (μ 126) g 1)) := by
  obtain ⟨⟨q102, q103, q106, q107, q108, q109, q110, q111, q116, q121, q122, q123, q124, q125, q130, q135, q140⟩, hSp, hMp, hPr, hHd, hFr, hLs, hBl, hWr, hC1, hC2, hC3, hRc, hRo, hSc, hSt, hBd⟩ := h
  refine ⟨⟨?_, ?_, ?_, ?_, ?_, ?_, ?_, ?_, ?_, ?_, ?_, ?_, ?_, ?_, ?_, ?_, ?_⟩, ?_, ?_, ?_, ?_, ?_, ?_, ?_, ?_, ?_, ?_, ?_, ?_, ?_, ?_, ?_, ?_⟩
  all_goals (try simp (disch := decide) only [sc_s, sc_k, q102, q103, q106, q107, q108, q109, q110, q111, q116, q121, q122, q123, q124, q125, q130, q135, q140])
  all_goals (try with_reducible assumption)
  · refine ⟨fun d d0 d1 => ?_, hFr.2⟩
    have h1 := hFr.1 d d0 d1
    by_cases hd : d = g
    · subst hd
      rw [uc_s, uc_s]
      exact ⟨h1.1, h1.2.1, h1.2.2.1, h1.2.2.2.1, h1.2.2.2.2.1, h1.2.2.2.2.2.1, by decide, by decide, h1.2.2.2.2.2.2.2.2.1, h1.2.2.2.2.2.2.2.2.2.1, by decide, by decide, fun _ => rfl, fun z => by omega⟩
    · rw [uc_n hd, uc_n hd]
      exact h1
  · refine ⟨hBl.1, hBl.2.1, fun e e0 e1 e2 => ?_⟩
    have h3 := hBl.2.2 e e0 e1 e2
    rw [uc_n (fun z => e2 (w46 e e0 e1 z))]
    exact h3
  · intro e e0 e1 e2 e3
    rw [uc_n (fun z => e2 (w10 e e0 e1 z))]
    exact hWr e e0 e1 e2 e3
/-- a page is merged from now on -/
theorem P_mrg {B e g : Int} {σ μ : S2} (he : 0 ≤ e ∧ e ≤ 191) (hg : 0 ≤ g ∧ g ≤ 23) (h9 : σ 9 e = g) (hk : σ 15 g = 1) (h : Rg (-1) (-1) B σ μ) : ∃ s1 m1, (∀ K : S2 → Option (Int × S2), (bn (upd2 σ 22 g 1) fun s5 => cb (FX1_forbidStores e s5) fun r3 s6 => cb (FX7_setJoined (e / 4) 0 s6) fun r4 s7 => K s7) = K s1) ∧ (∀ K : S2 → Option (Int × S2), (bn (upd2 μ 126 g 1) fun s4 => cb (FX8_unwrites e s4) fun r2 s5 => gl1 1000 (fun k3 (x_each1 : Int) (s6 : S2) => if x_each1 < 192 then bn (fun (s7 : S2) => k3 (x_each1 + 1) s7) fun k4 => if ((0 < s6 111 x_each1) ∧ (s6 116 x_each1 = 1)) ∧ (s6 117 x_each1 = g) then cb (FX8_unblocks x_each1 s6) fun r3 s8 => k4 s8 else k4 s6 else K s6) 0 s5) = K m1) ∧ Rg (-1) (-1) B s1 m1 ∧ s1 22 g = 1 ∧ (∀ k, k ∉ [10, 14, 22, 46] → s1 k = σ k) ∧ ∀ k, k ∉ [118, 120, 126, 139] → m1 k = μ k := by
  obtain ⟨hA1, hA2⟩ := P_fb he h
  have f9 : fbC e σ 9 = σ 9 := fbC_k (by decide)
  have f15 : fbC e σ 15 = σ 15 := fbC_k (by decide)
  have f10 : fbC e σ 10 e = 0 := by unfold fbC; simp (disch := decide) only [sc_s, sc_k, uc_s]
  obtain ⟨sB, hsB⟩ : ∃ s, s = sc (fbC e σ) 46 (uc (fbC e σ 46) (e / 4) 0) := ⟨_, rfl⟩
  have b9 : sB 9 = σ 9 := by rw [hsB]; simp (disch := decide) only [sc_s, sc_k]; exact f9
  have b15 : sB 15 = σ 15 := by rw [hsB]; simp (disch := decide) only [sc_s, sc_k]; exact f15
  have b10 : sB 10 e = 0 := by rw [hsB]; simp (disch := decide) only [sc_s, sc_k]; exact f10
  have b46 : sB 46 (e / 4) = 0 := by rw [hsB]; simp (disch := decide) only [sc_s, sc_k, uc_s]
  obtain ⟨S, M, hS0, hM0, hJ, hT⟩ := chain (J := fun j p q => Rg (-1) (-1) B p q ∧ ((j : Int) ≤ e → p = fbC e σ) ∧ (e < (j : Int) → p = sB) ∧ ∀ k, k ≠ 120 → q k = fbM e σ μ k)
    (T := fun j p q p' q' => (((0 < q 111 (j : Int)) ∧ (q 116 (j : Int) = 1)) ∧ (q 117 (j : Int) = g) → q' = sc q 120 (ub j (q 120))) ∧ (¬ (((0 < q 111 (j : Int)) ∧ (q 116 (j : Int) = 1)) ∧ (q 117 (j : Int) = g)) → q' = q)) 192 (by
    rintro j p q hj ⟨g1, g2, g3, g4⟩
    have hj2 : 0 ≤ (j : Int) ∧ (j : Int) ≤ 191 := by omega
    have hhas := P_has hg g1 j hj2.1 hj2.2
    have p9 : p 9 = σ 9 := by
      by_cases z : (j : Int) ≤ e
      · rw [g2 z]; exact f9
      · rw [g3 (by omega)]; exact b9
    by_cases hc : ((0 < q 111 (j : Int)) ∧ (q 116 (j : Int) = 1)) ∧ (q 117 (j : Int) = g)
    · have h9j := hhas.mp hc
      have hR := R_unb hj2 g1
      by_cases hje : (j : Int) = e
      · refine ⟨sB, sc q 120 (ub j (q 120)), ⟨fun _ => rfl, fun z => absurd hc z⟩, ?_, fun z => absurd z (by omega), fun _ => rfl, fun k hk2 => ?_⟩
        · rw [g2 (by omega), hje] at hR
          rw [hsB, hje]
          exact hR
        · rw [sc_k hk2]
          exact g4 k hk2
      · have h46 : p 46 ((j : Int) / 4) = 0 := by
          apply Classical.byContradiction
          intro z
          have h5 := (g1.2.2.2.2.2.2.2.1.2.2 j hj2.1 hj2.2 z).2.2.2 e he.1 he.2 (by rw [h9j, p9]; exact h9)
          exact hje h5.symm
        rw [uc_id h46, sc_nop rfl] at hR
        refine ⟨p, sc q 120 (ub j (q 120)), ⟨fun _ => rfl, fun z => absurd hc z⟩, hR, fun z => g2 (by omega), fun z => g3 (by omega), fun k hk2 => ?_⟩
        rw [sc_k hk2]
        exact g4 k hk2
    · have hje : (j : Int) ≠ e := fun z => hc (hhas.mpr (by rw [z, p9]; exact h9))
      exact ⟨p, q, ⟨fun z => absurd z hc, fun _ => rfl⟩, g1, fun z => g2 (by omega), fun z => g3 (by omega), g4⟩) (fbC e σ) (fbM e σ μ) ⟨hA2, fun _ => rfl, fun z => absurd z (by omega), fun _ _ => rfl⟩
  obtain ⟨g1, g2, g3, g4⟩ := hJ 192 (Nat.le_refl _)
  have hSB : S 192 = sB := g3 (by omega)
  rw [hSB] at g1
  have hsole : ∀ d, 0 ≤ d → d ≤ 191 → sB 9 d = g → (∀ w, 0 ≤ w → w ≤ 191 → sB 9 w = sB 9 d → w = d) → d = e := fun d d0 d1 d2 w => (w e he.1 he.2 (by rw [d2, b9]; exact h9)).symm
  have hM := R_mark (g := g) (by rw [b15]; exact hk) (fun d d0 d1 d2 => by
    apply Classical.byContradiction
    intro z
    have h5 := g1.2.2.2.2.2.2.2.2.1 d d0 d1 z (by rw [d2, b15]; exact hk)
    have h6 := hsole d d0 d1 d2 h5.2
    rw [h6] at z
    exact z b10) (fun d d0 d1 d2 => by
    apply Classical.byContradiction
    intro z
    have h5 := g1.2.2.2.2.2.2.2.1.2.2 d d0 d1 z
    have h6 := hsole d d0 d1 d2 h5.2.2.2
    rw [h6] at z
    exact z b46) g1
  have q126 : M 192 126 = μ 126 := by rw [g4 126 (by decide)]; exact fbM_k (by decide)
  have b22 : sB 22 = σ 22 := by rw [hsB]; simp (disch := decide) only [sc_s, sc_k]; exact fbC_k (by decide)
  rw [q126, b22] at hM
  refine ⟨_, _, fun K => ?_, fun K => ?_, hM, ?_, ?_, ?_⟩
  · simp only [bn]
    rw [u2_sc, cb_e (e7_forbid he), fbC_22, cb_e (e7_setJ0 he), hsB]
    simp (disch := decide) only [sc_s, sc_k]
    rw [sc_comm (k := 22) (l := 46) (by decide)]
  · have hw := h.2.2.2.2.2.2.2.2.2.2.1.2.1
    have u1 := e8_unw (μ := μ) he hw
    have u2 := e8_unw (μ := sc μ 126 (uc (μ 126) g 1)) he (by simp (disch := decide) only [sc_s, sc_k]; exact hw)
    rw [hA1] at u1
    have u3 : fbM e σ μ = (if (μ 116 e = 1) ∧ (μ 118 e ≠ 0) then sc (sc μ 118 (uc (μ 118) e 0)) 139 (wt e (μ 135) (μ 136) (μ 139)) else μ) := by
      injection u1 with u1
      injection u1
    have u4 : FX8_unwrites e (sc μ 126 (uc (μ 126) g 1)) = some (0, sc (fbM e σ μ) 126 (uc (μ 126) g 1)) := by
      rw [u2, u3]
      simp (disch := decide) only [sc_s, sc_k]
      by_cases z : (μ 116 e = 1) ∧ (μ 118 e ≠ 0)
      · rw [if_pos z, if_pos z, sc_comm (k := 126) (l := 118) (by decide), sc_comm (k := 126) (l := 139) (by decide)]
      · rw [if_neg z, if_neg z]
    simp only [bn]
    rw [u2_sc, cb_e u4, ← hM0]
    refine run1 (M := fun j => sc (M j) 126 (uc (μ 126) g 1)) (N := 192) (x0 := 0) (by decide) ?_ ?_
    · intro k j hj
      have hj2 : 0 ≤ (j : Int) ∧ (j : Int) ≤ 191 := by omega
      have h5 := hT j hj
      try dsimp only
      rw [Int.zero_add, if_pos (by omega)]
      simp (disch := decide) only [sc_s, sc_k]
      by_cases hc : ((0 < M j 111 (j : Int)) ∧ (M j 116 (j : Int) = 1)) ∧ (M j 117 (j : Int) = g)
      · rw [if_pos hc, cb_e (e8_unblocks hj2), h5.1 hc]
        simp (disch := decide) only [sc_s, sc_k]
        rw [sc_comm (k := 126) (l := 120) (by decide)]
      · rw [if_neg hc, h5.2 hc]
    · intro k
      exact if_neg (by decide)
  · simp (disch := decide) only [sc_s, sc_k, uc_s]
  · intro k hk2
    simp only [List.mem_cons, List.not_mem_nil, or_false, not_or] at hk2
    rw [sc_k hk2.2.2.1, hsB, sc_k hk2.2.2.2]
    exact fbC_k ⟨hk2.1, hk2.2.1⟩
  · intro k hk2
    simp only [List.mem_cons, List.not_mem_nil, or_false, not_or] at hk2
    rw [sc_k hk2.2.2.1, g4 k hk2.2.1]
    exact fbM_k ⟨hk2.1, hk2.2.2.2⟩
abbrev lkX (σ : S2) (d : Int) : Int := if σ 12 d ≠ 0 then σ 9 d else (-1)
abbrev lkQ (σ : S2) (f d : Int) : Prop := (((0 ≤ lkX σ d) ∧ (lkX σ d ≠ f)) ∧ ((σ 15 (lkX σ d) = 1) ∧ (¬ (σ 22 (lkX σ d) ≠ 0)))) ∧ (σ 16 (lkX σ d) = σ 16 f)
theorem e7_lookedTwin {f : Int} {σ : S2} (hf : 0 ≤ f ∧ f ≤ 23) (h9 : ∀ d, 0 ≤ d → d ≤ 191 → -1 ≤ σ 9 d ∧ σ 9 d ≤ 23) : FX7_lookedTwin f σ = some (fstI (lkQ σ f) 192, σ) := by
  unfold FX7_lookedTwin
  have hr := fstI_r (P := lkQ σ f) (n := 192)
  refine rgd_eq ?_ hr.1 (by omega)
  rw [gd_pos hf]
  refine glw1 6 (fun s x τ => s ≤ 6 ∧ x = s ∧ τ = σ ∧ ∀ d : Int, 0 ≤ d → d < 32 * s → ¬ lkQ σ f d) (fun o => o = _) ?_ 1000 0 0 σ (by omega) (Nat.zero_le _) ⟨Nat.zero_le _, rfl, rfl, fun d a b => by omega⟩
  rintro k s x τ ⟨hs, rfl, rfl, hn⟩ ih
  by_cases hs6 : s < 6
  · rw [if_pos (by omega)]
    have h1 := gl1_fst (β := Int × S2) (P := fun i => lkQ τ f (32 * (s : Int) + i)) (m := τ) (N := 32) (f := fun k2 (x_i_entry1 : Int) (s2 : S2) => if x_i_entry1 < 32 then gd (0 ≤ 32 * (s : Int) + x_i_entry1 ∧ 32 * (s : Int) + x_i_entry1 ≤ 191) <| gd ((0 ≤ (if s2 12 (32 * (s : Int) + x_i_entry1) ≠ 0 then s2 9 (32 * (s : Int) + x_i_entry1) else (-1) : Int)) → (-1) ≤ (if s2 12 (32 * (s : Int) + x_i_entry1) ≠ 0 then s2 9 (32 * (s : Int) + x_i_entry1) else (-1) : Int) ∧ (if s2 12 (32 * (s : Int) + x_i_entry1) ≠ 0 then s2 9 (32 * (s : Int) + x_i_entry1) else (-1) : Int) ≤ 23) <| gd (((0 ≤ (if s2 12 (32 * (s : Int) + x_i_entry1) ≠ 0 then s2 9 (32 * (s : Int) + x_i_entry1) else (-1) : Int)) ∧ ((if s2 12 (32 * (s : Int) + x_i_entry1) ≠ 0 then s2 9 (32 * (s : Int) + x_i_entry1) else (-1) : Int) ≠ f)) → 0 ≤ (if s2 12 (32 * (s : Int) + x_i_entry1) ≠ 0 then s2 9 (32 * (s : Int) + x_i_entry1) else (-1) : Int) ∧ (if s2 12 (32 * (s : Int) + x_i_entry1) ≠ 0 then s2 9 (32 * (s : Int) + x_i_entry1) else (-1) : Int) ≤ 23) <| gd ((((0 ≤ (if s2 12 (32 * (s : Int) + x_i_entry1) ≠ 0 then s2 9 (32 * (s : Int) + x_i_entry1) else (-1) : Int)) ∧ ((if s2 12 (32 * (s : Int) + x_i_entry1) ≠ 0 then s2 9 (32 * (s : Int) + x_i_entry1) else (-1) : Int) ≠ f)) ∧ ((s2 15 (if s2 12 (32 * (s : Int) + x_i_entry1) ≠ 0 then s2 9 (32 * (s : Int) + x_i_entry1) else (-1) : Int) = 1) ∧ (¬ (s2 22 (if s2 12 (32 * (s : Int) + x_i_entry1) ≠ 0 then s2 9 (32 * (s : Int) + x_i_entry1) else (-1) : Int) ≠ 0)))) → 0 ≤ (if s2 12 (32 * (s : Int) + x_i_entry1) ≠ 0 then s2 9 (32 * (s : Int) + x_i_entry1) else (-1) : Int) ∧ (if s2 12 (32 * (s : Int) + x_i_entry1) ≠ 0 then s2 9 (32 * (s : Int) + x_i_entry1) else (-1) : Int) ≤ 23) <| if (((0 ≤ (if s2 12 (32 * (s : Int) + x_i_entry1) ≠ 0 then s2 9 (32 * (s : Int) + x_i_entry1) else (-1) : Int)) ∧ ((if s2 12 (32 * (s : Int) + x_i_entry1) ≠ 0 then s2 9 (32 * (s : Int) + x_i_entry1) else (-1) : Int) ≠ f)) ∧ ((s2 15 (if s2 12 (32 * (s : Int) + x_i_entry1) ≠ 0 then s2 9 (32 * (s : Int) + x_i_entry1) else (-1) : Int) = 1) ∧ (¬ (s2 22 (if s2 12 (32 * (s : Int) + x_i_entry1) ≠ 0 then s2 9 (32 * (s : Int) + x_i_entry1) else (-1) : Int) ≠ 0)))) ∧ (s2 16 (if s2 12 (32 * (s : Int) + x_i_entry1) ≠ 0 then s2 9 (32 * (s : Int) + x_i_entry1) else (-1) : Int) = s2 16 f) then some (32 * (s : Int) + x_i_entry1, s2) else k2 (x_i_entry1 + 1) s2 else k ((s : Int) + 1) s2) (A := fun i => some (32 * (s : Int) + i, τ)) (Z := k ((s : Int) + 1) τ) (by decide) (fun k2 j hj => by
      have h2 := h9 (32 * (s : Int) + j) (by omega) (by omega)
      have h3 : (if τ 12 (32 * (s : Int) + j) ≠ 0 then τ 9 (32 * (s : Int) + j) else (-1) : Int) ≤ 23 := by split <;> omega
      rw [if_pos (by omega), gd_pos (by omega), gd_pos (fun z => ⟨by omega, h3⟩), gd_pos (fun z => ⟨z.1, h3⟩), gd_pos (fun z => ⟨z.1.1, h3⟩)]) (fun k2 => if_neg (by decide))
    refine h1.trans ?_
    rcases fstI_cases (fun i => lkQ τ f (32 * (s : Int) + i)) 32 with ⟨z1, z2⟩ | ⟨z1, z2, z3, z4⟩
    · rw [if_pos z1]
      refine ih hs6 _ _ ⟨hs6, by omega, rfl, fun d d0 d1 => ?_⟩
      by_cases hd : d < 32 * s
      · exact hn d d0 hd
      · have h5 := z2 (d - 32 * s) (by omega) (by omega)
        rw [show 32 * (s : Int) + (d - 32 * s) = d by omega] at h5
        exact h5
    · rw [if_neg (by omega)]
      obtain ⟨J, hJ⟩ := Int.eq_ofNat_of_zero_le (show 0 ≤ 32 * (s : Int) + fstI (fun i => lkQ τ f (32 * (s : Int) + i)) 32 by omega)
      have h5 := fstI_y (P := lkQ τ f) (n := 192) (j := J) (by omega) (by rw [← hJ]; exact z3) (fun i i0 i1 => by
        by_cases hi : i < 32 * s
        · exact hn i i0 hi
        · have h6 := z4 (i - 32 * s) (by omega) (by omega)
          rw [show 32 * (s : Int) + (i - 32 * s) = i by omega] at h6
          exact h6)
      rw [h5, ← hJ]
  · have : s = 6 := by omega
    subst this
    rw [if_neg (by decide), fstI_n (P := lkQ τ f) (n := 192) (fun i i0 i1 => hn i i0 (by omega))]
