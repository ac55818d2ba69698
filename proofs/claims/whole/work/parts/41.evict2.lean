/-! pages that are put out: the loops -/
theorem R_cs {x y B B' : Int} {c : Int → Int} {σ μ : S2} (hB : B ≤ B') (hc : ∀ k, 0 ≤ k → k ≤ 7 → σ 48 k ≤ c k ∧ c k ≤ B') (h : Rg x y B σ μ) : Rg x y B' (sc σ 48 c) (sc μ 140 c) := by
  obtain ⟨⟨q102, q103, q106, q107, q108, q109, q110, q111, q116, q121, q122, q123, q124, q125, q130, q135, q140⟩, hSp, hMp, hPr, hHd, hFr, hLs, hBl, hWr, hC1, hC2, hC3, hRc, hRo, hSc, hSt, hBd⟩ := h
  refine ⟨⟨?_, ?_, ?_, ?_, ?_, ?_, ?_, ?_, ?_, ?_, ?_, ?_, ?_, ?_, ?_, ?_, ?_⟩, ?_, ?_, ?_, ?_, ?_, ?_, ?_, ?_, ?_, ?_, ?_, ?_, ?_, ?_, ?_, ?_⟩
  all_goals (try simp (disch := decide) only [sc_s, sc_k, q102, q103, q106, q107, q108, q109, q110, q111, q116, q121, q122, q123, q124, q125, q130, q135, q140])
  all_goals (try with_reducible assumption)
  · intro i i0 i1
    have h1 := hSt i i0 i1
    have h2 := hc 2 (by decide) (by decide)
    omega
  · obtain ⟨b1, b2, b3, b4, b5⟩ := hBd
    refine ⟨b1, by omega, b3, by omega, fun k k0 k1 => ?_⟩
    have := hc k k0 k1
    have := b5 k k0 k1
    omega
theorem R_B {x y B B' : Int} {σ μ : S2} (hB : B ≤ B') (h : Rg x y B σ μ) : Rg x y B' σ μ := by
  obtain ⟨⟨q102, q103, q106, q107, q108, q109, q110, q111, q116, q121, q122, q123, q124, q125, q130, q135, q140⟩, hSp, hMp, hPr, hHd, hFr, hLs, hBl, hWr, hC1, hC2, hC3, hRc, hRo, hSc, hSt, hBd⟩ := h
  refine ⟨⟨q102, q103, q106, q107, q108, q109, q110, q111, q116, q121, q122, q123, q124, q125, q130, q135, q140⟩, hSp, hMp, hPr, hHd, hFr, hLs, hBl, hWr, hC1, hC2, hC3, hRc, hRo, hSc, hSt, ?_⟩
  obtain ⟨b1, b2, b3, b4, b5⟩ := hBd
  refine ⟨b1, by omega, b3, by omega, fun k k0 k1 => ?_⟩
  have := b5 k k0 k1
  omega
theorem R_x {x y B : Int} {σ μ : S2} (h : Rg (-1) y B σ μ) : Rg x y B σ μ := by
  obtain ⟨⟨q102, q103, q106, q107, q108, q109, q110, q111, q116, q121, q122, q123, q124, q125, q130, q135, q140⟩, hSp, hMp, hPr, hHd, hFr, hLs, hBl, hWr, hC1, hC2, hC3, hRc, hRo, hSc, hSt, hBd⟩ := h
  refine ⟨⟨q102, q103, q106, q107, q108, q109, q110, q111, q116, q121, q122, q123, q124, q125, q130, q135, q140⟩, hSp, hMp, hPr, ?_, hFr, hLs, hBl, hWr, hC1, hC2, hC3, hRc, hRo, hSc, hSt, hBd⟩
  intro f f0 f1
  have h1 := hHd f f0 f1
  exact ⟨h1.1, h1.2.1, h1.2.2.1, fun _ => h1.2.2.2.1 (by omega), fun _ => h1.2.2.2.2 (by omega)⟩
theorem R_disk {x y B K v : Int} {σ μ : S2} (hv : 0 ≤ v ∧ v ≤ 99999) (h : Rg x y B σ μ) : Rg x y B (sc σ 44 (uc (σ 44) K v)) (sc μ 130 (uc (μ 130) K v)) := by
  obtain ⟨⟨q102, q103, q106, q107, q108, q109, q110, q111, q116, q121, q122, q123, q124, q125, q130, q135, q140⟩, hSp, hMp, hPr, hHd, hFr, hLs, hBl, hWr, hC1, hC2, hC3, hRc, hRo, hSc, hSt, hBd⟩ := h
  refine ⟨⟨?_, ?_, ?_, ?_, ?_, ?_, ?_, ?_, ?_, ?_, ?_, ?_, ?_, ?_, ?_, ?_, ?_⟩, ?_, ?_, ?_, ?_, ?_, ?_, ?_, ?_, ?_, ?_, ?_, ?_, ?_, ?_, ?_, ?_⟩
  all_goals (try simp (disch := decide) only [sc_s, sc_k, q102, q103, q106, q107, q108, q109, q110, q111, q116, q121, q122, q123, q124, q125, q130, q135, q140])
  all_goals (try with_reducible assumption)
  refine ⟨hFr.1, fun i i0 i1 => ?_⟩
  have := hFr.2 i i0 i1
  unfold uc
  split <;> omega
theorem R_stamp {x y B K w : Int} {σ μ : S2} (hw : 1 ≤ w ∧ w ≤ σ 48 2) (h : Rg x y B σ μ) : Rg x y B (sc σ 45 (uc (σ 45) K w)) (sc μ 131 (uc (μ 131) K w)) := by
  obtain ⟨⟨q102, q103, q106, q107, q108, q109, q110, q111, q116, q121, q122, q123, q124, q125, q130, q135, q140⟩, hSp, hMp, hPr, hHd, hFr, hLs, hBl, hWr, hC1, hC2, hC3, hRc, hRo, hSc, hSt, hBd⟩ := h
  refine ⟨⟨?_, ?_, ?_, ?_, ?_, ?_, ?_, ?_, ?_, ?_, ?_, ?_, ?_, ?_, ?_, ?_, ?_⟩, ?_, ?_, ?_, ?_, ?_, ?_, ?_, ?_, ?_, ?_, ?_, ?_, ?_, ?_, ?_, ?_⟩
  all_goals (try simp (disch := decide) only [sc_s, sc_k, q102, q103, q106, q107, q108, q109, q110, q111, q116, q121, q122, q123, q124, q125, q130, q135, q140])
  all_goals (try with_reducible assumption)
  intro i i0 i1
  have := hSt i i0 i1
  unfold uc
  split <;> omega
theorem mdC_R {x y B : Int} {a c : Int → Int} {σ μ : S2} (h : Rg x y B (mdC a c σ) μ) : (∀ e, 0 ≤ e → e ≤ 191 → ((((0 < μ 111 e) ∧ (μ 116 e = 1)) ∧ (μ 117 e = x)) ↔ σ 9 e = x) ∨ x < 0) ∧ (∀ t, 0 ≤ t → t ≤ 7 → 0 ≤ μ 139 t ∧ μ 139 t ≤ 1) ∧ (∀ e, 0 ≤ e → e ≤ 191 → σ 11 e = -1 → ∀ r, 0 ≤ r → r ≤ 17 → 0 ≤ σ 30 r ∧ σ 30 r ≤ 191) ∧ ∀ e, 0 ≤ e → e ≤ 191 → 0 ≤ σ 9 e → σ 8 e = 1 ∧ σ 11 e = -1 := by
  unfold mdC Rg rEq at h
  simp (disch := decide) only [sc_s, sc_k] at h
  obtain ⟨⟨q102, q103, q106, q107, q108, q109, q110, q111, q116, q121, q122, q123, q124, q125, q130, q135, q140⟩, hSp, hMp, hPr, hHd, hFr, hLs, hBl, hWr, hC1, hC2, hC3, hRc, hRo, hSc, hSt, hBd⟩ := h
  refine ⟨?_, hC2.2.1, ?_, ?_⟩
  · intro e e0 e1
    by_cases hx : x < 0
    · exact Or.inr hx
    left
    have h1 := hPr e e0 e1
    have h2 := hMp e e0 e1
    rw [q111, q116]
    constructor
    · rintro ⟨⟨a, b⟩, d⟩
      have := h1.2.2.1 b
      omega
    · intro a
      have h8 : σ 8 e = 1 := by
        apply Classical.byContradiction
        intro q
        have := (h1.2.2.2.1 q).1
        omega
      have h3 : σ 3 e ≠ 0 := fun q => by have := h1.2.1 q; omega
      have := h1.2.2.1 h8
      exact ⟨⟨by omega, h8⟩, by omega⟩
  · intro e e0 e1 h11 r r0 r1
    have h1 := hRc r r0 r1
    have h2 := cC_r (c := σ 11) (n := 192) (f := r)
    have h3 := cC_lt (c := σ 11) (n := 192) (f := r) (a := e) e0 (by omega) (by omega)
    omega
  · intro e e0 e1 e2
    have h1 := hPr e e0 e1
    have h8 : σ 8 e = 1 := by
      apply Classical.byContradiction
      intro q
      have := (h1.2.2.2.1 q).1
      omega
    exact ⟨h8, h1.2.2.2.2.2 (by omega)⟩
theorem L_out {B f r : Int} {a c : Int → Int} {σ μ : S2} (hf : 0 ≤ f ∧ f ≤ 23) (hr : -1 ≤ r ∧ r ≤ 17) (hk : σ 15 f ≠ 0) (h : Rg f r B (mdC a c σ) μ) : ∃ s1 m1, (∀ ZC : S2 → Option (Int × S2), gl1 1000 (fun k3 (x_i_space1 : Int) (s6 : S2) => if x_i_space1 < 6 then gl1 1000 (fun k4 (x_i_entry1 : Int) (s7 : S2) => if x_i_entry1 < 32 then bn (fun (s8 : S2) => k4 (x_i_entry1 + 1) s8) fun k5 => gd (0 ≤ 32 * x_i_space1 + x_i_entry1 ∧ 32 * x_i_space1 + x_i_entry1 ≤ 191) <| if s7 9 (32 * x_i_space1 + x_i_entry1) = f then cb (FX1_tellProcessors (32 * x_i_space1 + x_i_entry1) s7) fun r4 s9 => cb (FX7_setJoined ((32 * x_i_space1 + x_i_entry1) / 4) 0 s9) fun r5 s10 => cb (FX1_becomeOut (32 * x_i_space1 + x_i_entry1) r s10) fun r6 s11 => k5 s11 else k5 s7 else k3 (x_i_space1 + 1) s7) 0 s6 else ZC s6) 0 σ = ZC s1) ∧ (∀ ZM : S2 → Option (Int × S2), gl1 1000 (fun k4 (x_e1 : Int) (s9 : S2) => if x_e1 < 192 then bn (fun (s10 : S2) => k4 (x_e1 + 1) s10) fun k5 => if ((0 < s9 111 x_e1) ∧ (s9 116 x_e1 = 1)) ∧ (s9 117 x_e1 = f) then cb (FX8_tells x_e1 s9) fun r2 s11 => cb (FX8_unblocks x_e1 s11) fun r3 s12 => bn (upd2 s12 116 x_e1 (if r = (-1) then 0 else 2 : Int)) fun s13 => gd ((-1) ≤ r ∧ r ≤ 17) <| bn (upd2 s13 119 x_e1 r) fun s14 => k5 s14 else k5 s9 else ZM s9) 0 μ = ZM m1) ∧ Rg f r B (mdC a c s1) m1 ∧ (∀ e, 0 ≤ e → e ≤ 191 → s1 9 e ≠ f ∧ (σ 9 e ≠ f → s1 8 e = σ 8 e ∧ s1 9 e = σ 9 e ∧ s1 10 e = σ 10 e ∧ s1 11 e = σ 11 e) ∧ (σ 9 e = f → s1 8 e ≠ 1 ∧ (0 ≤ r → s1 11 e = r))) ∧ (∀ k, k ∉ [8, 9, 10, 11, 14, 30, 46] → s1 k = σ k) ∧ ∀ k, k ∉ [116, 119, 120, 139] → m1 k = μ k := by
  obtain ⟨S, M, hS0, hM0, hJ, hT⟩ := chain (J := fun j s m => Rg f r B (mdC a c s) m ∧ (∀ e : Int, 0 ≤ e → e ≤ 191 → (e < j → s 9 e ≠ f) ∧ (j ≤ e → s 9 e = σ 9 e) ∧ (σ 9 e ≠ f → s 8 e = σ 8 e ∧ s 9 e = σ 9 e ∧ s 10 e = σ 10 e ∧ s 11 e = σ 11 e) ∧ (e < j → σ 9 e = f → s 8 e ≠ 1 ∧ (0 ≤ r → s 11 e = r))) ∧ (∀ k, k ∉ [8, 9, 10, 11, 14, 30, 46] → s k = σ k) ∧ ∀ k, k ∉ [116, 119, 120, 139] → m k = μ k)
    (T := fun j s m s' m' => (∀ K : S2 → Option (Int × S2), (gd (0 ≤ (j : Int) ∧ (j : Int) ≤ 191) <| if s 9 (j : Int) = f then cb (FX1_tellProcessors (j : Int) s) fun r4 s9 => cb (FX7_setJoined ((j : Int) / 4) 0 s9) fun r5 s10 => cb (FX1_becomeOut (j : Int) r s10) fun r6 s11 => K s11 else K s) = K s') ∧ ∀ K : S2 → Option (Int × S2), (if ((0 < m 111 (j : Int)) ∧ (m 116 (j : Int) = 1)) ∧ (m 117 (j : Int) = f) then cb (FX8_tells (j : Int) m) fun r2 s11 => cb (FX8_unblocks (j : Int) s11) fun r3 s12 => bn (upd2 s12 116 (j : Int) (if r = (-1) then 0 else 2 : Int)) fun s13 => gd ((-1) ≤ r ∧ r ≤ 17) <| bn (upd2 s13 119 (j : Int) r) fun s14 => K s14 else K m) = K m') 192 (by
    rintro j s m hj ⟨h1, h2, h3, h4⟩
    obtain ⟨g1, g2, g3, g4⟩ := mdC_R h1
    have hj2 : 0 ≤ (j : Int) ∧ (j : Int) ≤ 191 := by omega
    have g1j := (g1 j hj2.1 hj2.2).resolve_right (by omega)
    by_cases h9 : s 9 (j : Int) = f
    · have g4j := g4 j hj2.1 hj2.2 (by omega)
      have hk2 : (mdC a c s) 15 f ≠ 0 := by rw [mdC_k (by decide) (by decide), h3 15 (by decide)]; exact hk
      have hR := R_ev hj2 hf hr hk2 (by rw [mdC_k (by decide) (by decide)]; exact h9) h1
      rw [evC_md] at hR
      refine ⟨evC j r s, evM j r m, ⟨fun K => ?_, fun K => ?_⟩, hR, ?_, ?_, ?_⟩
      · rw [gd_pos hj2, if_pos h9, cb_e (e7_tell hj2), cb_e (e7_setJ0 hj2), cb_e (e7_out hj2 hr (by
          intro h0
          simp (disch := decide) only [sc_s, sc_k]
          exact g3 j hj2.1 hj2.2 g4j.2 r h0 hr.2))]
        congr 1
      · rw [if_pos (g1j.mpr h9), cb_e (e8_tells hj2 g2), cb_e (e8_unblocks hj2)]
        unfold evM
        simp (disch := decide) only [bn, u2_sc, sc_s, sc_k]
        rw [gd_pos hr]
      · intro e e0 e1
        have h5 := h2 e e0 e1
        obtain ⟨x1, x2, x3, x4⟩ := evC_8 (e := (j : Int)) (r := r) (σ := s)
        rw [x1, x2, x3, x4]
        by_cases he : e = j
        · subst he
          simp only [uc_s]
          refine ⟨fun _ => by omega, fun q => by omega, fun q => absurd (by rw [← h5.2.1 (by omega)]; exact h9) q, fun _ _ => ⟨by split <;> omega, fun q => if_pos q⟩⟩
        · simp only [uc_n he]
          exact ⟨fun q => h5.1 (by omega), fun q => h5.2.1 (by omega), h5.2.2.1, fun q => h5.2.2.2 (by omega)⟩
      · intro k hk3
        rw [evC_k hk3, h3 k hk3]
      · intro k hk3
        rw [evM_k hk3, h4 k hk3]
    · refine ⟨s, m, ⟨fun K => ?_, fun K => ?_⟩, h1, ?_, h3, h4⟩
      · rw [gd_pos hj2, if_neg h9]
      · rw [if_neg (fun q => h9 (g1j.mp q))]
      · intro e e0 e1
        have h5 := h2 e e0 e1
        refine ⟨fun q => ?_, fun q => h5.2.1 (by omega), h5.2.2.1, fun q q2 => ?_⟩
        · by_cases he : e = j
          · rw [he]; exact h9
          · exact h5.1 (by omega)
        · by_cases he : e = j
          · subst he
            exact absurd (by rw [h5.2.1 (by omega)]; exact q2) h9
          · exact h5.2.2.2 (by omega) q2) σ μ ⟨h, fun e e0 e1 => ⟨fun q => by omega, fun _ => rfl, fun _ => ⟨rfl, rfl, rfl, rfl⟩, fun q => by omega⟩, fun _ _ => rfl, fun _ _ => rfl⟩
  have hJN := hJ 192 (Nat.le_refl _)
  refine ⟨S 192, M 192, fun ZC => ?_, fun ZM => ?_, hJN.1, ?_, hJN.2.2.1, hJN.2.2.2⟩
  · rw [← hS0]
    refine runN (g := fun k3 (x_i_space1 : Int) k4 (x_i_entry1 : Int) (s7 : S2) => if x_i_entry1 < 32 then bn (fun (s8 : S2) => k4 (x_i_entry1 + 1) s8) fun k5 => gd (0 ≤ 32 * x_i_space1 + x_i_entry1 ∧ 32 * x_i_space1 + x_i_entry1 ≤ 191) <| if s7 9 (32 * x_i_space1 + x_i_entry1) = f then cb (FX1_tellProcessors (32 * x_i_space1 + x_i_entry1) s7) fun r4 s9 => cb (FX7_setJoined ((32 * x_i_space1 + x_i_entry1) / 4) 0 s9) fun r5 s10 => cb (FX1_becomeOut (32 * x_i_space1 + x_i_entry1) r s10) fun r6 s11 => k5 s11 else k5 s7 else k3 (x_i_space1 + 1) s7) ?_ ?_ ?_ ?_
    · intro k s σ' hs
      exact if_pos (by omega)
    · intro k s i k2 hs hi
      have h1 := (hT (32 * s + i) (by omega)).1 (fun s8 => k2 ((i : Int) + 1) s8)
      have e1 : ((32 * s + i : Nat) : Int) = 32 * (s : Int) + (i : Int) := by omega
      rw [e1] at h1
      rw [if_pos (by omega)]
      exact h1
    · intro k s k2 σ' hs
      exact if_neg (by decide)
    · intro k
      exact if_neg (by decide)
  · rw [← hM0]
    refine run1 (N := 192) (x0 := 0) (by decide) ?_ ?_
    · intro k j hj
      have h1 := (hT j hj).2 (fun s10 => k ((j : Int) + 1) s10)
      rw [Int.zero_add, if_pos (by omega)]
      exact h1
    · intro k
      exact if_neg (by decide)
  · intro e e0 e1
    have h5 := hJN.2.1 e e0 e1
    exact ⟨h5.1 (by omega), h5.2.2.1, h5.2.2.2 (by omega)⟩
