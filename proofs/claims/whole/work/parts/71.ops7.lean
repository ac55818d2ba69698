/-! calls: protect, sync -/
theorem m_C3_tell {c1 m136 m137 m139 c8 c9 : Int → Int} {e : Int} (h1 : ∀ p, 0 ≤ p → p ≤ 1 → 0 ≤ c1 p ∧ c1 p ≤ 4) (h : rC3 c1 m136 m137 m139 c8 c9) : rC3 c1 m136 m137 (wt e c1 m136 m139) c8 c9 := by
  have h2 := m_C3_lv (e := e) (v := c8 e) (w := c9 e) h1 h
  rw [uc_id rfl, uc_id rfl] at h2
  exact h2
def fbM (e : Int) (σ μ : S2) : S2 := if σ 10 e ≠ 0 then sc (sc μ 118 (uc (μ 118) e 0)) 139 (wt e (μ 135) (μ 136) (μ 139)) else μ
theorem P_fb {x y B e : Int} {σ μ : S2} (he : 0 ≤ e ∧ e ≤ 191) (h : Rg x y B σ μ) : FX8_unwrites e μ = some (0, fbM e σ μ) ∧ Rg x y B (fbC e σ) (fbM e σ μ) := by
  have hh := h
  obtain ⟨⟨q102, q103, q106, q107, q108, q109, q110, q111, q116, q121, q122, q123, q124, q125, q130, q135, q140⟩, hSp, hMp, hPr, hHd, hFr, hLs, hBl, hWr, hC1, hC2, hC3, hRc, hRo, hSc, hSt, hBd⟩ := h
  have hp := hPr e he.1 he.2
  by_cases h10 : σ 10 e = 0
  · have e1 : fbM e σ μ = μ := if_neg (fun z => z h10)
    have e2 : fbC e σ = σ := by
      unfold fbC
      rw [if_neg (fun z => z h10), sc_nop rfl, sc_nop (uc_id h10)]
    rw [e1, e2]
    refine ⟨?_, hh⟩
    unfold FX8_unwrites
    rw [gd_pos he]
    simp only [bn]
    rw [if_neg (fun z => by rw [q116] at z; have := hp.2.2.1 z.1; omega)]
  · have h8 : σ 8 e = 1 := by
      apply Classical.byContradiction
      intro q
      exact h10 (hp.2.2.2.1 q).2
    have h118 := hp.2.2.1 h8
    have e1 : fbM e σ μ = sc (sc μ 118 (uc (μ 118) e 0)) 139 (wt e (μ 135) (μ 136) (μ 139)) := if_pos h10
    have e2 : fbC e σ = sc (sc σ 14 (uc (σ 14) e 3)) 10 (uc (σ 10) e 0) := by
      unfold fbC tl
      rw [if_pos h10, if_pos h8]
    rw [e1, e2]
    refine ⟨?_, ?_⟩
    · unfold FX8_unwrites
      rw [gd_pos he]
      simp only [bn, u2_sc]
      rw [if_pos (by rw [q116]; exact ⟨h8, by omega⟩), cb_e (e8_tells he (by simp (disch := decide) only [sc_s, sc_k]; exact hC2.2.1))]
      simp (disch := decide) only [sc_s, sc_k]
    · have hC2' := m_C2_tell he hC1.1 hC2
      have hC3' := m_C3_tell (e := e) hC1.1 hC3
      refine ⟨⟨?_, ?_, ?_, ?_, ?_, ?_, ?_, ?_, ?_, ?_, ?_, ?_, ?_, ?_, ?_, ?_, ?_⟩, ?_, ?_, ?_, ?_, ?_, ?_, ?_, ?_, ?_, ?_, ?_, ?_, ?_, ?_, ?_, ?_⟩
      all_goals (try simp (disch := decide) only [sc_s, sc_k, q102, q103, q106, q107, q108, q109, q110, q111, q116, q121, q122, q123, q124, q125, q130, q135, q140])
      all_goals (try with_reducible assumption)
      · intro d d0 d1
        have h1 := hPr d d0 d1
        by_cases hd : d = e
        · subst hd
          rw [uc_s, uc_s]
          exact ⟨h1.1, h1.2.1, fun z => ⟨(h1.2.2.1 z).1, (h1.2.2.1 z).2.1, (h1.2.2.1 z).2.2.1, rfl, by decide, by decide⟩, fun z => ⟨(h1.2.2.2.1 z).1, rfl⟩, h1.2.2.2.2⟩
        · rw [uc_n hd, uc_n hd]
          exact h1
      · intro d d0 d1 q1 q2
        by_cases hd : d = e
        · rw [hd, uc_s] at q1
          exact absurd rfl q1
        · rw [uc_n hd] at q1
          exact hWr d d0 d1 q1 q2
theorem fbM_k {e : Int} {σ μ : S2} {k : Nat} (hk : k ≠ 118 ∧ k ≠ 139) : fbM e σ μ k = μ k := by
  unfold fbM
  split
  · rw [sc_k hk.2, sc_k hk.1]
  · rfl
theorem fbC_k {e : Int} {σ : S2} {k : Nat} (hk : k ≠ 10 ∧ k ≠ 14) : fbC e σ k = σ k := by
  unfold fbC
  rw [sc_k hk.1, sc_k hk.2]
theorem fbM_111 {e : Int} {σ μ : S2} {c d : Int → Int} : fbM e (sc σ 3 c) (sc μ 111 d) = sc (fbM e σ μ) 111 d := by
  unfold fbM
  rw [sc_k (show 10 ≠ 3 by decide)]
  by_cases h : σ 10 e = 0
  · rw [if_neg (fun z => z h), if_neg (fun z => z h)]
  · rw [if_pos h, if_pos h]
    simp (disch := decide) only [sc_s, sc_k]
    rw [sc_comm (k := 111) (l := 118) (by decide), sc_comm (k := 111) (l := 139) (by decide)]
theorem R_rt {x y B e r : Int} {σ μ : S2} (hr : 1 ≤ r ∧ r ≤ 3) (h3 : σ 3 e ≠ 0) (h : Rg x y B σ μ) : Rg x y B (sc σ 3 (uc (σ 3) e r)) (sc μ 111 (uc (μ 111) e r)) := by
  obtain ⟨⟨q102, q103, q106, q107, q108, q109, q110, q111, q116, q121, q122, q123, q124, q125, q130, q135, q140⟩, hSp, hMp, hPr, hHd, hFr, hLs, hBl, hWr, hC1, hC2, hC3, hRc, hRo, hSc, hSt, hBd⟩ := h
  refine ⟨⟨?_, ?_, ?_, ?_, ?_, ?_, ?_, ?_, ?_, ?_, ?_, ?_, ?_, ?_, ?_, ?_, ?_⟩, ?_, ?_, ?_, ?_, ?_, ?_, ?_, ?_, ?_, ?_, ?_, ?_, ?_, ?_, ?_, ?_⟩
  all_goals (try simp (disch := decide) only [sc_s, sc_k, q102, q103, q106, q107, q108, q109, q110, q111, q116, q121, q122, q123, q124, q125, q130, q135, q140])
  all_goals (try with_reducible assumption)
  · obtain ⟨a1, a2, a3, a4, a5, a6⟩ := hSp
    refine ⟨a1, a2, a3, a4, fun d d0 d1 => ?_, a6⟩
    have h1 := a5 d d0 d1
    rw [uc_n (fun z => h3 (by rw [← z]; exact h1))]
    exact h1
  · intro d d0 d1
    have h1 := hMp d d0 d1
    by_cases hd : d = e
    · subst hd
      rw [uc_s]
      exact ⟨by omega, by omega, fun z => by omega, fun _ => h1.2.2.2 h3⟩
    · rw [uc_n hd]
      exact h1
  · intro d d0 d1
    have h1 := hPr d d0 d1
    by_cases hd : d = e
    · subst hd
      rw [uc_s]
      exact ⟨h1.1, fun z => by omega, h1.2.2⟩
    · rw [uc_n hd]
      exact h1
  · obtain ⟨a1, a2, a3, a4, a5, a6, a7, a8, a9, a10⟩ := hSc
    refine ⟨a1, a2, a3, a4, a5, a6, a7, a8, a9, fun d d0 d1 => ?_⟩
    have h1 := a10 d d0 d1
    refine ⟨h1.1, h1.2.1, h1.2.2.1, fun z => ?_⟩
    unfold uc
    split
    · omega
    · exact h1.2.2.2 z
theorem P_prot {x y B e r : Int} {σ μ : S2} (he : 0 ≤ e ∧ e ≤ 191) (hr : 1 ≤ r ∧ r ≤ 3) (h : Rg x y B σ μ) : ∃ s1 m1, (∀ K : S2 → Option (Int × S2), (if σ 2 e ≠ 0 then gd (0 ≤ r ∧ r ≤ 3) <| bn (upd2 σ 3 e r) fun s6 => cb (FX1_forbidStores e s6) fun r4 s7 => cb (FX7_setJoined (e / 4) 0 s7) fun r5 s8 => K s8 else K σ) = K s1) ∧ (∀ K : S2 → Option (Int × S2), (if 0 < μ 111 e then cb (FX8_unwrites e μ) fun r2 s4 => cb (FX8_unblocks e s4) fun r3 s5 => gd (0 ≤ r ∧ r ≤ 3) <| bn (upd2 s5 111 e r) fun s6 => K s6 else K μ) = K m1) ∧ Rg x y B s1 m1 ∧ m1 101 = μ 101 := by
  have hm := h.2.2.1 e he.1 he.2
  have m111 : μ 111 = σ 3 := h.1.2.2.2.2.2.2.2.1
  by_cases h3 : σ 3 e = 0
  · refine ⟨σ, μ, fun K => ?_, fun K => ?_, h, rfl⟩
    · rw [if_neg (fun z => z (hm.2.2.1 h3))]
    · rw [if_neg (by rw [m111]; omega)]
  · have hA := R_rt hr h3 h
    obtain ⟨hB1, hB2⟩ := P_fb he hA
    have hC := R_unb he hB2
    rw [fbM_111] at hC
    have hD := (P_fb he h).1
    have z111 : fbM e σ μ 111 = μ 111 := fbM_k (by decide)
    refine ⟨_, _, fun K => ?_, fun K => ?_, hC, ?_⟩
    · rw [if_pos (by have := (hm.2.2.2 h3).1; omega), gd_pos (by omega)]
      simp only [bn]
      rw [u2_sc, cb_e (e7_forbid he), cb_e (e7_setJ0 he)]
    · rw [if_pos (by rw [m111]; omega), cb_e hD, cb_e (e8_unblocks he), gd_pos (by omega)]
      simp (disch := decide) only [bn, u2_sc, sc_s, sc_k]
      rw [z111, sc_comm (k := 120) (l := 111) (by decide)]
    · simp (disch := decide) only [sc_s, sc_k]
      exact fbM_k (by decide)
theorem s_protect : gSim_protect Iv := by
  intro n σ μ s a c r hI hn hs ha hc hr
  have h := hI
  unfold Iv at h
  have h416 := h.2.1.2.1
  obtain ⟨e106, e102'⟩ := lv_al h
  have e102 : μ 102 0 = σ 41 0 := by rw [e102']
  have e106s : μ 106 s = σ 35 s := by rw [e106]
  by_cases h1 : (0 ≤ s) ∧ (s ≤ σ 41 0 - 1)
  · have hk := h.2.1.2.2.1 s (by omega) (by omega)
    by_cases h2 : ((((0 ≤ a) ∧ (a ≤ 31)) ∧ ((1 ≤ c) ∧ (c ≤ 32))) ∧ (a + c ≤ 32)) ∧ ((1 ≤ r) ∧ (r ≤ 3))
    · have hd1 : (((0 ≤ a) ∧ (a ≤ 31)) ∧ ((1 ≤ c) ∧ (c ≤ 32 - a))) ∧ ((1 ≤ r) ∧ (r ≤ 3)) := by omega
      by_cases h35 : σ 35 s = 1
      · have hT := R_tw (c := 0) h
        obtain ⟨N, hN⟩ := Int.eq_ofNat_of_zero_le (show 0 ≤ c by omega)
        obtain ⟨S, M, hS0, hM0, hJ, hT2⟩ := chain (J := fun j p q => Rg (-1) (-1) (4000000 * (n : Int)) p q ∧ q 101 = tw 0 μ 101)
          (T := fun j p q p' q' => (∀ K : S2 → Option (Int × S2), (if p 2 (32 * s + (a + j)) ≠ 0 then gd (0 ≤ r ∧ r ≤ 3) <| bn (upd2 p 3 (32 * s + (a + j)) r) fun s6 => cb (FX1_forbidStores (32 * s + (a + j)) s6) fun r4 s7 => cb (FX7_setJoined ((32 * s + (a + j)) / 4) 0 s7) fun r5 s8 => K s8 else K p) = K p') ∧ (∀ K : S2 → Option (Int × S2), (if 0 < q 111 (32 * s + a + j) then cb (FX8_unwrites (32 * s + a + j) q) fun r2 s4 => cb (FX8_unblocks (32 * s + a + j) s4) fun r3 s5 => gd (0 ≤ r ∧ r ≤ 3) <| bn (upd2 s5 111 (32 * s + a + j) r) fun s6 => K s6 else K q) = K q')) N (by
          rintro j p q hj ⟨g1, g2⟩
          obtain ⟨s1, m1, b1, b2, b3, b4⟩ := P_prot (e := 32 * s + (a + (j : Int))) (r := r) (by omega) h2.2 g1
          rw [show 32 * s + a + (j : Int) = 32 * s + (a + (j : Int)) by omega]
          exact ⟨s1, m1, ⟨b1, b2⟩, b3, b4.trans g2⟩) σ (tw 0 μ) ⟨hT, rfl⟩
        obtain ⟨g1, g2⟩ := hJ N (Nat.le_refl _)
        obtain ⟨rr, b1, b2, b3, b4⟩ := P_regions (s := s) (by omega) g1
        refine ⟨rr, S N, rr, M N, ?_, ?_, Or.inl (gx_0 (by omega)), ?_, fun _ => rfl, iv_ok (B := 4000000 * (n : Int)) (by omega) g1⟩
        · unfold FX7_protect
          refine rgx_eq ?_ (Or.inr (by omega))
          rw [gd_pos hs, gd_pos ha, gd_pos hc, gd_pos hr, cb_e (x_kn hs h1 h416), if_neg (by rw [gx_0 hs.1]; decide), cb_e (x_dem hd1), if_neg (by decide), cb_e (x_per h35), if_neg (by decide), ← hS0]
          refine run1 (N := N) (x0 := a) (by omega) ?_ ?_
          · intro k j hj
            rw [gd_pos (by omega), gd_pos (by omega), if_pos (by omega), gd_pos (by omega)]
            simp only [bn]
            rw [gd_pos (by omega)]
            exact (hT2 j hj).1 (fun s5 => k (a + j + 1) s5)
          · intro k
            rw [gd_pos (by omega), gd_pos (by omega), if_neg (by omega), cb_e b1]
        · unfold FX8_protect
          refine rgd_eq ?_ (by omega) (by omega)
          rw [gd_pos hs, gd_pos ha, gd_pos hc, gd_pos hr, cb_e (q_3 (by rw [e102]; exact h1) h2 (if_pos (by rw [e102, e106s]; exact ⟨h1, by omega⟩))), if_pos (by decide), gd_pos (by omega), ← hM0]
          refine run1 (N := N) (x0 := 32 * s + a) (by omega) ?_ ?_
          · intro k j hj
            rw [gd_pos (by omega), if_pos (by omega)]
            simp only [bn]
            rw [gd_pos (by omega)]
            exact (hT2 j hj).2 (fun s5 => k (32 * s + a + j + 1) s5)
          · intro k
            rw [gd_pos (by omega), if_neg (by omega), cb_e b2]
        · rw [gx_0 (by omega), g2]
          exact tw_0
      · refine ⟨-1000000000003, σ, 0, tw 3 μ, ?_, ?_, by decide, by rw [gx_3]; exact tw_0, fun z => absurd z (by decide), iv_th hI⟩
        · unfold FX7_protect
          refine rgx_eq ?_ (Or.inl (by decide))
          rw [gd_pos hs, gd_pos ha, gd_pos hc, gd_pos hr, cb_e (x_kn hs h1 h416), if_neg (by rw [gx_0 hs.1]; decide), cb_e (x_dem hd1), if_neg (by decide), cb_e (x_perN (show σ 35 s = 0 by omega)), if_pos (by decide)]
        · unfold FX8_protect
          refine rgd_eq ?_ (by decide) (by decide)
          rw [gd_pos hs, gd_pos ha, gd_pos hc, gd_pos hr, cb_e (q_3c (by rw [e102]; exact h1) h2 (if_neg (by rw [e106s]; omega))), if_neg (by decide)]
    · have hd1 : ¬ ((((0 ≤ a) ∧ (a ≤ 31)) ∧ ((1 ≤ c) ∧ (c ≤ 32 - a))) ∧ ((1 ≤ r) ∧ (r ≤ 3))) := by omega
      refine ⟨-1000000000002, σ, 0, tw 2 μ, ?_, ?_, by decide, by rw [gx_2]; exact tw_0, fun z => absurd z (by decide), iv_th hI⟩
      · unfold FX7_protect
        refine rgx_eq ?_ (Or.inl (by decide))
        rw [gd_pos hs, gd_pos ha, gd_pos hc, gd_pos hr, cb_e (x_kn hs h1 h416), if_neg (by rw [gx_0 hs.1]; decide), cb_e (x_demN hd1), if_pos (by decide)]
      · unfold FX8_protect
        refine rgd_eq ?_ (by decide) (by decide)
        rw [gd_pos hs, gd_pos ha, gd_pos hc, gd_pos hr, cb_e (q_3b (by rw [e102]; exact h1) h2 (by split <;> decide)), if_neg (by decide)]
  · refine ⟨-1000000000001, σ, 0, tw 1 μ, ?_, ?_, by decide, by rw [gx_1]; exact tw_0, fun z => absurd z (by decide), iv_th hI⟩
    · unfold FX7_protect
      refine rgx_eq ?_ (Or.inl (by decide))
      rw [gd_pos hs, gd_pos ha, gd_pos hc, gd_pos hr, cb_e (x_knN hs h1), if_pos (by decide)]
    · unfold FX8_protect
      refine rgd_eq ?_ (by decide) (by decide)
      rw [gd_pos hs, gd_pos ha, gd_pos hc, gd_pos hr, cb_e (q_3a (by rw [e102]; exact h1) (by split <;> decide)), if_neg (by decide)]
/-- no entry may write a page any more -/
theorem L_fbs {x y B f : Int} {σ μ : S2} (hf : 0 ≤ f ∧ f ≤ 23) (h : Rg x y B σ μ) : ∃ s1 m1, FX7_forbidStoresInto f σ = some (0, s1) ∧ (∀ ZM : S2 → Option (Int × S2), gl1 1000 (fun k3 (x_e1 : Int) (s7 : S2) => if x_e1 < 192 then bn (fun (s8 : S2) => k3 (x_e1 + 1) s8) fun k4 => if ((0 < s7 111 x_e1) ∧ (s7 116 x_e1 = 1)) ∧ (s7 117 x_e1 = f) then cb (FX8_unwrites x_e1 s7) fun r2 s9 => k4 s9 else k4 s7 else ZM s7) 0 μ = ZM m1) ∧ Rg x y B s1 m1 ∧ (∀ k, k ≠ 10 ∧ k ≠ 14 → s1 k = σ k) ∧ ∀ k, k ≠ 118 ∧ k ≠ 139 → m1 k = μ k := by
  obtain ⟨S, M, hS0, hM0, hJ, hT⟩ := chain (J := fun j p q => Rg x y B p q ∧ (∀ k, k ≠ 10 ∧ k ≠ 14 → p k = σ k) ∧ ∀ k, k ≠ 118 ∧ k ≠ 139 → q k = μ k)
    (T := fun j p q p' q' => (∀ K : S2 → Option (Int × S2), (gd (0 ≤ (j : Int) ∧ (j : Int) ≤ 191) <| if p 9 (j : Int) = f then cb (FX1_forbidStores (j : Int) p) fun r1 s4 => K s4 else K p) = K p') ∧ ∀ K : S2 → Option (Int × S2), (if ((0 < q 111 (j : Int)) ∧ (q 116 (j : Int) = 1)) ∧ (q 117 (j : Int) = f) then cb (FX8_unwrites (j : Int) q) fun r2 s9 => K s9 else K q) = K q') 192 (by
    rintro j p q hj ⟨g1, g2, g3⟩
    have hj2 : 0 ≤ (j : Int) ∧ (j : Int) ≤ 191 := by omega
    have hhas := P_has hf g1 j hj2.1 hj2.2
    by_cases h9 : p 9 (j : Int) = f
    · obtain ⟨b1, b2⟩ := P_fb hj2 g1
      refine ⟨_, _, ⟨fun K => ?_, fun K => ?_⟩, b2, fun k hk => ?_, fun k hk => ?_⟩
      · rw [gd_pos hj2, if_pos h9, cb_e (e7_forbid hj2)]
      · rw [if_pos (hhas.mpr h9), cb_e b1]
      · rw [fbC_k hk, g2 k hk]
      · rw [fbM_k hk, g3 k hk]
    · refine ⟨p, q, ⟨fun K => ?_, fun K => ?_⟩, g1, g2, g3⟩
      · rw [gd_pos hj2, if_neg h9]
      · rw [if_neg (fun z => h9 (hhas.mp z))]) σ μ ⟨h, fun _ _ => rfl, fun _ _ => rfl⟩
  obtain ⟨g1, g2, g3⟩ := hJ 192 (Nat.le_refl _)
  refine ⟨S 192, M 192, ?_, fun ZM => ?_, g1, g2, g3⟩
  · unfold FX7_forbidStoresInto
    rw [gd_pos hf, ← hS0]
    refine runN (g := fun k1 (x_i_space1 : Int) k2 (x_i_entry1 : Int) (s2 : S2) => if x_i_entry1 < 32 then bn (fun (s3 : S2) => k2 (x_i_entry1 + 1) s3) fun k3 => gd (0 ≤ 32 * x_i_space1 + x_i_entry1 ∧ 32 * x_i_space1 + x_i_entry1 ≤ 191) <| if s2 9 (32 * x_i_space1 + x_i_entry1) = f then cb (FX1_forbidStores (32 * x_i_space1 + x_i_entry1) s2) fun r1 s4 => k3 s4 else k3 s2 else k1 (x_i_space1 + 1) s2) ?_ ?_ ?_ ?_
    · intro k s σ' hs
      exact if_pos (by omega)
    · intro k s i k2 hs hi
      have h1 := (hT (32 * s + i) (by omega)).1 (fun s8 => k2 ((i : Int) + 1) s8)
      have e1 : ((32 * s + i : Nat) : Int) = 32 * (s : Int) + (i : Int) := by omega
      rw [e1] at h1
      rw [if_pos (by omega)]
      exact h1
    · intro k s k2 σ' hs
      exact if_neg (by decide)
    · intro k
      exact if_neg (by decide)
  · rw [← hM0]
    refine run1 (N := 192) (x0 := 0) (by decide) ?_ ?_
    · intro k j hj
      have h1 := (hT j hj).2 (fun s10 => k ((j : Int) + 1) s10)
      rw [Int.zero_add, if_pos (by omega)]
      exact h1
    · intro k
      exact if_neg (by decide)
theorem R_cln {x y B f : Int} {σ μ : S2} (hk : σ 15 f = 2) (h : Rg x y B σ μ) : Rg x y B (sc σ 23 (uc (σ 23) f 0)) (sc μ 126 (uc (μ 126) f 0)) := by
  obtain ⟨⟨q102, q103, q106, q107, q108, q109, q110, q111, q116, q121, q122, q123, q124, q125, q130, q135, q140⟩, hSp, hMp, hPr, hHd, hFr, hLs, hBl, hWr, hC1, hC2, hC3, hRc, hRo, hSc, hSt, hBd⟩ := h
  refine ⟨⟨?_, ?_, ?_, ?_, ?_, ?_, ?_, ?_, ?_, ?_, ?_, ?_, ?_, ?_, ?_, ?_, ?_⟩, ?_, ?_, ?_, ?_, ?_, ?_, ?_, ?_, ?_, ?_, ?_, ?_, ?_, ?_, ?_, ?_⟩
  all_goals (try simp (disch := decide) only [sc_s, sc_k, q102, q103, q106, q107, q108, q109, q110, q111, q116, q121, q122, q123, q124, q125, q130, q135, q140])
  all_goals (try with_reducible assumption)
  refine ⟨fun d d0 d1 => ?_, hFr.2⟩
  have h1 := hFr.1 d d0 d1
  by_cases hd : d = f
  · subst hd
    rw [uc_s, uc_s]
    have h3 := h1.2.2.2.2.2.2.2.2.2.2.2.2.2 hk
    exact ⟨h1.1, h1.2.1, h1.2.2.1, h1.2.2.2.1, h1.2.2.2.2.1, h1.2.2.2.2.2.1, h1.2.2.2.2.2.2.1, h1.2.2.2.2.2.2.2.1, by decide, by decide, by decide, by decide, fun z => by omega, fun _ => ⟨rfl, h3.2⟩⟩
  · rw [uc_n hd, uc_n hd]
    exact h1
theorem s_sync : gSim_sync Iv := by
  intro n σ μ a hI hn ha
  have h := hI
  unfold Iv at h
  by_cases h1 : (0 ≤ a) ∧ (a ≤ 2)
  · have hT := R_tw (c := 0) h
    obtain ⟨S, M, hS0, hM0, hJ, hT2⟩ := chain (J := fun j p q => Rg (-1) (-1) (4000000 * (n : Int) + j) p q ∧ q 101 = tw 0 μ 101 ∧ p 15 = σ 15 ∧ p 24 = σ 24 ∧ p 25 = σ 25 ∧ ∀ d : Int, j ≤ d → p 23 d = σ 23 d)
      (T := fun j p q p' q' => (∀ (K : Int → S2 → Option (Int × S2)) (z : Int), 0 ≤ z → z ≤ 100 → (if ((p 15 (j : Int) = 2) ∧ (p 24 (j : Int) = a)) ∧ (p 23 (j : Int) ≠ 0) then cb (FX7_writeBack (j : Int) p) fun r2 s4 => cb (FX7_forbidStoresInto (j : Int) s4) fun r3 s5 => gd ((-2147483648) ≤ z + 1 ∧ z + 1 ≤ 2147483647) <| K (z + 1) s5 else K z p) = K (z + if ((σ 15 (j : Int) = 2) ∧ (σ 24 (j : Int) = a)) ∧ (σ 23 (j : Int) ≠ 0) then 1 else 0) p') ∧ (∀ (K : Int → S2 → Option (Int × S2)) (z : Int), 0 ≤ z → z ≤ 100 → (gd ((q 121 (j : Int) = 2) → 0 ≤ q 127 (j : Int) ∧ q 127 (j : Int) ≤ 2147483647) <| if ((q 121 (j : Int) = 2) ∧ ((q 127 (j : Int)) / 8 = a)) ∧ (q 126 (j : Int) ≠ 0) then bn (upd2 q 140 5 ((q 140 5) + 1)) fun s4 => gd (0 ≤ s4 127 (j : Int) ∧ s4 127 (j : Int) ≤ 23) <| bn (upd2 s4 130 (s4 127 (j : Int)) (s4 122 (j : Int))) fun s5 => bn (upd2 s5 126 (j : Int) 0) fun s6 => gl1 1000 (fun k3 (x_e1 : Int) (s7 : S2) => if x_e1 < 192 then bn (fun (s8 : S2) => k3 (x_e1 + 1) s8) fun k4 => if ((0 < s7 111 x_e1) ∧ (s7 116 x_e1 = 1)) ∧ (s7 117 x_e1 = (j : Int)) then cb (FX8_unwrites x_e1 s7) fun r2 s9 => k4 s9 else k4 s7 else gd ((-2147483648) ≤ z + 1 ∧ z + 1 ≤ 2147483647) <| K (z + 1) s7) 0 s6 else K z q) = K (z + if ((σ 15 (j : Int) = 2) ∧ (σ 24 (j : Int) = a)) ∧ (σ 23 (j : Int) ≠ 0) then 1 else 0) q')) 24 (by
      rintro j p q hj ⟨g1, g2, g3, g4, g5, g6⟩
      have hj2 : 0 ≤ (j : Int) ∧ (j : Int) ≤ 23 := by omega
      have q121 : q 121 = p 15 := g1.1.2.2.2.2.2.2.2.2.2.1
      have q122 : q 122 = p 16 := g1.1.2.2.2.2.2.2.2.2.2.2.1
      have hfr := g1.2.2.2.2.2.1.1 j hj2.1 hj2.2
      have h23 := g6 j (Int.le_refl _)
      have hcond : (((p 15 (j : Int) = 2) ∧ (p 24 (j : Int) = a)) ∧ (p 23 (j : Int) ≠ 0)) ↔ (((σ 15 (j : Int) = 2) ∧ (σ 24 (j : Int) = a)) ∧ (σ 23 (j : Int) ≠ 0)) := by rw [g3, g4, h23]
      have hgd : (q 121 (j : Int) = 2) → 0 ≤ q 127 (j : Int) ∧ q 127 (j : Int) ≤ 2147483647 := fun z => by
        rw [q121] at z
        have := hfr.2.2.2.2.2.2.2.2.2.2.2.2.2 z
        omega
      by_cases hc : ((p 15 (j : Int) = 2) ∧ (p 24 (j : Int) = a)) ∧ (p 23 (j : Int) ≠ 0)
      · have hkey := hfr.2.2.2.2.2.2.2.2.2.2.2.2.2 hc.1.1
        have hA := R_cln (f := (j : Int)) (by simp (disch := decide) only [sc_s, sc_k]; exact hc.1.1) (R_disk (K := p 24 (j : Int) * 8 + p 25 (j : Int)) (v := p 16 (j : Int)) ⟨hfr.1, hfr.2.1⟩ (R_cnt (k := 5) g1))
        obtain ⟨s1, m1, b1, b2, b3, b4, b5⟩ := L_fbs hj2 hA
        refine ⟨s1, m1, ⟨fun K z z0 z1 => ?_, fun K z z0 z1 => ?_⟩, ?_, ?_, ?_, ?_, ?_, ?_⟩
        · rw [if_pos hc, if_pos (hcond.mp hc), cb_e (e7_writeBack hj2 rfl (by omega))]
          have e1 : sc (sc (sc p 44 (uc (p 44) (p 24 (j : Int) * 8 + p 25 (j : Int)) (p 16 (j : Int)))) 48 (uc (p 48) 5 (p 48 5 + 1))) 23 (uc (p 23) (j : Int) 0) = sc (sc (sc p 48 (uc (p 48) 5 (p 48 5 + 1))) 44 (uc (sc p 48 (uc (p 48) 5 (p 48 5 + 1)) 44) (p 24 (j : Int) * 8 + p 25 (j : Int)) (p 16 (j : Int)))) 23 (uc (sc (sc p 48 (uc (p 48) 5 (p 48 5 + 1))) 44 (uc (sc p 48 (uc (p 48) 5 (p 48 5 + 1)) 44) (p 24 (j : Int) * 8 + p 25 (j : Int)) (p 16 (j : Int))) 23) (j : Int) 0) := by
            simp (disch := decide) only [sc_s, sc_k]
            rw [sc_comm (k := 44) (l := 48) (by decide)]
          rw [e1, cb_e b1, gd_pos (by omega)]
        · rw [gd_pos hgd, if_pos (by rw [q121]; exact ⟨⟨hc.1.1, by omega⟩, by omega⟩), if_pos (hcond.mp hc)]
          simp only [bn]
          rw [u2_sc, sc_k (show 127 ≠ 140 by decide), gd_pos (by omega), u2_sc, u2_sc, sc_k (show 122 ≠ 140 by decide), q122]
          have e2 : q 127 (j : Int) = p 24 (j : Int) * 8 + p 25 (j : Int) := by omega
          rw [e2]
          refine (b2 (fun s7 => gd ((-2147483648) ≤ z + 1 ∧ z + 1 ≤ 2147483647) <| K (z + 1) s7)).trans ?_
          exact gd_pos (by omega)
        · rw [show 4000000 * (n : Int) + ((j + 1 : Nat) : Int) = 4000000 * (n : Int) + j + 1 by omega]
          exact b3
        · rw [b5 101 (by decide)]
          simp (disch := decide) only [sc_s, sc_k]
          exact g2
        · rw [b4 15 (by decide)]
          simp (disch := decide) only [sc_s, sc_k]
          exact g3
        · rw [b4 24 (by decide)]
          simp (disch := decide) only [sc_s, sc_k]
          exact g4
        · rw [b4 25 (by decide)]
          simp (disch := decide) only [sc_s, sc_k]
          exact g5
        · intro d d0
          rw [b4 23 (by decide)]
          simp (disch := decide) only [sc_s, sc_k]
          rw [uc_n (by omega)]
          exact g6 d (by omega)
      · refine ⟨p, q, ⟨fun K z z0 z1 => ?_, fun K z z0 z1 => ?_⟩, R_B (by omega) g1, g2, g3, g4, g5, fun d d0 => g6 d (by omega)⟩
        · rw [if_neg hc, if_neg (fun w => hc (hcond.mpr w)), Int.add_zero]
        · rw [gd_pos hgd, if_neg, if_neg (fun w => hc (hcond.mpr w)), Int.add_zero]
          rintro ⟨⟨w1, w2⟩, w3⟩
          rw [q121] at w1
          have hkey := hfr.2.2.2.2.2.2.2.2.2.2.2.2.2 w1
          exact hc ⟨⟨w1, by omega⟩, by omega⟩) σ (tw 0 μ) ⟨by
        rw [show 4000000 * (n : Int) + ((0 : Nat) : Int) = 4000000 * (n : Int) by omega]
        exact hT, rfl, rfl, rfl, rfl, fun _ _ => rfl⟩
    obtain ⟨g1, g2, g3⟩ := hJ 24 (Nat.le_refl _)
    have hcr := cntI_r (fun f => ((σ 15 f = 2) ∧ (σ 24 f = a)) ∧ (σ 23 f ≠ 0)) 24
    refine ⟨cntI (fun f => ((σ 15 f = 2) ∧ (σ 24 f = a)) ∧ (σ 23 f ≠ 0)) 24, S 24, cntI (fun f => ((σ 15 f = 2) ∧ (σ 24 f = a)) ∧ (σ 23 f ≠ 0)) 24, M 24, ?_, ?_, Or.inl (gx_0 (by omega)), ?_, fun _ => rfl, iv_ok (by omega) g1⟩
    · unfold FX7_sync
      refine rgx_eq ?_ (Or.inr (by omega))
      rw [gd_pos ha, cb_e (x_dem h1), if_neg (by decide), ← hS0]
      refine run2 (A := fun j => cntI (fun f => ((σ 15 f = 2) ∧ (σ 24 f = a)) ∧ (σ 23 f ≠ 0)) j) (N := 24) (x0 := 0) (by decide) ?_ ?_
      · intro k j hj
        have hc2 := cntI_r (fun f => ((σ 15 f = 2) ∧ (σ 24 f = a)) ∧ (σ 23 f ≠ 0)) j
        try dsimp only
        rw [Int.zero_add, if_pos (by omega)]
        exact (hT2 j hj).1 (fun z s3 => k z ((j : Int) + 1) s3) _ hc2.1 (by omega)
      · intro k
        try dsimp only
        rw [if_neg (by decide), hS0]
    · unfold FX8_sync
      refine rgd_eq ?_ (by omega) (by omega)
      rw [gd_pos ha, cb_e (q_1 h1), if_pos (by decide), ← hM0]
      refine run2 (A := fun j => cntI (fun f => ((σ 15 f = 2) ∧ (σ 24 f = a)) ∧ (σ 23 f ≠ 0)) j) (N := 24) (x0 := 0) (by decide) ?_ ?_
      · intro k j hj
        have hc2 := cntI_r (fun f => ((σ 15 f = 2) ∧ (σ 24 f = a)) ∧ (σ 23 f ≠ 0)) j
        try dsimp only
        rw [Int.zero_add, if_pos (by omega)]
        exact (hT2 j hj).2 (fun z s3 => k z ((j : Int) + 1) s3) _ hc2.1 (by omega)
      · intro k
        try dsimp only
        rw [if_neg (by decide)]
    · rw [gx_0 (by omega), g2]
      exact tw_0
  · refine ⟨-1000000000002, σ, 0, tw 1 μ, ?_, ?_, by decide, by rw [gx_2]; exact tw_0, fun z => absurd z (by decide), iv_th hI⟩
    · unfold FX7_sync
      refine rgx_eq ?_ (Or.inl (by decide))
      rw [gd_pos ha, cb_e (x_demN h1), if_pos (by decide)]
    · unfold FX8_sync
      refine rgd_eq ?_ (by decide) (by decide)
      rw [gd_pos ha, cb_e (q_1N h1), if_neg (by decide)]
