/-! calls: scan: an address is looked at, both sides -/
def rSn (e : Int) (c12 c3 m105 m141 : Int → Int) : Prop := 0 ≤ m105 0 ∧ m105 0 ≤ e ∧ (∀ k, 0 ≤ k → k < m105 0 → -1 ≤ m141 k ∧ m141 k < e) ∧ (∀ j k, 0 ≤ j → j < k → k < m105 0 → m141 k = -1 ∨ m141 j < m141 k) ∧ (∀ d, 0 ≤ d → d ≤ 191 → 0 ≤ c12 d ∧ c12 d ≤ 1 ∧ (c12 d ≠ 0 ↔ ∃ k, 0 ≤ k ∧ k < m105 0 ∧ m141 k = d) ∧ (c12 d ≠ 0 → c3 d ≠ 0))
theorem rSn_of {c42 c43 c12 c3 m104 m105 m141 : Int → Int} {e : Int} (he : m104 0 ≤ e) (h : rSc c42 c43 c12 c3 m104 m105 m141) : rSn e c12 c3 m105 m141 := by
  obtain ⟨a1, a2, a3, a4, a5, a6, a7, a8, a9, a10⟩ := h
  refine ⟨a6, by omega, fun k k0 k1 => ?_, a9, a10⟩
  have := a8 k k0 k1
  omega
abbrev lkR (e : Int) (μ : S2) (k : Int) : Prop := ((((((μ 141 k ≠ (-1)) ∧ (0 < μ 111 (μ 141 k))) ∧ (μ 116 (μ 141 k) = 1)) ∧ (μ 121 (μ 117 (μ 141 k)) = 1)) ∧ (¬ (μ 126 (μ 117 (μ 141 k)) ≠ 0))) ∧ (μ 117 (μ 141 k) ≠ μ 117 e)) ∧ (μ 122 (μ 117 (μ 141 k)) = μ 122 (μ 117 e))
theorem P_look {B e : Int} {σ μ : S2} (he : 0 ≤ e ∧ e ≤ 191) (h104 : μ 104 0 = e) (h : Rg (-1) (-1) B σ μ) : ∃ v s2 m2 s m, FX7_look e σ = some (v, s2) ∧ FX8_scans e μ = some (v, m2) ∧ 0 ≤ v ∧ v ≤ 1 ∧ Rg (-1) (-1) B s m ∧ s2 = sc s 12 (s2 12) ∧ m2 = sc (sc m 105 (m2 105)) 141 (m2 141) ∧ (∀ k, k ∈ [35, 36, 41, 42, 43] → s k = σ k) ∧ (∀ k, k ∈ [101, 102, 104, 106, 109] → m k = μ k) ∧ rSn (e + 1) (s2 12) (s 3) (m2 105) (m2 141) := by
  have hh := h
  obtain ⟨⟨q102, q103, q106, q107, q108, q109, q110, q111, q116, q121, q122, q123, q124, q125, q130, q135, q140⟩, hSp, hMp, hPr, hHd, hFr, hLs, hBl, hWr, hC1, hC2, hC3, hRc, hRo, hSc, hSt, hBd⟩ := h
  have hm := hMp e he.1 he.2
  have hp := hPr e he.1 he.2
  have hsm : ∀ {s m : S2}, Rg (-1) (-1) B s m → m 104 = μ 104 → rSn (e + 1) (s 12) (s 3) (m 105) (m 141) := fun {s m} hR z => rSn_of (by rw [z]; omega) hR.2.2.2.2.2.2.2.2.2.2.2.2.2.2.1
  have hid : ∀ {s : S2}, s = sc s 12 (s 12) := fun {s} => (sc_nop rfl).symm
  have hid2 : ∀ {m : S2}, m = sc (sc m 105 (m 105)) 141 (m 141) := fun {m} => by rw [sc_nop (σ := m) (k := 105) rfl, sc_nop rfl]
  by_cases hl : 0 ≤ σ 9 e ∧ σ 15 (σ 9 e) = 1 ∧ σ 22 (σ 9 e) = 0
  · have h8 : σ 8 e = 1 := by
      apply Classical.byContradiction
      intro q
      have := (hp.2.2.2.1 q).1
      omega
    have h9 := hp.2.2.1 h8
    have h3 : σ 3 e ≠ 0 := fun q => by have := hp.2.1 q; omega
    have h117 : μ 117 e = σ 9 e := h9.1.symm
    obtain ⟨f, hf⟩ : ∃ f, f = σ 9 e := ⟨_, rfl⟩
    rw [← hf] at hl h9 h117
    have hf2 : 0 ≤ f ∧ f ≤ 23 := by omega
    have hfr := hFr.1 f hf2.1 hf2.2
    have h126 : μ 126 f = 0 := by
      have := hfr.2.2.2.2.2.2.2.2.2.2.2.2.1 hl.2.1
      omega
    have hb9 : ∀ d, 0 ≤ d → d ≤ 191 → -1 ≤ σ 9 d ∧ σ 9 d ≤ 23 := fun d d0 d1 => by
      have h1 := hPr d d0 d1
      by_cases z : σ 8 d = 1
      · have := h1.2.2.1 z
        omega
      · have := h1.2.2.2.1 z
        omega
    have hmt := e7_mergedTwin (f := f) (σ := σ) hf2
    have hlt := e7_lookedTwin (f := f) (σ := σ) hf2 hb9
    have hc7 : ¬ ((σ 9 e < 0) ∨ (¬ ((σ 15 (σ 9 e) = 1) ∧ (¬ (σ 22 (σ 9 e) ≠ 0))))) := by
      rw [← hf]
      omega
    have hc8 : ¬ ¬ (((((e ≠ (-1)) ∧ (0 < μ 111 e)) ∧ (μ 116 e = 1)) ∧ (μ 121 (μ 117 e) = 1)) ∧ (¬ (μ 126 (μ 117 e) ≠ 0))) := by
      rw [h117, q111, q116, q121]
      omega
    obtain ⟨N, hN⟩ := Int.eq_ofNat_of_zero_le hSc.2.2.2.2.2.1
    have hN1 : (N : Int) ≤ 191 := by
      have := hSc.2.2.2.2.2.2.1
      omega
    have hQR : ∀ k d, 0 ≤ k → k < μ 105 0 → μ 141 k = d → d ≠ -1 → (lkR e μ k ↔ lkQ σ f d) := fun k d k0 k1 k2 k3 => by
      have hb := hSc.2.2.2.2.2.2.2.1 k k0 k1
      have hd : 0 ≤ d ∧ d ≤ 191 := by omega
      have h12 := (hSc.2.2.2.2.2.2.2.2.2 d hd.1 hd.2).2.2.1.mpr ⟨k, k0, k1, k2⟩
      have hX : lkX σ d = σ 9 d := if_pos h12
      have hmd := hMp d hd.1 hd.2
      have hpd := hPr d hd.1 hd.2
      unfold lkR lkQ
      rw [hX, k2, h117, q111, q116, q121, q122]
      constructor
      · rintro ⟨⟨⟨⟨⟨⟨w1, w2⟩, w3⟩, w4⟩, w5⟩, w6⟩, w7⟩
        have g1 := hpd.2.2.1 w3
        rw [← g1.1] at w4 w5 w6 w7
        have g2 := (hFr.1 (σ 9 d) g1.2.1 g1.2.2.1).2.2.2.2.2.2.2.2.2.2.2.2.1 w4
        exact ⟨⟨⟨g1.2.1, w6⟩, w4, by omega⟩, w7⟩
      · rintro ⟨⟨⟨w1, w2⟩, w3, w4⟩, w5⟩
        have g8 : σ 8 d = 1 := by
          apply Classical.byContradiction
          intro q
          have := (hpd.2.2.2.1 q).1
          omega
        have g1 := hpd.2.2.1 g8
        have g3 : σ 3 d ≠ 0 := fun q => by have := hpd.2.1 q; omega
        have g2 := (hFr.1 (σ 9 d) g1.2.1 g1.2.2.1).2.2.2.2.2.2.2.2.2.2.2.2.1 w3
        rw [← g1.1]
        exact ⟨⟨⟨⟨⟨⟨k3, by omega⟩, g8⟩, w3⟩, by omega⟩, w2⟩, w5⟩
    have hmk : ∀ d, 0 ≤ d → d ≤ 23 → (((μ 121 d = 1) ∧ (μ 126 d ≠ 0)) ∧ (μ 122 d = μ 122 (μ 117 e)) ↔ ((σ 15 d = 1) ∧ (σ 22 d ≠ 0)) ∧ (σ 16 d = σ 16 f)) := fun d d0 d1 => by
      have g2 := (hFr.1 d d0 d1).2.2.2.2.2.2.2.2.2.2.2.2.1
      rw [h117, q121, q122]
      constructor
      · rintro ⟨⟨w1, w2⟩, w3⟩
        have := g2 w1
        exact ⟨⟨w1, by omega⟩, w3⟩
      · rintro ⟨⟨w1, w2⟩, w3⟩
        have := g2 w1
        exact ⟨⟨w1, by omega⟩, w3⟩
    rcases fstI_cases (fun d => ((σ 15 d = 1) ∧ (σ 22 d ≠ 0)) ∧ (σ 16 d = σ 16 f)) 24 with ⟨y1, y2⟩ | ⟨y1, y2, y3, y4⟩
    · -- none is merged with that value
      have hlp1 : ∀ (Z : S2 → Option (Int × S2)), gl1 1000 (fun k1 (x_f1 : Int) (s1 : S2) => if x_f1 < 24 then if ((s1 121 x_f1 = 1) ∧ (s1 126 x_f1 ≠ 0)) ∧ (s1 122 x_f1 = s1 122 (s1 117 e)) then cb (FX8_getsPage e x_f1 s1) fun r1 s2 => some (1, s2) else k1 (x_f1 + 1) s1 else Z s1) 0 μ = Z μ := fun Z => by
        refine glw1 24 (fun j x s => j ≤ 24 ∧ x = j ∧ s = μ) (fun o => o = Z μ) ?_ 1000 0 0 μ (by omega) (Nat.zero_le _) ⟨Nat.zero_le _, rfl, rfl⟩
        rintro k j x s ⟨hj, rfl, rfl⟩ ih
        by_cases hj24 : j < 24
        · rw [if_pos (by omega), if_neg (fun z => y2 j (by omega) (by omega) ((hmk j (by omega) (by omega)).mp z))]
          exact ih hj24 _ _ ⟨hj24, by omega, rfl⟩
        · have : j = 24 := by omega
          subst this
          rw [if_neg (by decide)]
      rcases fstI_cases (lkQ σ f) 192 with ⟨z1, z2⟩ | ⟨z1, z2, z3, z4⟩
      · -- nor was one looked at
        have hlp2 : ∀ (A : Int → S2 → Option (Int × S2)) (Z : S2 → Option (Int × S2)), gl1 1000 (fun k2 (x_k1 : Int) (s3 : S2) => if x_k1 < s3 105 0 then if ((((((s3 141 x_k1 ≠ (-1)) ∧ (0 < s3 111 (s3 141 x_k1))) ∧ (s3 116 (s3 141 x_k1) = 1)) ∧ (s3 121 (s3 117 (s3 141 x_k1)) = 1)) ∧ (¬ (s3 126 (s3 117 (s3 141 x_k1)) ≠ 0))) ∧ (s3 117 (s3 141 x_k1) ≠ s3 117 e)) ∧ (s3 122 (s3 117 (s3 141 x_k1)) = s3 122 (s3 117 e)) then A x_k1 s3 else k2 (x_k1 + 1) s3 else Z s3) 0 μ = Z μ := fun A Z => by
          refine glw1 N (fun j x s => j ≤ N ∧ x = j ∧ s = μ) (fun o => o = Z μ) ?_ 1000 0 0 μ (by omega) (Nat.zero_le _) ⟨Nat.zero_le _, rfl, rfl⟩
          rintro k j x s ⟨hj, rfl, rfl⟩ ih
          by_cases hjN : j < N
          · have hno : ¬ lkR e s (j : Int) := fun w => by
              have w1 : s 141 (j : Int) ≠ -1 := w.1.1.1.1.1.1
              have hb := hSc.2.2.2.2.2.2.2.1 j (by omega) (by omega)
              exact z2 (s 141 (j : Int)) (by omega) (by omega) ((hQR j _ (by omega) (by omega) rfl w1).mp w)
            rw [if_pos (by omega), if_neg hno]
            exact ih hjN _ _ ⟨hjN, by omega, rfl⟩
          · have : j = N := by omega
            subst this
            rw [if_neg (by omega)]
        refine ⟨0, sc σ 12 (uc (σ 12) e 1), sc (sc μ 141 (uc (μ 141) (μ 105 0) e)) 105 (uc (μ 105) 0 (μ 105 0 + 1)), σ, μ, ?_, ?_, by decide, by decide, hh, by simp (disch := decide) only [sc_s, sc_k], ?_, fun _ _ => rfl, fun _ _ => rfl, ?_⟩
        · unfold FX7_look
          refine rgd_eq ?_ (by decide) (by decide)
          rw [gd_pos he, if_neg hc7, ← hf, cb_e hmt, y1]
          simp only [bn]
          rw [if_pos (show (-1 : Int) < 0 by decide), cb_e hlt, z1, if_pos (Or.inl (by decide)), u2_sc]
        · unfold FX8_scans
          refine rgd_eq ?_ (by decide) (by decide)
          rw [gd_pos he, if_neg hc8]
          refine (hlp1 _).trans ?_
          refine (hlp2 _ _).trans ?_
          simp (disch := decide) only [bn, u2_sc, sc_s, sc_k]
          rw [gd_pos (by omega), gd_pos (by omega)]
        · simp (disch := decide) only [sc_s, sc_k]
          rw [sc_comm (k := 141) (l := 105) (by decide)]
        · simp (disch := decide) only [sc_s, sc_k]
          obtain ⟨a1, a2, a3, a4, a5, a6, a7, a8, a9, a10⟩ := hSc
          refine ⟨by rw [uc_s]; omega, by rw [uc_s]; omega, fun k k0 k1 => ?_, fun j k j0 j1 k1 => ?_, fun d d0 d1 => ?_⟩
          · rw [uc_s] at k1
            unfold uc
            split
            · omega
            · have := a8 k k0 (by omega)
              omega
          · rw [uc_s] at k1
            by_cases hk : k = μ 105 0
            · right
              have := a8 j j0 (by omega)
              rw [hk, uc_s, uc_n (by omega)]
              omega
            · rw [uc_n hk, uc_n (by omega)]
              exact a9 j k j0 j1 (by omega)
          · have h1 := a10 d d0 d1
            rw [uc_s]
            by_cases hd : d = e
            · subst hd
              rw [uc_s]
              exact ⟨by decide, by decide, ⟨fun _ => ⟨μ 105 0, a6, by omega, uc_s⟩, fun _ => by decide⟩, fun _ => h3⟩
            · rw [uc_n hd]
              refine ⟨h1.1, h1.2.1, ⟨fun w => ?_, fun w => ?_⟩, h1.2.2.2⟩
              · obtain ⟨k, k0, k1, k2⟩ := h1.2.2.1.mp w
                exact ⟨k, k0, by omega, by rw [uc_n (by omega)]; exact k2⟩
              · obtain ⟨k, k0, k1, k2⟩ := w
                refine h1.2.2.1.mpr ⟨k, k0, ?_, ?_⟩
                · by_cases hk : k = μ 105 0
                  · rw [hk, uc_s] at k2
                    exact absurd k2.symm hd
                  · omega
                · by_cases hk : k = μ 105 0
                  · rw [hk, uc_s] at k2
                    exact absurd k2.symm hd
                  · rw [uc_n hk] at k2
                    exact k2
      · -- one was looked at
        obtain ⟨e2, he2⟩ : ∃ e2, e2 = fstI (lkQ σ f) 192 := ⟨_, rfl⟩
        rw [← he2] at z1 z2 z3 z4 hlt
        have he2r : 0 ≤ e2 ∧ e2 ≤ 191 := by omega
        have h12 : σ 12 e2 ≠ 0 := fun w => by
          have w1 : lkX σ e2 = -1 := if_neg (fun q => q w)
          have := z3.1.1.1
          omega
        have hX : lkX σ e2 = σ 9 e2 := if_pos h12
        have z3' := z3
        unfold lkQ at z3'
        rw [hX] at z3'
        obtain ⟨g, hg⟩ : ∃ g, g = σ 9 e2 := ⟨_, rfl⟩
        rw [← hg] at z3'
        have hg2 : 0 ≤ g ∧ g ≤ 23 := by
          have := hb9 e2 he2r.1 he2r.2
          omega
        obtain ⟨k1, k10, k11, k12⟩ := (hSc.2.2.2.2.2.2.2.2.2 e2 he2r.1 he2r.2).2.2.1.mp h12
        obtain ⟨s1, m1, b1, b2, b3, b4, b5, b6⟩ := P_mrg he2r hg2 hg.symm z3'.1.2.1 hh
        have c15 : s1 15 = σ 15 := b5 15 (by decide)
        have c9 : s1 9 = σ 9 := b5 9 (by decide)
        have c3 : s1 3 = σ 3 := b5 3 (by decide)
        obtain ⟨s, m, d1, d2, d3, d4, d5⟩ := P_gets (e := e) (g := g) he hg2 (by rw [c15]; exact z3'.1.2.1) (by rw [b4]; decide) (by rw [c9, ← hf]; exact fun w => z3'.1.1.2 w.symm) (by rw [c3]; exact h3) b3
        have h8e2 : σ 8 e2 = 1 := by
          apply Classical.byContradiction
          intro q
          have := ((hPr e2 he2r.1 he2r.2).2.2.2.1 q).1
          omega
        have h117e2 : μ 117 e2 = g := by
          have := ((hPr e2 he2r.1 he2r.2).2.2.1 h8e2).1
          omega
        have hlp2 : ∀ (A : Int → S2 → Option (Int × S2)) (Z : S2 → Option (Int × S2)), gl1 1000 (fun k2 (x_k1 : Int) (s3 : S2) => if x_k1 < s3 105 0 then if ((((((s3 141 x_k1 ≠ (-1)) ∧ (0 < s3 111 (s3 141 x_k1))) ∧ (s3 116 (s3 141 x_k1) = 1)) ∧ (s3 121 (s3 117 (s3 141 x_k1)) = 1)) ∧ (¬ (s3 126 (s3 117 (s3 141 x_k1)) ≠ 0))) ∧ (s3 117 (s3 141 x_k1) ≠ s3 117 e)) ∧ (s3 122 (s3 117 (s3 141 x_k1)) = s3 122 (s3 117 e)) then A x_k1 s3 else k2 (x_k1 + 1) s3 else Z s3) 0 μ = A k1 μ := fun A Z => by
          refine glw1 N (fun j x s => (j : Int) ≤ k1 ∧ x = j ∧ s = μ) (fun o => o = A k1 μ) ?_ 1000 0 0 μ (by omega) (Nat.zero_le _) ⟨k10, rfl, rfl⟩
          rintro k j x s ⟨hj, rfl, rfl⟩ ih
          rw [if_pos (by omega)]
          by_cases hjk : (j : Int) = k1
          · have hy : lkR e s (j : Int) := (hQR j e2 (by omega) (by omega) (by rw [hjk]; exact k12) (by omega)).mpr z3
            rw [if_pos hy, hjk]
          · have hno : ¬ lkR e s (j : Int) := fun w => by
              have w1 : s 141 (j : Int) ≠ -1 := w.1.1.1.1.1.1
              have hb := hSc.2.2.2.2.2.2.2.1 j (by omega) (by omega)
              have w2 := (hQR j _ (by omega) (by omega) rfl w1).mp w
              have w3 := hSc.2.2.2.2.2.2.2.2.1 j k1 (by omega) (by omega) k11
              rw [k12] at w3
              exact z4 (s 141 (j : Int)) (by omega) (by omega) w2
            rw [if_neg hno]
            exact ih (by omega) _ _ ⟨by omega, by omega, rfl⟩
        refine ⟨1, s, m, s, m, ?_, ?_, by decide, by decide, d3, hid, hid2, ?_, ?_, hsm d3 ((d5 104 (by decide)).trans (b6 104 (by decide)))⟩
        · unfold FX7_look
          refine rgd_eq ?_ (by decide) (by decide)
          rw [gd_pos he, if_neg hc7, ← hf, cb_e hmt, y1]
          have q1 := b1 (fun s7 => cb (FX7_give e g 0 s7) fun r5 s8 => some ((1 : Int), s8))
          simp only [bn] at q1 ⊢
          rw [if_pos (show (-1 : Int) < 0 by decide), cb_e hlt, ← hg, if_neg (by omega)]
          refine q1.trans ?_
          rw [cb_e d1]
        · unfold FX8_scans
          refine rgd_eq ?_ (by decide) (by decide)
          rw [gd_pos he, if_neg hc8]
          refine (hlp1 _).trans ?_
          refine (hlp2 _ _).trans ?_
          rw [k12, h117e2]
          refine (b2 (fun s6 => cb (FX8_getsPage e g s6) fun r4 s9 => some ((1 : Int), s9))).trans ?_
          rw [cb_e d2]
        · intro k hk
          simp only [List.mem_cons, List.not_mem_nil, or_false] at hk
          rcases hk with w | w | w | w | w <;> subst w <;> exact (d4 _ (by decide)).trans (b5 _ (by decide))
        · intro k hk
          simp only [List.mem_cons, List.not_mem_nil, or_false] at hk
          rcases hk with w | w | w | w | w <;> subst w <;> exact (d5 _ (by decide)).trans (b6 _ (by decide))
    · -- one is merged with that value
      obtain ⟨g, hg⟩ : ∃ g, g = fstI (fun d => ((σ 15 d = 1) ∧ (σ 22 d ≠ 0)) ∧ (σ 16 d = σ 16 f)) 24 := ⟨_, rfl⟩
      rw [← hg] at y1 y2 y3 y4 hmt
      have hg2 : 0 ≤ g ∧ g ≤ 23 := by omega
      obtain ⟨s, m, d1, d2, d3, d4, d5⟩ := P_gets (e := e) (g := g) he hg2 y3.1.1 y3.1.2 (by rw [← hf]; intro w; rw [← w] at y3; exact y3.1.2 hl.2.2) h3 hh
      refine ⟨1, s, m, s, m, ?_, ?_, by decide, by decide, d3, hid, hid2, ?_, ?_, hsm d3 (d5 104 (by decide))⟩
      · unfold FX7_look
        refine rgd_eq ?_ (by decide) (by decide)
        rw [gd_pos he, if_neg hc7, ← hf, cb_e hmt]
        simp only [bn]
        rw [if_neg (by omega), cb_e d1]
      · unfold FX8_scans
        refine rgd_eq ?_ (by decide) (by decide)
        rw [gd_pos he, if_neg hc8]
        refine glw1 24 (fun j x s => (j : Int) ≤ g ∧ x = j ∧ s = μ) (fun o => o = some (1, m)) ?_ 1000 0 0 μ (by omega) (Nat.zero_le _) ⟨hg2.1, rfl, rfl⟩
        rintro k j x s' ⟨hj, rfl, rfl⟩ ih
        rw [if_pos (by omega)]
        by_cases hjg : (j : Int) = g
        · rw [if_pos ((hmk j (by omega) (by omega)).mpr (by rw [hjg]; exact y3)), hjg, cb_e d2]
        · rw [if_neg (fun z => y4 j (by omega) (by omega) ((hmk j (by omega) (by omega)).mp z))]
          exact ih (by omega) _ _ ⟨by omega, by omega, rfl⟩
      · intro k hk
        simp only [List.mem_cons, List.not_mem_nil, or_false] at hk
        rcases hk with w | w | w | w | w <;> subst w <;> exact d4 _ (by decide)
      · intro k hk
        simp only [List.mem_cons, List.not_mem_nil, or_false] at hk
        rcases hk with w | w | w | w | w <;> subst w <;> exact d5 _ (by decide)
  · refine ⟨0, σ, μ, σ, μ, ?_, ?_, by decide, by decide, hh, hid, hid2, fun _ _ => rfl, fun _ _ => rfl, hsm hh rfl⟩
    · unfold FX7_look
      refine rgd_eq ?_ (by decide) (by decide)
      rw [gd_pos he, if_pos (by omega)]
    · unfold FX8_scans
      refine rgd_eq ?_ (by decide) (by decide)
      rw [gd_pos he, if_pos]
      rintro ⟨⟨⟨⟨w1, w2⟩, w3⟩, w4⟩, w5⟩
      rw [q116] at w3
      have g1 := hp.2.2.1 w3
      rw [← g1.1] at w4 w5
      rw [q121] at w4
      have g2 := (hFr.1 (σ 9 e) g1.2.1 g1.2.2.1).2.2.2.2.2.2.2.2.2.2.2.2.1 w4
      exact hl ⟨g1.2.1, w4, by omega⟩
