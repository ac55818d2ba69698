/-! a translation is taken -/
def stC (p i e f w n : Int) (σ : S2) : S2 := sc (sc (sc (sc (sc σ 1 (uc (σ 1) p n)) 37 (uc (σ 37) (σ 50 (4 * p + i)) e)) 38 (uc (σ 38) (σ 50 (4 * p + i)) f)) 39 (uc (σ 39) (σ 50 (4 * p + i)) w)) 14 (uc (σ 14) e (gAnd (σ 14 e) (gXor (p + 1) (-1))))
def stM (p i e n : Int) (μ : S2) : S2 := sc (sc (sc (sc (sc μ 135 (uc (μ 135) p n)) 136 (uc (μ 136) (4 * p + i) e)) 137 (uc (μ 137) (4 * p + i) (μ 117 e))) 138 (uc (μ 138) (4 * p + i) (μ 118 e))) 139 (uc (μ 139) (4 * p + i) 0)
theorem R_set {x y B p i e n n' : Int} {σ μ : S2} (hp : 0 ≤ p ∧ p ≤ 1) (hi : 0 ≤ i ∧ i ≤ 3) (he : 0 ≤ e ∧ e ≤ 191) (hn : σ 1 p = n) (h8 : σ 8 e = 1) (hcase : (i < n ∧ μ 136 (4 * p + i) = e ∧ n' = n) ∨ (i = n ∧ n' = n + 1 ∧ ∀ j, 0 ≤ j → j < n → μ 136 (4 * p + j) ≠ e)) (h : Rg x y B σ μ) : Rg x y B (stC p i e (σ 9 e) (σ 10 e) n' σ) (stM p i e n' μ) := by
  obtain ⟨⟨q102, q103, q106, q107, q108, q109, q110, q111, q116, q121, q122, q123, q124, q125, q130, q135, q140⟩, hSp, hMp, hPr, hHd, hFr, hLs, hBl, hWr, hC1, hC2, hC3, hRc, hRo, hSc, hSt, hBd⟩ := h
  have hpr := (hPr e he.1 he.2).2.2.1 h8
  obtain ⟨k1, k2, k3, k4, k5⟩ := hC1
  obtain ⟨l1, l2, l3⟩ := hC2
  have hn4 := k1 p hp.1 hp.2
  have he1 := l1 e he.1 he.2
  have hsl : ∀ j, 0 ≤ j → j < n → j ≠ i → μ 136 (4 * p + j) ≠ e := by
    intro j j0 j1 j2
    rcases hcase with w | w
    · intro q
      have := k5 p (4 * p + j) (4 * p + i) hp.1 hp.2 (by omega) (by omega) (by omega) (by omega) (by rw [q, w.2.1])
      omega
    · exact w.2.2 j j0 j1
  -- a visible one is the new one, or an old one elsewhere
  have hvis : ∀ q t, 0 ≤ q → q ≤ 1 → 4 * q ≤ t → t < 4 * q + uc (σ 1) p n' q → (q = p ∧ t = 4 * p + i) ∨ (t ≠ 4 * p + i ∧ t < 4 * q + σ 1 q ∧ (q = p → ∃ j, 0 ≤ j ∧ j < n ∧ j ≠ i ∧ t = 4 * p + j)) := by
    intro q t q0 q1 t0 t1
    unfold uc at t1
    by_cases hqp : q = p
    · rw [if_pos hqp] at t1
      by_cases ht : t = 4 * p + i
      · exact Or.inl ⟨hqp, ht⟩
      · refine Or.inr ⟨ht, by rw [hqp, hn]; omega, fun _ => ⟨t - 4 * p, by omega, by omega, by omega, by omega⟩⟩
    · rw [if_neg hqp] at t1
      have := k1 q q0 q1
      exact Or.inr ⟨by omega, t1, fun z => absurd z hqp⟩
  have hold : ∀ q t, 0 ≤ q → q ≤ 1 → 4 * q ≤ t → t < 4 * q + σ 1 q → t < 4 * q + uc (σ 1) p n' q := by
    intro q t q0 q1 t0 t1
    unfold uc
    split
    · rename_i z; rw [z, hn] at t1; omega
    · exact t1
  unfold stC stM
  refine ⟨⟨?_, ?_, ?_, ?_, ?_, ?_, ?_, ?_, ?_, ?_, ?_, ?_, ?_, ?_, ?_, ?_, ?_⟩, ?_, ?_, ?_, ?_, ?_, ?_, ?_, ?_, ?_, ?_, ?_, ?_, ?_, ?_, ?_, ?_⟩
  all_goals (try simp (disch := decide) only [sc_s, sc_k, q102, q103, q106, q107, q108, q109, q110, q111, q116, q121, q122, q123, q124, q125, q130, q135, q140])
  all_goals (try with_reducible assumption)
  · refine ⟨?_, k2, k3, ?_, ?_⟩
    · intro q q0 q1
      have := k1 q q0 q1
      unfold uc
      split <;> omega
    · intro q t q0 q1 t0 t1
      rcases hvis q t q0 q1 t0 t1 with ⟨z1, z2⟩ | ⟨z1, z2, z3⟩
      · rw [z2]
        simp only [uc_s]
        exact ⟨trivial, hpr.1, hpr.2.2.2.1, he.1, he.2, by omega, by omega, by omega, by omega⟩
      · have := k1 q q0 q1
        have hne : σ 50 t ≠ σ 50 (4 * p + i) := fun z => z1 (k3 t (4 * p + i) (by omega) (by omega) (by omega) (by omega) z)
        simp only [uc_n z1, uc_n hne]
        exact k4 q t q0 q1 t0 z2
    · intro q t u q0 q1 t0 t1 u0 u1 htu
      rcases hvis q t q0 q1 t0 t1 with ⟨z1, z2⟩ | ⟨z1, z2, z3⟩
      · rcases hvis q u q0 q1 u0 u1 with ⟨y1, y2⟩ | ⟨y1, y2, y3⟩
        · omega
        · rw [z2, uc_s, uc_n y1] at htu
          obtain ⟨j, j0, j1, j2, j3⟩ := y3 z1
          rw [j3] at htu
          exact absurd htu.symm (hsl j j0 j1 j2)
      · rcases hvis q u q0 q1 u0 u1 with ⟨y1, y2⟩ | ⟨y1, y2, y3⟩
        · rw [y2, uc_s, uc_n z1] at htu
          obtain ⟨j, j0, j1, j2, j3⟩ := z3 y1
          rw [j3] at htu
          exact absurd htu (hsl j j0 j1 j2)
        · rw [uc_n z1, uc_n y1] at htu
          exact k5 q t u q0 q1 t0 z2 u0 y2 htu
  · refine ⟨?_, ?_, ?_⟩
    · intro d d0 d1
      have h1 := l1 d d0 d1
      have h4 := zclr_r (a := σ 14 e) (p := p) he1 hp
      unfold uc
      split <;> omega
    · intro t t0 t1
      have := l2 t t0 t1
      unfold uc
      split <;> omega
    · intro q t q0 q1 t0 t1
      have hcl := zb_clr (a := σ 14 e) (p := p) (q := q) he1 hp ⟨q0, q1⟩
      rcases hvis q t q0 q1 t0 t1 with ⟨z1, z2⟩ | ⟨z1, z2, z3⟩
      · rw [z2]
        simp only [uc_s]
        rw [hcl]
        exact ⟨fun w => absurd rfl w, fun w => absurd z1 w.2⟩
      · rw [uc_n z1, uc_n z1]
        have h5 := l3 q t q0 q1 t0 z2
        by_cases hd : μ 136 t = e
        · rw [hd, uc_s, hcl]
          rw [hd] at h5
          refine h5.trans ⟨fun w => ⟨w, fun w2 => ?_⟩, fun w => w.1⟩
          obtain ⟨j, j0, j1, j2, j3⟩ := z3 w2
          rw [j3] at hd
          exact hsl j j0 j1 j2 hd
        · rw [uc_n hd]
          exact h5
  · intro q t q0 q1 t0 t1 ht
    rcases hvis q t q0 q1 t0 t1 with ⟨z1, z2⟩ | ⟨z1, z2, z3⟩
    · rw [z2]
      simp only [uc_s]
      exact ⟨h8, hpr.1⟩
    · rw [uc_n z1] at ht ⊢
      rw [uc_n z1]
      exact hC3 q t q0 q1 t0 z2 ht
theorem L_shift {p : Int} {μ : S2} (hp : 0 ≤ p ∧ p ≤ 1) (h4 : μ 135 p = 4) (KM : S2 → Option (Int × S2)) : gl1 1000 (fun k2 (x_k1 : Int) (s3 : S2) => if x_k1 < ((4 * p) + 4) - 1 then gd (0 ≤ x_k1 ∧ x_k1 ≤ 7) <| bn (upd2 s3 136 x_k1 (s3 136 (x_k1 + 1))) fun s4 => bn (upd2 s4 137 x_k1 (s4 137 (x_k1 + 1))) fun s5 => bn (upd2 s5 138 x_k1 (s5 138 (x_k1 + 1))) fun s6 => bn (upd2 s6 139 x_k1 (s6 139 (x_k1 + 1))) fun s7 => k2 (x_k1 + 1) s7 else gd (0 ≤ (s3 135 p) - 1 ∧ (s3 135 p) - 1 ≤ 4) <| bn (upd2 s3 135 p ((s3 135 p) - 1)) fun s8 => KM s8) (4 * p) μ = KM (rmM p 0 4 μ) := by
  refine glw1 3 (fun j x s => j ≤ 3 ∧ x = 4 * p + j ∧ s = sc (sc (sc (sc μ 136 (mp (4 * p) j (fun t => μ 136 (t + 1)) (μ 136))) 137 (mp (4 * p) j (fun t => μ 137 (t + 1)) (μ 137))) 138 (mp (4 * p) j (fun t => μ 138 (t + 1)) (μ 138))) 139 (mp (4 * p) j (fun t => μ 139 (t + 1)) (μ 139))) (fun o => o = _) ?_ 1000 0 (4 * p) μ (by omega) (Nat.zero_le _) ⟨Nat.zero_le _, by omega, ?_⟩
  · rintro K j x s ⟨hj, rfl, rfl⟩ ih
    have hmp : ∀ c : Int → Int, mp (4 * p) (j : Int) (fun t => c (t + 1)) c (4 * p + j + 1) = c (4 * p + j + 1) := fun c => if_neg (by omega)
    have huc : ∀ c : Int → Int, uc (mp (4 * p) (j : Int) (fun t => c (t + 1)) c) (4 * p + j) (c (4 * p + j + 1)) = mp (4 * p) ((j + 1 : Nat) : Int) (fun t => c (t + 1)) c := by
      intro c
      funext t
      unfold uc mp
      by_cases h1 : t = 4 * p + j
      · rw [if_pos h1, if_pos (by omega), h1]
      · rw [if_neg h1]
        by_cases h2 : 4 * p ≤ t ∧ t < 4 * p + j
        · rw [if_pos h2, if_pos (by omega)]
        · rw [if_neg h2, if_neg (by omega)]
    by_cases hj3 : j < 3
    · rw [if_pos (by omega), gd_pos (by omega)]
      simp (disch := decide) only [bn, u2_sc, sc_s, sc_k, hmp, huc]
      refine ih hj3 _ _ ⟨hj3, by omega, ?_⟩
      funext k
      by_cases h136 : k = 136
      · subst h136; simp (disch := decide) only [sc_s, sc_k]
      by_cases h137 : k = 137
      · subst h137; simp (disch := decide) only [sc_s, sc_k]
      by_cases h138 : k = 138
      · subst h138; simp (disch := decide) only [sc_s, sc_k]
      by_cases h139 : k = 139
      · subst h139; simp (disch := decide) only [sc_s, sc_k]
      simp only [sc, h136, h137, h138, h139, if_false]
    · have : j = 3 := by omega
      subst this
      rw [if_neg (by omega)]
      simp (disch := decide) only [bn, u2_sc, sc_s, sc_k]
      rw [h4, gd_pos (by omega)]
      congr 1
      have hsh : ∀ c : Int → Int, mp (4 * p) ((3 : Nat) : Int) (fun t => c (t + 1)) c = shI (4 * p) 0 4 c := by
        intro c
        funext t
        unfold mp shI
        by_cases h1 : 4 * p + 0 ≤ t ∧ t < 4 * p + 4 - 1
        · rw [if_pos h1, if_pos (by omega)]
        · rw [if_neg h1, if_neg (by omega)]
      rw [hsh, hsh, hsh, hsh]
      rfl
  · have hmp : ∀ c : Int → Int, mp (4 * p) ((0 : Nat) : Int) (fun t => c (t + 1)) c = c := by
      intro c
      funext t
      exact if_neg (by omega)
    rw [hmp, hmp, hmp, hmp]
    rw [sc_nop (σ := μ) rfl, sc_nop (σ := μ) rfl, sc_nop (σ := μ) rfl, sc_nop (σ := μ) rfl]
theorem P_take {x y B p e : Int} {σ μ : S2} (hp : 0 ≤ p ∧ p ≤ 1) (he : 0 ≤ e ∧ e ≤ 191) (h8 : σ 8 e = 1) (h : Rg x y B σ μ) : ∃ s1 m1, FX0_take p e (σ 9 e) σ = some (0, s1) ∧ FX8_translates p e μ = some (0, m1) ∧ Rg x y B s1 m1 ∧ (∀ k, k ∉ [1, 13, 14, 37, 38, 39, 50] → s1 k = σ k) ∧ m1 101 = μ 101 := by
  have hC1 := h.2.2.2.2.2.2.2.2.2.1
  have hPr := (h.2.2.2.1 e he.1 he.2).2.2.1 h8
  have q135 : μ 135 = σ 1 := h.1.2.2.2.2.2.2.2.2.2.2.2.2.2.2.2.1
  have hn4 := hC1.1 p hp.1 hp.2
  obtain ⟨N, hN⟩ := Int.eq_ofNat_of_zero_le hn4.1
  have hNM : μ 135 p = N := by rw [q135]; exact hN
  have htr := e8_translationOf hp he hNM (by omega)
  have hfr := fstI_r (P := fun i => μ 136 (4 * p + i) = e) (n := N)
  -- the class's search
  have hpl : ∀ RS : Int → S2 → Option (Int × S2), gl1 1000 (fun k1 (x_place1 : Int) (s1 : S2) => gd (((x_place1 < s1 1 p) ∧ (x_place1 < 4)) → 0 ≤ x_place1 ∧ x_place1 ≤ 3) <| if ((x_place1 < s1 1 p) ∧ (x_place1 < 4)) ∧ (s1 37 (s1 50 (4 * p + x_place1)) ≠ e) then k1 (x_place1 + 1) s1 else RS x_place1 s1) 0 σ = RS (if fstI (fun i => μ 136 (4 * p + i) = e) N = -1 then (N : Int) else fstI (fun i => μ 136 (4 * p + i) = e) N) σ := by
    intro RS
    refine glw1 N (fun j x s => j ≤ N ∧ x = j ∧ s = σ ∧ ∀ i : Int, 0 ≤ i → i < j → ¬ (μ 136 (4 * p + i) = e)) (fun o => o = _) ?_ 1000 0 0 σ (by omega) (Nat.zero_le _) ⟨Nat.zero_le _, rfl, rfl, fun i a b => by omega⟩
    rintro k j x s ⟨hj, rfl, rfl, hno⟩ ih
    rw [gd_pos (fun _ => by omega)]
    by_cases hjN : j < N
    · have c4 := hC1.2.2.2.1 p (4 * p + j) hp.1 hp.2 (by omega) (by omega)
      by_cases hj1 : μ 136 (4 * p + j) = e
      · rw [if_neg (fun z => z.2 (by rw [c4.1]; exact hj1)), fstI_y (P := fun i => μ 136 (4 * p + i) = e) hjN hj1 hno, if_neg (by omega)]
      · rw [if_pos ⟨⟨by omega, by omega⟩, by rw [c4.1]; exact hj1⟩]
        refine ih hjN _ _ ⟨hjN, by omega, rfl, fun i a b => ?_⟩
        by_cases hi : i = j
        · rw [hi]; exact hj1
        · exact hno i a (by omega)
    · have hjn : j = N := by omega
      subst hjn
      rw [if_neg (fun z => by omega), fstI_n hno, if_pos rfl]
  have hf9 : 0 ≤ σ 9 e ∧ σ 9 e ≤ 23 := ⟨hPr.2.1, hPr.2.2.1⟩
  rcases fstI_cases (fun i => μ 136 (4 * p + i) = e) N with w | w
  · -- a new one
    rw [w.1, if_pos rfl] at htr
    by_cases hN4 : N = 4
    · -- the first one leaves
      have c4 := hC1.2.2.2.1 p (4 * p + 0) hp.1 hp.2 (by omega) (by omega)
      have hd := e7_dismiss (e := μ 136 (4 * p + 0)) hp (i := 0) (n := 4) (σ := σ) (by decide) (by omega) (by decide) c4.1 ⟨c4.2.2.2.1, c4.2.2.2.2.1⟩
      have hR := R_dis (e := μ 136 (4 * p + 0)) hp (i := 0) (n := 4) (by decide) (by omega) rfl h
      generalize hs : dsC p 0 4 (μ 136 (4 * p + 0)) σ = s at hd hR
      have s1p : s 1 p = 3 := by rw [← hs]; unfold dsC; simp (disch := decide) only [sc_s, sc_k, uc_s]; decide
      have s8 : s 8 = σ 8 := by rw [← hs]; unfold dsC; simp (disch := decide) only [sc_s, sc_k]
      have s9 : s 9 = σ 9 := by rw [← hs]; unfold dsC; simp (disch := decide) only [sc_s, sc_k]
      have s10 : s 10 = σ 10 := by rw [← hs]; unfold dsC; simp (disch := decide) only [sc_s, sc_k]
      have hR2 := R_set (i := 3) (e := e) (n := 3) (n' := 4) hp (by decide) he s1p (by rw [s8]; exact h8) (Or.inr ⟨rfl, by decide, fun j j0 j1 => by
        have e1 : rmM p 0 4 μ 136 (4 * p + j) = μ 136 (4 * p + (j + 1)) := by
          unfold rmM shI
          simp (disch := decide) only [sc_s, sc_k]
          rw [if_pos (by omega), Int.add_assoc]
        rw [e1]
        exact w.2 (j + 1) (by omega) (by omega)⟩) hR
      refine ⟨_, _, ?_, ?_, hR2, ?_, by unfold stM; first | (unfold rmM; simp (disch := decide) only [sc_s, sc_k]) | simp (disch := decide) only [sc_s, sc_k]⟩
      · unfold FX0_take
        rw [gd_pos hp, gd_pos he, gd_pos hf9]
        refine (hpl _).trans ?_
        rw [w.1, if_pos rfl]
        simp only [bn]
        rw [if_pos (show (4 : Int) ≤ (N : Int) by omega), cb_e hd, gd_pos (by decide), s1p, if_pos (by decide), gd_pos (by decide)]
        simp (disch := decide) only [u2_sc, sc_s, sc_k]
        rw [gd_pos (by decide)]
        unfold stC
        rw [s9, s10]
        rfl
      · unfold FX8_translates
        rw [gd_pos hp, gd_pos he, cb_e htr]
        refine bn_gen (P := fun o => o = some ((0 : Int), _)) (fun K hK => ?_)
        rw [if_pos (show ((-1 : Int) = -1) ∧ (μ 135 p = 4) from ⟨rfl, by omega⟩), gd_pos (by omega)]
        refine (L_shift (μ := μ) hp (by omega) K).trans ?_
        subst hK
        simp only [bn]
        have m135 : rmM p 0 4 μ 135 p = 3 := by unfold rmM; simp (disch := decide) only [sc_s, sc_k, uc_s]; decide
        rw [if_pos trivial, m135, gd_pos (by decide), gd_pos (by omega), gd_pos (by omega)]
        unfold stM
        simp (disch := decide) only [u2_sc, sc_s, sc_k]
        rfl
      · intro k hk
        rw [← hs]
        simp only [List.mem_cons, List.not_mem_nil, or_false, not_or] at hk
        unfold stC dsC
        simp only [sc, hk, if_false]
    · have hR2 := R_set (i := (N : Int)) (e := e) (n := (N : Int)) (n' := (N : Int) + 1) hp (by omega) he hN h8 (Or.inr ⟨rfl, rfl, fun j j0 j1 => w.2 j j0 j1⟩) h
      refine ⟨_, _, ?_, ?_, hR2, ?_, by unfold stM; first | (unfold rmM; simp (disch := decide) only [sc_s, sc_k]) | simp (disch := decide) only [sc_s, sc_k]⟩
      · unfold FX0_take
        rw [gd_pos hp, gd_pos he, gd_pos hf9]
        refine (hpl _).trans ?_
        rw [w.1, if_pos rfl]
        simp only [bn]
        rw [if_neg (show ¬ (4 : Int) ≤ (N : Int) by omega), gd_pos (by omega), if_pos (show σ 1 p < (N : Int) + 1 by omega), gd_pos (by omega)]
        simp (disch := decide) only [u2_sc, sc_s, sc_k]
        rw [gd_pos (by omega)]
        rfl
      · unfold FX8_translates
        rw [gd_pos hp, gd_pos he, cb_e htr]
        simp only [bn]
        rw [if_neg (show ¬ (True ∧ (μ 135 p = 4)) from fun z => by have := z.2; omega), if_pos trivial, hNM, gd_pos (by omega), gd_pos (by omega), gd_pos (by omega)]
        unfold stM
        simp (disch := decide) only [u2_sc, sc_s, sc_k]
      · intro k hk
        simp only [List.mem_cons, List.not_mem_nil, or_false, not_or] at hk
        unfold stC
        simp only [sc, hk, if_false]
  · -- in place of an older one
    generalize hi : fstI (fun i => μ 136 (4 * p + i) = e) N = i at w hfr htr
    rw [if_neg (by omega)] at htr
    have hR2 := R_set (i := i) (e := e) (n := (N : Int)) (n' := (N : Int)) hp (by omega) he hN h8 (Or.inl ⟨w.2.1, w.2.2.1, rfl⟩) h
    refine ⟨_, _, ?_, ?_, hR2, ?_, by unfold stM; first | (unfold rmM; simp (disch := decide) only [sc_s, sc_k]) | simp (disch := decide) only [sc_s, sc_k]⟩
    · unfold FX0_take
      rw [gd_pos hp, gd_pos he, gd_pos hf9]
      refine (hpl _).trans ?_
      rw [hi, if_neg (by omega)]
      simp only [bn]
      rw [if_neg (show ¬ (4 : Int) ≤ i by omega), gd_pos (by omega), if_neg (show ¬ σ 1 p < i + 1 by omega), gd_pos (by omega)]
      simp (disch := decide) only [u2_sc, sc_s, sc_k]
      rw [gd_pos (by omega), hN]
      rfl
    · unfold FX8_translates
      rw [gd_pos hp, gd_pos he, cb_e htr]
      simp only [bn]
      rw [if_neg (show ¬ ((4 * p + i = -1) ∧ (μ 135 p = 4)) from fun z => by omega), if_neg (show ¬ 4 * p + i = -1 by omega), gd_pos (by omega)]
      unfold stM
      rw [uc_id (show μ 135 p = (N : Int) from hNM), sc_nop (σ := μ) rfl]
      simp (disch := decide) only [u2_sc, sc_s, sc_k]
    · intro k hk
      simp only [List.mem_cons, List.not_mem_nil, or_false, not_or] at hk
      unfold stC
      simp only [sc, hk, if_false]
