/-! messages are handled -/
theorem mono_unq {n n' : Int} {g g' : Int → Int} (hg : ∀ i j : Int, 0 ≤ i → i < j → j < n → g i < g j) (hg' : ∀ i j : Int, 0 ≤ i → i < j → j < n' → g' i < g' j) (h0 : 0 ≤ n) (h0' : 0 ≤ n') (him : ∀ u, (∃ i : Int, 0 ≤ i ∧ i < n ∧ g i = u) ↔ ∃ i : Int, 0 ≤ i ∧ i < n' ∧ g' i = u) : n = n' ∧ ∀ i : Int, 0 ≤ i → i < n → g i = g' i := by
  have hk : ∀ (k : Nat), ∀ i : Int, 0 ≤ i → i ≤ k → i < n → i < n' → g i = g' i := by
    intro k
    induction k with
    | zero =>
      intro i i0 i1 i2 i3
      have hi : i = 0 := by omega
      subst hi
      obtain ⟨a, a0, a1, a2⟩ := (him (g 0)).mp ⟨0, i0, i2, rfl⟩
      obtain ⟨b, b0, b1, b2⟩ := (him (g' 0)).mpr ⟨0, i0, i3, rfl⟩
      have h1 : g' 0 ≤ g' a := by
        by_cases ha : a = 0
        · rw [ha]; exact Int.le_refl _
        · have := hg' 0 a (by omega) (by omega) a1; omega
      have h2 : g 0 ≤ g b := by
        by_cases hb : b = 0
        · rw [hb]; exact Int.le_refl _
        · have := hg 0 b (by omega) (by omega) b1; omega
      omega
    | succ k ih =>
      intro i i0 i1 i2 i3
      by_cases hik : i ≤ k
      · exact ih i i0 hik i2 i3
      · obtain ⟨a, a0, a1, a2⟩ := (him (g i)).mp ⟨i, i0, i2, rfl⟩
        obtain ⟨b, b0, b1, b2⟩ := (him (g' i)).mpr ⟨i, i0, i3, rfl⟩
        have h1 : g' i ≤ g' a := by
          by_cases ha : a = i
          · rw [ha]; exact Int.le_refl _
          · by_cases hai : a < i
            · have e1 := ih a a0 (by omega) (by omega) a1
              have := hg a i a0 hai i2
              omega
            · have := hg' i a i0 (by omega) a1; omega
        have h2 : g i ≤ g b := by
          by_cases hb : b = i
          · rw [hb]; exact Int.le_refl _
          · by_cases hbi : b < i
            · have e1 := ih b b0 (by omega) b1 (by omega)
              have := hg' b i b0 hbi i3
              omega
            · have := hg i b i0 (by omega) b1; omega
        omega
  have hn : n = n' := by
    apply Classical.byContradiction
    intro q
    by_cases hlt : n < n'
    · obtain ⟨a, a0, a1, a2⟩ := (him (g' n)).mpr ⟨n, h0, hlt, rfl⟩
      have e1 := hk a.toNat a a0 (by omega) a1 (by omega)
      have := hg' a n a0 a1 hlt
      omega
    · obtain ⟨a, a0, a1, a2⟩ := (him (g n')).mp ⟨n', h0', by omega, rfl⟩
      have e1 := hk a.toNat a a0 (by omega) (by omega) a1
      have := hg a n' a0 a1 (by omega)
      omega
  exact ⟨hn, fun i i0 i1 => hk i.toNat i i0 (by omega) i1 (by omega)⟩
theorem R_vis {x y B : Int} {σ μ m : S2} (hk : ∀ k, k ∉ [136, 137, 138, 139] → m k = μ k) (hv : ∀ q t, 0 ≤ q → q ≤ 1 → 4 * q ≤ t → t < 4 * q + σ 1 q → m 136 t = μ 136 t ∧ m 137 t = μ 137 t ∧ m 138 t = μ 138 t ∧ m 139 t = μ 139 t) (hw : ∀ t, 0 ≤ t → t ≤ 7 → 0 ≤ m 139 t ∧ m 139 t ≤ 1) (h : Rg x y B σ μ) : Rg x y B σ m := by
  obtain ⟨⟨q102, q103, q106, q107, q108, q109, q110, q111, q116, q121, q122, q123, q124, q125, q130, q135, q140⟩, hSp, hMp, hPr, hHd, hFr, hLs, hBl, hWr, hC1, hC2, hC3, hRc, hRo, hSc, hSt, hBd⟩ := h
  obtain ⟨k1, k2, k3, k4, k5⟩ := hC1
  obtain ⟨l1, l2, l3⟩ := hC2
  have e := fun k (hk2 : k ∉ [136, 137, 138, 139]) => hk k hk2
  refine ⟨⟨(e 102 (by decide)).trans q102, (e 103 (by decide)).trans q103, (e 106 (by decide)).trans q106, (e 107 (by decide)).trans q107, (e 108 (by decide)).trans q108, (e 109 (by decide)).trans q109, (e 110 (by decide)).trans q110, (e 111 (by decide)).trans q111, (e 116 (by decide)).trans q116, (e 121 (by decide)).trans q121, (e 122 (by decide)).trans q122, (e 123 (by decide)).trans q123, (e 124 (by decide)).trans q124, (e 125 (by decide)).trans q125, (e 130 (by decide)).trans q130, (e 135 (by decide)).trans q135, (e 140 (by decide)).trans q140⟩, hSp, ?_, ?_, hHd, ?_, ?_, ?_, hWr, ?_, ?_, ?_, ?_, ?_, ?_, ?_, hBd⟩
  · rw [e 112 (by decide), e 113 (by decide), e 114 (by decide), e 115 (by decide)]; exact hMp
  · rw [e 117 (by decide), e 118 (by decide), e 119 (by decide)]; exact hPr
  · rw [e 126 (by decide), e 127 (by decide)]; exact hFr
  · rw [e 128 (by decide), e 129 (by decide)]; exact hLs
  · rw [e 120 (by decide)]; exact hBl
  · refine ⟨k1, k2, k3, fun q t q0 q1 t0 t1 => ?_, fun q t u q0 q1 t0 t1 u0 u1 htu => ?_⟩
    · have h1 := hv q t q0 q1 t0 t1
      have h2 := k4 q t q0 q1 t0 t1
      rw [h1.1, h1.2.1, h1.2.2.1]
      exact h2
    · rw [(hv q t q0 q1 t0 t1).1, (hv q u q0 q1 u0 u1).1] at htu
      exact k5 q t u q0 q1 t0 t1 u0 u1 htu
  · refine ⟨l1, hw, fun q t q0 q1 t0 t1 => ?_⟩
    have h1 := hv q t q0 q1 t0 t1
    rw [h1.1, h1.2.2.2]
    exact l3 q t q0 q1 t0 t1
  · intro q t q0 q1 t0 t1 ht
    have h1 := hv q t q0 q1 t0 t1
    rw [h1.2.2.2] at ht
    rw [h1.1, h1.2.1]
    exact hC3 q t q0 q1 t0 t1 ht
  · rw [e 132 (by decide), e 133 (by decide), e 134 (by decide)]; exact hRc
  · rw [e 132 (by decide), e 133 (by decide)]; exact hRo
  · rw [e 104 (by decide), e 105 (by decide), e 141 (by decide)]; exact hSc
  · rw [e 131 (by decide)]; exact hSt
theorem gl2_e {β : Type} {n : Nat} {f : (Int → Int → S2 → Option β) → Int → Int → S2 → Option β} {a x : Int} {s : S2} : gl2 (n + 1) f a x s = f (gl2 n f) a x s := rfl
/-- what stands of the caches while the class goes down through one -/
def OI (x y B p n : Int) (σ μ : S2) (i : Int) (s m : S2) (K : Int → Int) (z : Int) : Prop := Rg x y B s m ∧ s 1 p = z ∧ i ≤ z ∧ z ≤ n ∧ 0 ≤ z ∧ (∀ k, k ∉ [1, 13, 14, 50] → s k = σ k) ∧ (∀ k, k ∉ [135, 136, 137, 138, 139] → m k = μ k) ∧ (∀ q, q ≠ p → s 1 q = σ 1 q) ∧ (∀ t, ¬ (4 * p ≤ t ∧ t < 4 * p + n) → m 136 t = μ 136 t ∧ m 137 t = μ 137 t ∧ m 138 t = μ 138 t ∧ m 139 t = μ 139 t) ∧ (∀ j, 0 ≤ j → j < z → 0 ≤ K j ∧ K j < n ∧ m 136 (4 * p + j) = μ 136 (4 * p + K j) ∧ m 137 (4 * p + j) = μ 137 (4 * p + K j) ∧ m 138 (4 * p + j) = μ 138 (4 * p + K j) ∧ m 139 (4 * p + j) = μ 139 (4 * p + K j)) ∧ (∀ j l, 0 ≤ j → j < l → l < z → K j < K l) ∧ (∀ j, 0 ≤ j → j < i → K j = j) ∧ ∀ u, 0 ≤ u → u < n → ((u < i ∨ μ 139 (4 * p + u) = 0) ↔ ∃ j, 0 ≤ j ∧ j < z ∧ K j = u)
theorem L_obey {x y B p n : Int} {σ μ : S2} (hp : 0 ≤ p ∧ p ≤ 1) (hn : 0 ≤ n ∧ n ≤ 4) : ∀ (i : Nat) (fuel : Nat) (s m : S2) (K : Int → Int) (z : Int), i < fuel → (i : Int) ≤ n → OI x y B p n σ μ i s m K z → ∃ s' m' K' z', gl2 fuel (fun k1 (x_messages1 : Int) (x_i1 : Int) (s1 : S2) => if (0 ≤ x_i1) ∧ (x_i1 < 4) then bn (fun (x_messages2 : Int) (s2 : S2) => k1 x_messages2 (x_i1 + (-1)) s2) fun k2 => if (0 ≤ s1 37 (s1 50 (4 * p + x_i1))) ∧ (gAnd (s1 14 (s1 37 (s1 50 (4 * p + x_i1)))) (p + 1) ≠ 0) then cb (FX0_dismiss p x_i1 s1) fun r1 s3 => gd ((-2147483648) ≤ x_messages1 + 1 ∧ x_messages1 + 1 ≤ 2147483647) <| k2 (x_messages1 + 1) s3 else k2 x_messages1 s1 else some (x_messages1, s1)) (n - z) (i - 1) s = some (n - z', s') ∧ OI x y B p n σ μ 0 s' m' K' z'
  | i, 0, s, m, K, z, hf, _, _ => absurd hf (Nat.not_lt_zero _)
  | 0, fuel + 1, s, m, K, z, hf, hi, h => by
    refine ⟨s, m, K, z, ?_, h⟩
    rw [gl2_e, if_neg (by omega)]
  | i + 1, fuel + 1, s, m, K, z, hf, hi, h => by
    obtain ⟨h1, h2, h3, h4, h5, h6, h7, h8, h9, h10, h11, h12, h13⟩ := h
    have hC1 := h1.2.2.2.2.2.2.2.2.2.1
    have hC2 := h1.2.2.2.2.2.2.2.2.2.2.1
    have c4 := hC1.2.2.2.1 p (4 * p + i) hp.1 hp.2 (by omega) (by omega)
    have c3 := hC2.2.2 p (4 * p + i) hp.1 hp.2 (by omega) (by omega)
    have hKi : K i = i := h12 i (by omega) (by omega)
    have h10i := h10 i (by omega) (by omega)
    rw [hKi] at h10i
    have hcond : ((0 ≤ s 37 (s 50 (4 * p + i))) ∧ (gAnd (s 14 (s 37 (s 50 (4 * p + i)))) (p + 1) ≠ 0)) ↔ μ 139 (4 * p + i) ≠ 0 := by
      rw [c4.1, ← c3, h10i.2.2.2.2.2]
      exact ⟨fun w => w.2, fun w => ⟨c4.2.2.2.1, w⟩⟩
    have hgl : ∀ (a : Int) (s : S2), gl2 (fuel + 1) (fun k1 (x_messages1 : Int) (x_i1 : Int) (s1 : S2) => if (0 ≤ x_i1) ∧ (x_i1 < 4) then bn (fun (x_messages2 : Int) (s2 : S2) => k1 x_messages2 (x_i1 + (-1)) s2) fun k2 => if (0 ≤ s1 37 (s1 50 (4 * p + x_i1))) ∧ (gAnd (s1 14 (s1 37 (s1 50 (4 * p + x_i1)))) (p + 1) ≠ 0) then cb (FX0_dismiss p x_i1 s1) fun r1 s3 => gd ((-2147483648) ≤ x_messages1 + 1 ∧ x_messages1 + 1 ≤ 2147483647) <| k2 (x_messages1 + 1) s3 else k2 x_messages1 s1 else some (x_messages1, s1)) a (((i + 1 : Nat) : Int) - 1) s = if (0 ≤ s 37 (s 50 (4 * p + i))) ∧ (gAnd (s 14 (s 37 (s 50 (4 * p + i)))) (p + 1) ≠ 0) then cb (FX0_dismiss p i s) fun r1 s3 => gd ((-2147483648) ≤ a + 1 ∧ a + 1 ≤ 2147483647) <| gl2 fuel (fun k1 (x_messages1 : Int) (x_i1 : Int) (s1 : S2) => if (0 ≤ x_i1) ∧ (x_i1 < 4) then bn (fun (x_messages2 : Int) (s2 : S2) => k1 x_messages2 (x_i1 + (-1)) s2) fun k2 => if (0 ≤ s1 37 (s1 50 (4 * p + x_i1))) ∧ (gAnd (s1 14 (s1 37 (s1 50 (4 * p + x_i1)))) (p + 1) ≠ 0) then cb (FX0_dismiss p x_i1 s1) fun r1 s3 => gd ((-2147483648) ≤ x_messages1 + 1 ∧ x_messages1 + 1 ≤ 2147483647) <| k2 (x_messages1 + 1) s3 else k2 x_messages1 s1 else some (x_messages1, s1)) (a + 1) ((i : Int) - 1) s3 else gl2 fuel (fun k1 (x_messages1 : Int) (x_i1 : Int) (s1 : S2) => if (0 ≤ x_i1) ∧ (x_i1 < 4) then bn (fun (x_messages2 : Int) (s2 : S2) => k1 x_messages2 (x_i1 + (-1)) s2) fun k2 => if (0 ≤ s1 37 (s1 50 (4 * p + x_i1))) ∧ (gAnd (s1 14 (s1 37 (s1 50 (4 * p + x_i1)))) (p + 1) ≠ 0) then cb (FX0_dismiss p x_i1 s1) fun r1 s3 => gd ((-2147483648) ≤ x_messages1 + 1 ∧ x_messages1 + 1 ≤ 2147483647) <| k2 (x_messages1 + 1) s3 else k2 x_messages1 s1 else some (x_messages1, s1)) a ((i : Int) - 1) s := by
      intro a s
      have e1 : ((i + 1 : Nat) : Int) - 1 = (i : Int) := by omega
      rw [e1]
      show (if (0 ≤ (i : Int)) ∧ ((i : Int) < 4) then _ else _) = _
      rw [if_pos (by omega)]
      rfl
    rw [hgl]
    by_cases hW : μ 139 (4 * p + i) = 0
    · rw [if_neg (fun q => hcond.mp q hW)]
      refine L_obey hp hn i fuel s m K z (by omega) (by omega) ⟨h1, h2, by omega, h4, h5, h6, h7, h8, h9, h10, h11, fun j j0 j1 => h12 j j0 (by omega), fun u u0 u1 => ?_⟩
      rw [← h13 u u0 u1]
      constructor
      · rintro (w | w)
        · exact Or.inl (by omega)
        · exact Or.inr w
      · rintro (w | w)
        · by_cases hu : u = i
          · rw [hu]; exact Or.inr hW
          · exact Or.inl (by omega)
        · exact Or.inr w
    · rw [if_pos (hcond.mpr hW)]
      have hd := e7_dismiss (e := m 136 (4 * p + i)) hp (i := i) (n := z) ⟨by omega, by omega⟩ h2 (by omega) c4.1 ⟨c4.2.2.2.1, c4.2.2.2.2.1⟩
      have hR := R_dis (e := m 136 (4 * p + i)) hp (i := i) (n := z) ⟨by omega, by omega⟩ h2 rfl h1
      rw [cb_e hd, gd_pos (by omega), show n - z + 1 = n - (z - 1) by omega]
      refine L_obey hp hn i fuel _ _ (fun j => if j < i then j else K (j + 1)) (z - 1) (by omega) (by omega) ⟨hR, ?_, by omega, by omega, by omega, ?_, ?_, ?_, ?_, ?_, ?_, ?_, ?_⟩
      · unfold dsC
        simp (disch := decide) only [sc_s, sc_k, uc_s]
      · intro k hk
        rw [← h6 k hk]
        simp only [List.mem_cons, List.not_mem_nil, or_false, not_or] at hk
        unfold dsC
        simp only [sc, hk, if_false]
      · intro k hk
        rw [← h7 k hk]
        simp only [List.mem_cons, List.not_mem_nil, or_false, not_or] at hk
        unfold rmM
        simp only [sc, hk, if_false]
      · intro q hq
        rw [← h8 q hq]
        unfold dsC
        simp (disch := decide) only [sc_s, sc_k]
        exact uc_n hq
      · intro t ht
        have g := h9 t ht
        unfold rmM shI
        simp (disch := decide) only [sc_s, sc_k]
        rw [if_neg (by omega), if_neg (by omega), if_neg (by omega), if_neg (by omega)]
        exact g
      · intro j j0 j1
        unfold rmM shI
        simp (disch := decide) only [sc_s, sc_k]
        by_cases hji : j < i
        · have g := h10 j j0 (by omega)
          rw [h12 j j0 (by omega)] at g
          rw [if_pos hji, if_neg (by omega), if_neg (by omega), if_neg (by omega), if_neg (by omega)]
          exact g
        · have g := h10 (j + 1) (by omega) (by omega)
          rw [if_neg hji, if_pos (by omega), if_pos (by omega), if_pos (by omega), if_pos (by omega), Int.add_assoc]
          exact g
      · intro j l j0 jl l1
        dsimp only
        by_cases hji : j < i
        · rw [if_pos hji]
          by_cases hli : l < i
          · rw [if_pos hli]; exact jl
          · rw [if_neg hli]
            have := h11 i (l + 1) (by omega) (by omega) (by omega)
            omega
        · rw [if_neg hji, if_neg (by omega)]
          exact h11 (j + 1) (l + 1) (by omega) (by omega) (by omega)
      · intro j j0 j1
        exact if_pos j1
      · intro u u0 u1
        have g := h13 u u0 u1
        dsimp only
        constructor
        · intro w
          have hui : u ≠ i := fun q => by
            rcases w with w | w
            · omega
            · rw [q] at w; exact hW w
          obtain ⟨j, j0, j1, j2⟩ := g.mp (by rcases w with w | w; exact Or.inl (by omega); exact Or.inr w)
          by_cases hji : j < i
          · exact ⟨j, j0, by omega, by rw [if_pos hji, ← j2, h12 j j0 (by omega)]⟩
          · have hji2 : j ≠ i := fun q => hui (by rw [← j2, q, hKi])
            exact ⟨j - 1, by omega, by omega, by rw [if_neg (by omega), show j - 1 + 1 = j by omega]; exact j2⟩
        · rintro ⟨j, j0, j1, j2⟩
          by_cases hji : j < i
          · rw [if_pos hji] at j2
            exact Or.inl (by omega)
          · rw [if_neg hji] at j2
            have g2 := g.mpr ⟨j + 1, by omega, by omega, j2⟩
            have := h11 i (j + 1) (by omega) (by omega) (by omega)
            omega
