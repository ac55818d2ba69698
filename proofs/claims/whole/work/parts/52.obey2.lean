/-! messages are handled: both sides -/
theorem glw3x {β : Type} {f : (Int → Int → Int → S2 → Option β) → Int → Int → Int → S2 → Option β} (N : Nat) (I : Nat → Int → Int → Int → S2 → Prop) (Post : Option β → Prop) (hN : N ≤ 900)
    (h : ∀ (k : (Int → Int → Int → S2 → Option β)) (j : Nat) (x0 x1 x2 : Int) (s : S2), I j x0 x1 x2 s → (j < N → ∀ (y0 y1 y2 : Int) (t : S2), I (j + 1) y0 y1 y2 t → Post (k y0 y1 y2 t)) → Post (f k x0 x1 x2 s)) (x0 x1 x2 : Int) (s : S2) (hI : I 0 x0 x1 x2 s) : Post (gl3 1000 f x0 x1 x2 s) := glw3 N I Post h 1000 0 x0 x1 x2 s (by omega) (Nat.zero_le _) hI
theorem L_hand {p n : Int} {μ : S2} (hp : 0 ≤ p ∧ p ≤ 1) (hn : 0 ≤ n ∧ n ≤ 4) (h135 : μ 135 p = n) (hw : ∀ t, 0 ≤ t → t ≤ 7 → 0 ≤ μ 139 t ∧ μ 139 t ≤ 1) : ∃ (v : Int) (L : Int → Int) (m : S2), FX8_handles p μ = some (n - v, sc m 135 (uc (m 135) p v)) ∧ 0 ≤ v ∧ v ≤ n ∧ (∀ k, k ∉ [136, 137, 138, 139] → m k = μ k) ∧ (∀ t, t < 4 * p ∨ 4 * p + n ≤ t → m 136 t = μ 136 t ∧ m 137 t = μ 137 t ∧ m 138 t = μ 138 t ∧ m 139 t = μ 139 t) ∧ (∀ t, 0 ≤ t → t ≤ 7 → 0 ≤ m 139 t ∧ m 139 t ≤ 1) ∧ (∀ j, 0 ≤ j → j < v → 0 ≤ L j ∧ L j < n ∧ m 136 (4 * p + j) = μ 136 (4 * p + L j) ∧ m 137 (4 * p + j) = μ 137 (4 * p + L j) ∧ m 138 (4 * p + j) = μ 138 (4 * p + L j) ∧ m 139 (4 * p + j) = 0) ∧ (∀ j l, 0 ≤ j → j < l → l < v → L j < L l) ∧ ∀ u, 0 ≤ u → u < n → (μ 139 (4 * p + u) = 0 ↔ ∃ j, 0 ≤ j ∧ j < v ∧ L j = u) := by
  obtain ⟨N, hN⟩ := Int.eq_ofNat_of_zero_le hn.1
  have key : ∃ (v : Int) (L : Int → Int) (m : S2), gl3 1000 (fun k1 (x_n1 : Int) (x_to1 : Int) (x_t1 : Int) (s1 : S2) => if x_t1 < (4 * p) + (s1 135 p) then bn (fun (x_n2 x_to2 : Int) (s2 : S2) => k1 x_n2 x_to2 (x_t1 + 1) s2) fun k2 => gd (0 ≤ x_t1 ∧ x_t1 ≤ 7) <| if s1 139 x_t1 ≠ 0 then gd ((-2147483648) ≤ x_n1 + 1 ∧ x_n1 + 1 ≤ 2147483647) <| k2 (x_n1 + 1) x_to1 s1 else gd (0 ≤ x_to1 ∧ x_to1 ≤ 7) <| bn (upd2 s1 136 x_to1 (s1 136 x_t1)) fun s3 => bn (upd2 s3 137 x_to1 (s3 137 x_t1)) fun s4 => bn (upd2 s4 138 x_to1 (s4 138 x_t1)) fun s5 => bn (upd2 s5 139 x_to1 0) fun s6 => k2 x_n1 (x_to1 + 1) s6 else gd (0 ≤ x_to1 - (4 * p) ∧ x_to1 - (4 * p) ≤ 4) <| bn (upd2 s1 135 p (x_to1 - (4 * p))) fun s7 => some (x_n1, s7)) 0 (4 * p) (4 * p) μ = some (n - v, sc m 135 (uc (m 135) p v)) ∧ 0 ≤ v ∧ v ≤ n ∧ (∀ k, k ∉ [136, 137, 138, 139] → m k = μ k) ∧ (∀ t, t < 4 * p ∨ 4 * p + n ≤ t → m 136 t = μ 136 t ∧ m 137 t = μ 137 t ∧ m 138 t = μ 138 t ∧ m 139 t = μ 139 t) ∧ (∀ t, 0 ≤ t → t ≤ 7 → 0 ≤ m 139 t ∧ m 139 t ≤ 1) ∧ (∀ j, 0 ≤ j → j < v → 0 ≤ L j ∧ L j < n ∧ m 136 (4 * p + j) = μ 136 (4 * p + L j) ∧ m 137 (4 * p + j) = μ 137 (4 * p + L j) ∧ m 138 (4 * p + j) = μ 138 (4 * p + L j) ∧ m 139 (4 * p + j) = 0) ∧ (∀ j l, 0 ≤ j → j < l → l < v → L j < L l) ∧ ∀ u, 0 ≤ u → u < n → (μ 139 (4 * p + u) = 0 ↔ ∃ j, 0 ≤ j ∧ j < v ∧ L j = u) := by
    refine glw3x N (fun j xn xto xt s => (j : Int) ≤ n ∧ ∃ (v : Int) (L : Int → Int), xn = j - v ∧ xto = 4 * p + v ∧ xt = 4 * p + j ∧ 0 ≤ v ∧ v ≤ j ∧ (∀ k, k ∉ [136, 137, 138, 139] → s k = μ k) ∧ (∀ t, t < 4 * p ∨ 4 * p + j ≤ t → s 136 t = μ 136 t ∧ s 137 t = μ 137 t ∧ s 138 t = μ 138 t ∧ s 139 t = μ 139 t) ∧ (∀ t, 0 ≤ t → t ≤ 7 → 0 ≤ s 139 t ∧ s 139 t ≤ 1) ∧ (∀ i, 0 ≤ i → i < v → 0 ≤ L i ∧ L i < j ∧ s 136 (4 * p + i) = μ 136 (4 * p + L i) ∧ s 137 (4 * p + i) = μ 137 (4 * p + L i) ∧ s 138 (4 * p + i) = μ 138 (4 * p + L i) ∧ s 139 (4 * p + i) = 0) ∧ (∀ i l, 0 ≤ i → i < l → l < v → L i < L l) ∧ ∀ u, 0 ≤ u → u < (j : Int) → (μ 139 (4 * p + u) = 0 ↔ ∃ i, 0 ≤ i ∧ i < v ∧ L i = u))
      (fun o => ∃ (v : Int) (L : Int → Int) (m : S2), o = some (n - v, sc m 135 (uc (m 135) p v)) ∧ 0 ≤ v ∧ v ≤ n ∧ (∀ k, k ∉ [136, 137, 138, 139] → m k = μ k) ∧ (∀ t, t < 4 * p ∨ 4 * p + n ≤ t → m 136 t = μ 136 t ∧ m 137 t = μ 137 t ∧ m 138 t = μ 138 t ∧ m 139 t = μ 139 t) ∧ (∀ t, 0 ≤ t → t ≤ 7 → 0 ≤ m 139 t ∧ m 139 t ≤ 1) ∧ (∀ j, 0 ≤ j → j < v → 0 ≤ L j ∧ L j < n ∧ m 136 (4 * p + j) = μ 136 (4 * p + L j) ∧ m 137 (4 * p + j) = μ 137 (4 * p + L j) ∧ m 138 (4 * p + j) = μ 138 (4 * p + L j) ∧ m 139 (4 * p + j) = 0) ∧ (∀ j l, 0 ≤ j → j < l → l < v → L j < L l) ∧ ∀ u, 0 ≤ u → u < n → (μ 139 (4 * p + u) = 0 ↔ ∃ j, 0 ≤ j ∧ j < v ∧ L j = u)) (by omega) ?_ 0 (4 * p) (4 * p) μ ⟨by omega, 0, fun j => j, by omega, by omega, by omega, by decide, by omega, fun _ _ => rfl, fun _ _ => ⟨rfl, rfl, rfl, rfl⟩, hw, fun i i0 i1 => by omega, fun i l i0 i1 l1 => by omega, fun u u0 u1 => by omega⟩
    rintro k j xn xto xt s ⟨hj, v, L, rfl, rfl, rfl, v0, v1, g1, g2, g3, g4, g5, g6⟩ ih
    have h135s : s 135 p = n := by rw [g1 135 (by decide)]; exact h135
    rw [h135s]
    by_cases hjn : (j : Int) < n
    · have g2j := g2 (4 * p + j) (Or.inr (Int.le_refl _))
      rw [if_pos (by omega)]
      simp (disch := decide) only [bn, u2_sc, sc_s, sc_k]
      rw [gd_pos (by omega)]
      by_cases hW : μ 139 (4 * p + j) = 0
      · rw [if_neg (by omega), gd_pos (by omega)]
        refine ih (by omega) _ _ _ _ ⟨by omega, v + 1, uc L v j, by omega, by omega, by omega, by omega, by omega, ?_, ?_, ?_, ?_, ?_, ?_⟩
        · intro k2 hk2
          rw [← g1 k2 hk2]
          simp only [List.mem_cons, List.not_mem_nil, or_false, not_or] at hk2
          simp only [sc, hk2, if_false]
        · intro t ht
          have g := g2 t (by omega)
          simp (disch := decide) only [sc_s, sc_k]
          rw [uc_n (by omega), uc_n (by omega), uc_n (by omega), uc_n (by omega)]
          exact g
        · intro t t0 t1
          have g := g3 t t0 t1
          simp (disch := decide) only [sc_s, sc_k]
          unfold uc
          split <;> omega
        · intro i i0 i1
          simp (disch := decide) only [sc_s, sc_k]
          by_cases hiv : i = v
          · subst hiv
            simp only [uc_s]
            exact ⟨by omega, by omega, g2j.1, g2j.2.1, g2j.2.2.1, trivial⟩
          · have g := g4 i i0 (by omega)
            rw [uc_n hiv, uc_n (by omega), uc_n (by omega), uc_n (by omega), uc_n (by omega)]
            exact ⟨g.1, by omega, g.2.2⟩
        · intro i l i0 il l1
          by_cases hlv : l = v
          · subst hlv
            rw [uc_s, uc_n (by omega)]
            exact (g4 i i0 il).2.1
          · rw [uc_n hlv, uc_n (by omega)]
            exact g5 i l i0 il (by omega)
        · intro u u0 u1
          by_cases huj : u = j
          · subst huj
            exact ⟨fun _ => ⟨v, v0, by omega, uc_s⟩, fun _ => hW⟩
          · rw [g6 u u0 (by omega)]
            constructor
            · rintro ⟨i, i0, i1, i2⟩
              exact ⟨i, i0, by omega, by rw [uc_n (by omega)]; exact i2⟩
            · rintro ⟨i, i0, i1, i2⟩
              by_cases hiv : i = v
              · rw [hiv, uc_s] at i2; omega
              · rw [uc_n hiv] at i2; exact ⟨i, i0, by omega, i2⟩
      · rw [if_pos (by omega), gd_pos (by omega)]
        refine ih (by omega) _ _ _ _ ⟨by omega, v, L, by omega, rfl, by omega, v0, by omega, g1, fun t ht => g2 t (by omega), g3, fun i i0 i1 => ?_, g5, fun u u0 u1 => ?_⟩
        · have g := g4 i i0 i1
          exact ⟨g.1, by omega, g.2.2⟩
        · by_cases huj : u = j
          · subst huj
            constructor
            · intro w; exact absurd w hW
            · rintro ⟨i, i0, i1, i2⟩
              have g := g4 i i0 i1
              omega
          · exact g6 u u0 (by omega)
    · have hjn2 : (j : Int) = n := by omega
      rw [if_neg (by omega), gd_pos (by omega)]
      simp only [bn]
      rw [u2_sc, show 4 * p + v - 4 * p = v by omega, hjn2]
      rw [hjn2] at v1 g2 g4 g6
      exact ⟨v, L, s, rfl, v0, v1, g1, g2, g3, g4, g5, g6⟩
  obtain ⟨v, L, m, e1, v0, v1, rest⟩ := key
  refine ⟨v, L, m, ?_, v0, v1, rest⟩
  unfold FX8_handles
  refine rgd_eq ?_ (by omega) (by omega)
  rw [gd_pos hp, gd_pos (by omega)]
  exact e1
theorem P_obey {x y B p : Int} {σ μ : S2} (hp : 0 ≤ p ∧ p ≤ 1) (h : Rg x y B σ μ) : ∃ r s1 m1, FX0_obey p σ = some (r, s1) ∧ FX8_handles p μ = some (r, m1) ∧ Rg x y B s1 m1 ∧ (∀ k, k ∉ [1, 13, 14, 50] → s1 k = σ k) ∧ (∀ k, k ∉ [135, 136, 137, 138, 139] → m1 k = μ k) ∧ (∀ q, q ≠ p → s1 1 q = σ 1 q) ∧ (∀ t, ¬ (4 * p ≤ t ∧ t < 4 * p + σ 1 p) → m1 137 t = μ 137 t ∧ m1 139 t = μ 139 t) ∧ ∀ t, 4 * p ≤ t → t < 4 * p + s1 1 p → m1 139 t = 0 := by
  have hC1 := h.2.2.2.2.2.2.2.2.2.1
  have hC2 := h.2.2.2.2.2.2.2.2.2.2.1
  have q135 : μ 135 = σ 1 := h.1.2.2.2.2.2.2.2.2.2.2.2.2.2.2.2.1
  have hn := hC1.1 p hp.1 hp.2
  obtain ⟨N, hN⟩ := Int.eq_ofNat_of_zero_le hn.1
  obtain ⟨s', m', K', z', a1, a2, a3, a4, a5, a6, a7, a8, a9, a10, a11, a12, a13, a14⟩ := L_obey (x := x) (y := y) (B := B) (σ := σ) (μ := μ) hp hn N 1000 σ μ (fun j => j) (σ 1 p) (by omega) (by omega) ⟨h, rfl, by omega, by omega, by omega, fun _ _ => rfl, fun _ _ => rfl, fun _ _ => rfl, fun _ _ => ⟨rfl, rfl, rfl, rfl⟩, fun j j0 j1 => ⟨j0, j1, rfl, rfl, rfl, rfl⟩, fun j l _ jl _ => jl, fun _ _ _ => rfl, fun u u0 u1 => ⟨fun _ => ⟨u, u0, u1, rfl⟩, fun _ => Or.inl (by omega)⟩⟩
  obtain ⟨v, L, m, b1, b2, b3, b4, b5, b6, b7, b8, b9⟩ := L_hand hp hn (by rw [q135]) hC2.2.1
  obtain ⟨u1, u2⟩ := mono_unq a12 b8 a6 b2 (fun u => by
    constructor
    · rintro ⟨j, j0, j1, j2⟩
      have g := a11 j j0 j1
      have g2 := (a14 u (by omega) (by omega)).mpr ⟨j, j0, j1, j2⟩
      exact (b9 u (by omega) (by omega)).mp (by omega)
    · rintro ⟨j, j0, j1, j2⟩
      have g := b7 j j0 j1
      have g2 := (b9 u (by omega) (by omega)).mpr ⟨j, j0, j1, j2⟩
      exact (a14 u (by omega) (by omega)).mp (Or.inr g2))
  subst u1
  have h135 : m' 135 = uc (m 135) p z' := by
    have e1 : m' 135 = s' 1 := a2.1.2.2.2.2.2.2.2.2.2.2.2.2.2.2.2.1
    rw [e1, b4 135 (by decide), q135]
    funext q
    unfold uc
    split
    · rename_i q2; rw [q2]; exact a3
    · rename_i q2; exact a9 q q2
  have hz : ∀ j, 0 ≤ j → j < z' → μ 139 (4 * p + K' j) = 0 := by
    intro j j0 j1
    have g := a11 j j0 j1
    have := (a14 (K' j) g.1 g.2.1).mpr ⟨j, j0, j1, rfl⟩
    omega
  have hR : Rg x y B s' (sc m 135 (uc (m 135) p z')) := by
    refine R_vis ?_ ?_ ?_ a2
    · intro k hk
      by_cases hk2 : k = 135
      · subst hk2; simp (disch := decide) only [sc_s, sc_k]; exact h135.symm
      · rw [sc_k hk2, b4 k hk]
        refine (a8 k ?_).symm
        simp only [List.mem_cons, List.not_mem_nil, or_false, not_or] at hk ⊢
        omega
    · intro q t q0 q1 t0 t1
      simp (disch := decide) only [sc_s, sc_k]
      by_cases hqp : q = p
      · subst hqp
        rw [a3] at t1
        obtain ⟨j, rfl⟩ : ∃ j, t = 4 * q + j := ⟨t - 4 * q, by omega⟩
        have g1 := a11 j (by omega) (by omega)
        have g2 := b7 j (by omega) (by omega)
        have g3 := u2 j (by omega) (by omega)
        have g4 := hz j (by omega) (by omega)
        rw [← g3] at g2
        refine ⟨by omega, by omega, by omega, by omega⟩
      · have hq1 := hC1.1 q q0 q1
        rw [a9 q hqp] at t1
        have g1 := a10 t (by omega)
        have g2 := b5 t (by omega)
        omega
    · intro t t0 t1
      simp (disch := decide) only [sc_s, sc_k]
      exact b6 t t0 t1
  refine ⟨σ 1 p - z', s', _, ?_, b1, hR, a7, ?_, a9, ?_, ?_⟩
  · unfold FX0_obey
    refine rgd_eq ?_ (by omega) (by omega)
    rw [gd_pos hp, gd_pos (by omega)]
    have a1' := a1
    rw [← hN, show σ 1 p - σ 1 p = 0 by omega] at a1'
    exact a1'
  · intro k hk
    simp only [List.mem_cons, List.not_mem_nil, or_false, not_or] at hk
    rw [sc_k hk.1]
    refine b4 k ?_
    simp only [List.mem_cons, List.not_mem_nil, or_false, not_or]
    omega
  · intro t ht
    simp (disch := decide) only [sc_s, sc_k]
    have g := b5 t (by omega)
    exact ⟨g.2.1, g.2.2.2⟩
  · intro t t0 t1
    simp (disch := decide) only [sc_s, sc_k]
    rw [a3] at t1
    obtain ⟨j, rfl⟩ : ∃ j, t = 4 * p + j := ⟨t - 4 * p, by omega⟩
    exact (b7 j (by omega) (by omega)).2.2.2.2.2
