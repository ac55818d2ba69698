/-! calls: scan -/
theorem R_sc {x y B : Int} {c12 c42 c43 m104 m105 m141 : Int → Int} {σ μ : S2} (hS : rSc c42 c43 c12 (σ 3) m104 m105 m141) (h : Rg x y B σ μ) : Rg x y B (sc (sc (sc σ 12 c12) 42 c42) 43 c43) (sc (sc (sc μ 104 m104) 105 m105) 141 m141) := by
  obtain ⟨⟨q102, q103, q106, q107, q108, q109, q110, q111, q116, q121, q122, q123, q124, q125, q130, q135, q140⟩, hSp, hMp, hPr, hHd, hFr, hLs, hBl, hWr, hC1, hC2, hC3, hRc, hRo, hSc, hSt, hBd⟩ := h
  refine ⟨⟨?_, ?_, ?_, ?_, ?_, ?_, ?_, ?_, ?_, ?_, ?_, ?_, ?_, ?_, ?_, ?_, ?_⟩, ?_, ?_, ?_, ?_, ?_, ?_, ?_, ?_, ?_, ?_, ?_, ?_, ?_, ?_, ?_, ?_⟩
  all_goals (try simp (disch := decide) only [sc_s, sc_k, q102, q103, q106, q107, q108, q109, q110, q111, q116, q121, q122, q123, q124, q125, q130, q135, q140])
  all_goals (try with_reducible assumption)
theorem mp_0 {g c : Int → Int} : mp 0 ((0 : Nat) : Int) g c = c := by
  funext t
  unfold mp
  rw [if_neg (by omega)]
theorem mp_uc {j : Nat} {g c : Int → Int} : uc (mp 0 (j : Int) g c) (j : Int) (g (j : Int)) = mp 0 ((j + 1 : Nat) : Int) g c := by
  funext t
  unfold uc mp
  by_cases h1 : t = j
  · rw [if_pos h1, if_pos (by omega), h1]
  · rw [if_neg h1]
    by_cases h2 : 0 ≤ t ∧ t < 0 + (j : Int)
    · rw [if_pos h2, if_pos (by omega)]
    · rw [if_neg h2, if_neg (by omega)]
theorem e7_pass5 {τ : S2} (hS : τ 42 0 = 5) : FX7_passToNextSpace τ = some (0, sc (sc (sc τ 43 (uc (τ 43) 0 0)) 42 (uc (τ 42) 0 0)) 12 (mp 0 192 (fun _ => 0) (τ 12))) := by
  unfold FX7_passToNextSpace
  simp (disch := decide) only [bn, u2_sc, sc_s, sc_k, uc_s, hS]
  rw [gd_pos (by decide), if_pos (by decide), sc_sc, uc_uc]
  have e0 : ∀ j : Nat, sc (sc (sc τ 43 (uc (τ 43) 0 0)) 42 (uc (τ 42) 0 0)) 12 (uc (mp 0 (j : Int) (fun _ => 0) (τ 12)) (j : Int) 0) = sc (sc (sc τ 43 (uc (τ 43) 0 0)) 42 (uc (τ 42) 0 0)) 12 (mp 0 ((j + 1 : Nat) : Int) (fun _ => 0) (τ 12)) := fun j => by
    rw [← mp_uc]
  have h0 : (sc (sc τ 43 (uc (τ 43) 0 0)) 42 (uc (τ 42) 0 0)) = (fun j : Nat => sc (sc (sc τ 43 (uc (τ 43) 0 0)) 42 (uc (τ 42) 0 0)) 12 (mp 0 (j : Int) (fun _ => 0) (τ 12))) 0 := by
    show _ = sc (sc (sc τ 43 (uc (τ 43) 0 0)) 42 (uc (τ 42) 0 0)) 12 (mp 0 ((0 : Nat) : Int) (fun _ => 0) (τ 12))
    rw [mp_0, sc_nop (by simp (disch := decide) only [sc_s, sc_k])]
  rw [h0]
  refine runN (S := fun j : Nat => sc (sc (sc τ 43 (uc (τ 43) 0 0)) 42 (uc (τ 42) 0 0)) 12 (mp 0 (j : Int) (fun _ => 0) (τ 12))) (g := fun k2 (x_i_space1 : Int) k3 (x_i_entry1 : Int) (s6 : S2) => if x_i_entry1 < 32 then gd (0 ≤ 32 * x_i_space1 + x_i_entry1 ∧ 32 * x_i_space1 + x_i_entry1 ≤ 191) <| sc s6 12 (uc (s6 12) (32 * x_i_space1 + x_i_entry1) 0) |> k3 (x_i_entry1 + 1) else k2 (x_i_space1 + 1) s6) ?_ ?_ ?_ ?_
  · intro k s σ' hs
    exact if_pos (by omega)
  · intro k s i k2 hs hi
    have e1 : 32 * (s : Int) + (i : Int) = ((32 * s + i : Nat) : Int) := by omega
    try dsimp only
    rw [if_pos (by omega), gd_pos (by omega), e1]
    simp (disch := decide) only [sc_s, sc_k, sc_sc]
    rw [e0]
  · intro k s k2 σ' hs
    exact if_neg (by decide)
  · intro k
    exact if_neg (by decide)
theorem e7_pass {S : Int} {τ : S2} (hS : τ 42 0 = S) (h5 : 0 ≤ S ∧ S < 5) : FX7_passToNextSpace τ = some (0, sc (sc τ 43 (uc (τ 43) 0 0)) 42 (uc (τ 42) 0 (S + 1))) := by
  unfold FX7_passToNextSpace
  simp (disch := decide) only [bn, u2_sc, sc_s, sc_k, uc_s, hS]
  rw [gd_pos (by omega), if_neg (by omega)]
theorem e8_passes {b e : Int} {μ : S2} (h : μ 104 0 = e) (hb : 1 ≤ b ∧ b ≤ 32) (he : 0 ≤ e ∧ e + b ≤ 192) : FX8_passes b μ = some (0, if e + b = 192 then sc (sc μ 104 (uc (μ 104) 0 0)) 105 (uc (μ 105) 0 0) else sc μ 104 (uc (μ 104) 0 (e + b))) := by
  unfold FX8_passes
  rw [gd_pos hb, h, gd_pos (by omega)]
  simp (disch := decide) only [bn, u2_sc, sc_s, sc_k, uc_s]
  by_cases z : e + b = 192
  · rw [if_pos z, if_pos z, sc_sc, uc_uc]
  · rw [if_neg z, if_neg z]
theorem L_pass {B S A b : Int} {c c5 c1 : Int → Int} {s m : S2} (hS : s 42 0 = S) (hS5 : 0 ≤ S ∧ S ≤ 5) (h104 : m 104 0 = 32 * S + A) (hA : 0 ≤ A ∧ A ≤ 31) (hb : b = 32 - A) (hn : rSn (32 * S + 32) c (s 3) c5 c1) (h : Rg (-1) (-1) B s m) : ∃ s3 m3, FX7_passToNextSpace (sc (sc s 12 c) 43 (uc (s 43) 0 32)) = some (0, s3) ∧ FX8_passes b (sc (sc m 105 c5) 141 c1) = some (0, m3) ∧ Rg (-1) (-1) B s3 m3 ∧ (∀ k, k ∉ [12, 42, 43] → s3 k = s k) ∧ (∀ k, k ∉ [104, 105, 141] → m3 k = m k) ∧ s3 43 0 = 0 ∧ s3 42 0 = (if S = 5 then 0 else S + 1) := by
  obtain ⟨n1, n2, n3, n4, n5⟩ := hn
  have hps := e8_passes (b := b) (e := 32 * S + A) (μ := sc (sc m 105 c5) 141 c1) (by simp (disch := decide) only [sc_s, sc_k]; exact h104) (by omega) (by omega)
  by_cases h5 : S = 5
  · have hp := e7_pass5 (τ := sc (sc s 12 c) 43 (uc (s 43) 0 32)) (by simp (disch := decide) only [sc_s, sc_k]; rw [hS, h5])
    rw [if_pos (by omega)] at hps
    have hR := R_sc (c12 := mp 0 192 (fun _ => 0) c) (c42 := uc (s 42) 0 0) (c43 := uc (s 43) 0 0) (m104 := uc (m 104) 0 0) (m105 := uc c5 0 0) (m141 := c1) (by
      unfold rSc
      simp only [uc_s]
      refine ⟨by decide, by decide, by decide, by decide, by decide, by decide, by decide, fun k k0 k1 => by omega, fun j k j0 j1 k1 => by omega, fun d d0 d1 => ?_⟩
      unfold mp
      rw [if_pos (by omega)]
      exact ⟨by decide, by decide, ⟨fun z => absurd rfl z, fun ⟨k, k0, k1, _⟩ => by omega⟩, fun z => absurd rfl z⟩) h
    refine ⟨_, _, hp, hps, ?_, ?_, ?_, ?_, ?_⟩
    · simp (disch := decide) only [sc_s, sc_k]
      simp (disch := decide) only [sc_s, sc_k] at hR
      have e1 : sc (sc (sc (sc (sc s 12 c) 43 (uc (s 43) 0 32)) 43 (uc (uc (s 43) 0 32) 0 0)) 42 (uc (s 42) 0 0)) 12 (mp 0 192 (fun _ => 0) c) = sc (sc (sc s 12 (mp 0 192 (fun _ => 0) c)) 42 (uc (s 42) 0 0)) 43 (uc (s 43) 0 0) := by
        rw [uc_uc]
        funext k
        by_cases h12 : k = 12
        · subst h12; simp (disch := decide) only [sc_s, sc_k]
        by_cases h42 : k = 42
        · subst h42; simp (disch := decide) only [sc_s, sc_k]
        by_cases h43 : k = 43
        · subst h43; simp (disch := decide) only [sc_s, sc_k]
        simp only [sc, h12, h42, h43, if_false]
      have e2 : sc (sc (sc (sc m 105 c5) 141 c1) 104 (uc (m 104) 0 0)) 105 (uc c5 0 0) = sc (sc (sc m 104 (uc (m 104) 0 0)) 105 (uc c5 0 0)) 141 c1 := by
        funext k
        by_cases h104 : k = 104
        · subst h104; simp (disch := decide) only [sc_s, sc_k]
        by_cases h105 : k = 105
        · subst h105; simp (disch := decide) only [sc_s, sc_k]
        by_cases h141 : k = 141
        · subst h141; simp (disch := decide) only [sc_s, sc_k]
        simp only [sc, h104, h105, h141, if_false]
      rw [e1, e2]
      exact hR
    · intro k hk
      simp only [List.mem_cons, List.not_mem_nil, or_false, not_or] at hk
      simp only [sc, hk, if_false]
    · intro k hk
      simp only [List.mem_cons, List.not_mem_nil, or_false, not_or] at hk
      simp only [sc, hk, if_false]
    · simp (disch := decide) only [sc_s, sc_k, uc_s]
    · simp (disch := decide) only [sc_s, sc_k, uc_s]
      rw [if_pos h5]
  · have hp := e7_pass (τ := sc (sc s 12 c) 43 (uc (s 43) 0 32)) (S := S) (by simp (disch := decide) only [sc_s, sc_k]; exact hS) (by omega)
    rw [if_neg (by omega)] at hps
    have hR := R_sc (c12 := c) (c42 := uc (s 42) 0 (S + 1)) (c43 := uc (s 43) 0 0) (m104 := uc (m 104) 0 (32 * S + A + b)) (m105 := c5) (m141 := c1) (by
      unfold rSc
      simp only [uc_s]
      refine ⟨by omega, by omega, by decide, by decide, by omega, n1, by omega, fun k k0 k1 => ?_, n4, n5⟩
      have := n3 k k0 k1
      omega) h
    refine ⟨_, _, hp, hps, ?_, ?_, ?_, ?_, ?_⟩
    · have e1 : sc (sc (sc (sc s 12 c) 43 (uc (s 43) 0 32)) 43 (uc ((sc (sc s 12 c) 43 (uc (s 43) 0 32)) 43) 0 0)) 42 (uc ((sc (sc s 12 c) 43 (uc (s 43) 0 32)) 42) 0 (S + 1)) = sc (sc (sc s 12 c) 42 (uc (s 42) 0 (S + 1))) 43 (uc (s 43) 0 0) := by
        simp (disch := decide) only [sc_s, sc_k]
        rw [uc_uc]
        funext k
        by_cases h12 : k = 12
        · subst h12; simp (disch := decide) only [sc_s, sc_k]
        by_cases h42 : k = 42
        · subst h42; simp (disch := decide) only [sc_s, sc_k]
        by_cases h43 : k = 43
        · subst h43; simp (disch := decide) only [sc_s, sc_k]
        simp only [sc, h12, h42, h43, if_false]
      have e2 : sc (sc (sc m 105 c5) 141 c1) 104 (uc ((sc (sc m 105 c5) 141 c1) 104) 0 (32 * S + A + b)) = sc (sc (sc m 104 (uc (m 104) 0 (32 * S + A + b))) 105 c5) 141 c1 := by
        simp (disch := decide) only [sc_s, sc_k]
        funext k
        by_cases h104 : k = 104
        · subst h104; simp (disch := decide) only [sc_s, sc_k]
        by_cases h105 : k = 105
        · subst h105; simp (disch := decide) only [sc_s, sc_k]
        by_cases h141 : k = 141
        · subst h141; simp (disch := decide) only [sc_s, sc_k]
        simp only [sc, h104, h105, h141, if_false]
      rw [e1, e2]
      exact hR
    · intro k hk
      simp only [List.mem_cons, List.not_mem_nil, or_false, not_or] at hk
      simp only [sc, hk, if_false]
    · intro k hk
      simp only [List.mem_cons, List.not_mem_nil, or_false, not_or] at hk
      simp only [sc, hk, if_false]
    · simp (disch := decide) only [sc_s, sc_k, uc_s]
    · simp (disch := decide) only [sc_s, sc_k, uc_s]
      rw [if_neg h5]
theorem L_adv {B S A : Int} {c c5 c1 : Int → Int} {s m : S2} (hS : s 42 0 = S) (hS5 : 0 ≤ S ∧ S ≤ 5) (hA' : s 43 0 = A) (h104 : m 104 0 = 32 * S + A) (hA : 0 ≤ A ∧ A ≤ 31) (hn : rSn (32 * S + A + 1) c (s 3) c5 c1) (h : Rg (-1) (-1) B s m) : ∃ s3 m3, (∀ K : S2 → Option (Int × S2), (if 32 ≤ (sc (sc s 12 c) 43 (uc (s 43) 0 (A + 1))) 43 0 then cb (FX7_passToNextSpace (sc (sc s 12 c) 43 (uc (s 43) 0 (A + 1)))) fun r4 s10 => K s10 else K (sc (sc s 12 c) 43 (uc (s 43) 0 (A + 1)))) = K s3) ∧ FX8_passes 1 (sc (sc m 105 c5) 141 c1) = some (0, m3) ∧ Rg (-1) (-1) B s3 m3 ∧ (∀ k, k ∉ [12, 42, 43] → s3 k = s k) ∧ (∀ k, k ∉ [104, 105, 141] → m3 k = m k) ∧ (A < 31 ∧ s3 42 0 = S ∧ s3 43 0 = A + 1 ∨ A = 31 ∧ s3 43 0 = 0 ∧ s3 42 0 = (if S = 5 then 0 else S + 1)) := by
  by_cases h31 : A = 31
  · subst h31
    obtain ⟨s3, m3, a1, a2, a3, a4, a5, a6, a7⟩ := L_pass (b := 1) hS hS5 h104 hA (by decide) (by
      rw [show 32 * S + 32 = 32 * S + 31 + 1 by omega]
      exact hn) h
    refine ⟨s3, m3, fun K => ?_, a2, a3, a4, a5, Or.inr ⟨rfl, a6, a7⟩⟩
    rw [if_pos (by simp (disch := decide) only [sc_s, sc_k, uc_s]; decide), show (31 : Int) + 1 = 32 by decide, cb_e a1]
  · obtain ⟨n1, n2, n3, n4, n5⟩ := hn
    have hps := e8_passes (b := 1) (e := 32 * S + A) (μ := sc (sc m 105 c5) 141 c1) (by simp (disch := decide) only [sc_s, sc_k]; exact h104) (by decide) (by omega)
    rw [if_neg (by omega)] at hps
    have hR := R_sc (c12 := c) (c42 := s 42) (c43 := uc (s 43) 0 (A + 1)) (m104 := uc (m 104) 0 (32 * S + A + 1)) (m105 := c5) (m141 := c1) (by
      unfold rSc
      simp only [uc_s]
      refine ⟨by omega, by omega, by omega, by omega, by omega, n1, by omega, n3, n4, n5⟩) h
    refine ⟨_, _, fun K => ?_, hps, ?_, ?_, ?_, Or.inl ⟨by omega, ?_, ?_⟩⟩
    · exact sc (sc s 12 c) 43 (uc (s 43) 0 (A + 1))
    · rw [if_neg (by simp (disch := decide) only [sc_s, sc_k, uc_s]; omega)]
    · have e1 : sc (sc (sc s 12 c) 42 (s 42)) 43 (uc (s 43) 0 (A + 1)) = sc (sc s 12 c) 43 (uc (s 43) 0 (A + 1)) := by
        rw [sc_nop (σ := sc s 12 c) (k := 42) (by simp (disch := decide) only [sc_s, sc_k])]
      have e2 : sc (sc (sc m 105 c5) 141 c1) 104 (uc ((sc (sc m 105 c5) 141 c1) 104) 0 (32 * S + A + 1)) = sc (sc (sc m 104 (uc (m 104) 0 (32 * S + A + 1))) 105 c5) 141 c1 := by
        simp (disch := decide) only [sc_s, sc_k]
        funext k
        by_cases h104 : k = 104
        · subst h104; simp (disch := decide) only [sc_s, sc_k]
        by_cases h105 : k = 105
        · subst h105; simp (disch := decide) only [sc_s, sc_k]
        by_cases h141 : k = 141
        · subst h141; simp (disch := decide) only [sc_s, sc_k]
        simp only [sc, h104, h105, h141, if_false]
      rw [← e1, e2]
      exact hR
    · intro k hk
      simp only [List.mem_cons, List.not_mem_nil, or_false, not_or] at hk
      simp only [sc, hk, if_false]
    · intro k hk
      simp only [List.mem_cons, List.not_mem_nil, or_false, not_or] at hk
      simp only [sc, hk, if_false]
    · simp (disch := decide) only [sc_s, sc_k]
      exact hS
    · simp (disch := decide) only [sc_s, sc_k, uc_s]
def scG (r a : Int) : (Int → Int → Int → S2 → Option (Int × S2)) → Int → Int → Int → S2 → Option (Int × S2) := fun k1 (x_changed1 : Int) (x_gone1 : Int) (x_turn1 : Int) (s3 : S2) => if ((r ≠ 0) ∧ (x_gone1 < a)) ∧ (x_turn1 < 100000) then bn (fun (x_changed2 x_gone2 : Int) (s4 : S2) => bn (fun (s9 : S2) => k1 x_changed2 x_gone2 (x_turn1 + 1) s9) fun k4 => if 32 ≤ s4 43 0 then cb (FX7_passToNextSpace s4) fun r4 s10 => k4 s10 else k4 s4) fun k2 => if ((s3 42 0 < 6) ∧ (s3 43 0 < 32)) ∧ ((s3 35 (s3 42 0) ≠ 0) ∧ (s3 36 (s3 42 0) ≠ 0)) then bn (fun (v1 : Int) (s5 : S2) => gd (0 ≤ (s5 43 0) + 1 ∧ (s5 43 0) + 1 ≤ 32) <| bn (upd2 s5 43 0 ((s5 43 0) + 1)) fun s7 => gd ((-2147483648) ≤ x_changed1 + v1 ∧ x_changed1 + v1 ≤ 2147483647) <| k2 (x_changed1 + v1) (x_gone1 + 1) s7) fun k3 => cb (FX7_look (32 * (s3 42 0) + (s3 43 0)) s3) fun r3 s6 => if r3 ≠ 0 then k3 1 s6 else k3 0 s6 else bn (upd2 s3 43 0 32) fun s8 => k2 x_changed1 x_gone1 s8 else some (x_changed1, s3)
theorem scG_eq {r a x_changed1 x_gone1 x_turn1 : Int} {k1 : Int → Int → Int → S2 → Option (Int × S2)} {s3 : S2} : scG r a k1 x_changed1 x_gone1 x_turn1 s3 = if ((r ≠ 0) ∧ (x_gone1 < a)) ∧ (x_turn1 < 100000) then if ((s3 42 0 < 6) ∧ (s3 43 0 < 32)) ∧ ((s3 35 (s3 42 0) ≠ 0) ∧ (s3 36 (s3 42 0) ≠ 0)) then cb (FX7_look (32 * (s3 42 0) + (s3 43 0)) s3) fun r3 s6 => if r3 ≠ 0 then gd (0 ≤ (s6 43 0) + 1 ∧ (s6 43 0) + 1 ≤ 32) <| gd ((-2147483648) ≤ x_changed1 + 1 ∧ x_changed1 + 1 ≤ 2147483647) <| if 32 ≤ (upd2 s6 43 0 ((s6 43 0) + 1)) 43 0 then cb (FX7_passToNextSpace (upd2 s6 43 0 ((s6 43 0) + 1))) fun r4 s10 => k1 (x_changed1 + 1) (x_gone1 + 1) (x_turn1 + 1) s10 else k1 (x_changed1 + 1) (x_gone1 + 1) (x_turn1 + 1) (upd2 s6 43 0 ((s6 43 0) + 1)) else gd (0 ≤ (s6 43 0) + 1 ∧ (s6 43 0) + 1 ≤ 32) <| gd ((-2147483648) ≤ x_changed1 + 0 ∧ x_changed1 + 0 ≤ 2147483647) <| if 32 ≤ (upd2 s6 43 0 ((s6 43 0) + 1)) 43 0 then cb (FX7_passToNextSpace (upd2 s6 43 0 ((s6 43 0) + 1))) fun r4 s10 => k1 (x_changed1 + 0) (x_gone1 + 1) (x_turn1 + 1) s10 else k1 (x_changed1 + 0) (x_gone1 + 1) (x_turn1 + 1) (upd2 s6 43 0 ((s6 43 0) + 1)) else if 32 ≤ (upd2 s3 43 0 32) 43 0 then cb (FX7_passToNextSpace (upd2 s3 43 0 32)) fun r4 s10 => k1 x_changed1 x_gone1 (x_turn1 + 1) s10 else k1 x_changed1 x_gone1 (x_turn1 + 1) (upd2 s3 43 0 32) else some (x_changed1, s3) := rfl
def scI (k2 : Int → Int → S2 → Option (Int × S2)) (x_n1 x_k1 : Int) : (S2 → Option (Int × S2)) → S2 → Option (Int × S2) := fun k3 (s4 : S2) => if ¬ ((((0 ≤ (s4 104 0) / 32) ∧ ((s4 104 0) / 32 ≤ (s4 102 0) - 1)) ∧ (s4 106 ((s4 104 0) / 32) ≠ 0)) ∧ (s4 109 ((s4 104 0) / 32) ≠ 0)) then cb (FX8_passes (32 - ((s4 104 0) % 32)) s4) fun r2 s5 => k3 s5 else cb (FX8_scans (s4 104 0) s4) fun r3 s6 => cb (FX8_passes 1 s6) fun r4 s7 => gd ((-2147483648) ≤ x_n1 + r3 ∧ x_n1 + r3 ≤ 2147483647) <| k2 (x_n1 + r3) (x_k1 + 1) s7
theorem scI_eq {k2 : Int → Int → S2 → Option (Int × S2)} {x_n1 x_k1 : Int} {k3 : S2 → Option (Int × S2)} {s4 : S2} : scI k2 x_n1 x_k1 k3 s4 = if ¬ ((((0 ≤ (s4 104 0) / 32) ∧ ((s4 104 0) / 32 ≤ (s4 102 0) - 1)) ∧ (s4 106 ((s4 104 0) / 32) ≠ 0)) ∧ (s4 109 ((s4 104 0) / 32) ≠ 0)) then cb (FX8_passes (32 - ((s4 104 0) % 32)) s4) fun r2 s5 => k3 s5 else cb (FX8_scans (s4 104 0) s4) fun r3 s6 => cb (FX8_passes 1 s6) fun r4 s7 => gd ((-2147483648) ≤ x_n1 + r3 ∧ x_n1 + r3 ≤ 2147483647) <| k2 (x_n1 + r3) (x_k1 + 1) s7 := rfl
def scO (sm a : Int) : (Int → Int → S2 → Option (Int × S2)) → Int → Int → S2 → Option (Int × S2) := fun k2 (x_n1 : Int) (x_k1 : Int) (s3 : S2) => if (x_k1 < a) ∧ (sm ≠ 0) then gl0 1000 (scI k2 x_n1 x_k1) s3 else some (x_n1, s3)
theorem scO_eq {sm a x_n1 x_k1 : Int} {k2 : Int → Int → S2 → Option (Int × S2)} {s3 : S2} : scO sm a k2 x_n1 x_k1 s3 = if (x_k1 < a) ∧ (sm ≠ 0) then gl0 1000 (scI k2 x_n1 x_k1) s3 else some (x_n1, s3) := rfl
theorem gl3_e {β : Type} {n : Nat} {f : (Int → Int → Int → S2 → Option β) → Int → Int → Int → S2 → Option β} {a b c : Int} {s : S2} : gl3 (n + 1) f a b c s = f (gl3 n f) a b c s := rfl
theorem L_scan {a r sm z B : Int} (hr : r ≠ 0) (hsm : sm ≠ 0) (hz : 0 ≤ z ∧ z ≤ 5) (ha : a ≤ 192) : ∀ (n : Nat) (σ μ : S2) (ch g t : Int) (fC fI fO : Nat), Rg (-1) (-1) B σ μ → σ 35 z ≠ 0 → σ 36 z ≠ 0 → 0 ≤ g → g < a → 0 ≤ ch → ch ≤ g → 0 ≤ t → t + n < 100000 → (a - g) + 7 * ((a - g + σ 43 0) / 32) + (z - σ 42 0) % 6 ≤ n → n < fC → (z - σ 42 0) % 6 < fI → a - g ≤ fO → ∃ v s1 m1, gl3 fC (scG r a) ch g t σ = some (v, s1) ∧ gl0 fI (scI (gl2 fO (scO sm a)) ch g) μ = some (v, m1) ∧ Rg (-1) (-1) B s1 m1 ∧ 0 ≤ v ∧ v ≤ a ∧ m1 101 = μ 101 := by
  intro n
  induction n with
  | zero =>
    intro σ μ ch g t fC fI fO h h35 h36 g0 g1 c0 c1 t0 t1 hn hfC hfI hfO
    have := h.2.2.2.2.2.2.2.2.2.2.2.2.2.2.1.2.2.1
    omega
  | succ n ih =>
    intro σ μ ch g t fC fI fO h h35 h36 g0 g1 c0 c1 t0 t1 hn hfC hfI hfO
    have hh := h
    obtain ⟨⟨q102, q103, q106, q107, q108, q109, q110, q111, q116, q121, q122, q123, q124, q125, q130, q135, q140⟩, hSp, hMp, hPr, hHd, hFr, hLs, hBl, hWr, hC1, hC2, hC3, hRc, hRo, hSc, hSt, hBd⟩ := h
    obtain ⟨S, hS⟩ : ∃ S, S = σ 42 0 := ⟨_, rfl⟩
    obtain ⟨A, hA⟩ : ∃ A, A = σ 43 0 := ⟨_, rfl⟩
    have s1 := hSc.1
    have s2 := hSc.2.1
    have s3 := hSc.2.2.1
    have s4 := hSc.2.2.2.1
    have s5 := hSc.2.2.2.2.1
    rw [← hS] at s1 s2 s5 hn hfI
    rw [← hA] at s3 s4 s5 hn
    have hdiv : μ 104 0 / 32 = S := by omega
    have hmod : μ 104 0 % 32 = A := by omega
    obtain ⟨fC', rfl⟩ : ∃ k, fC = k + 1 := ⟨fC - 1, by omega⟩
    obtain ⟨fI', rfl⟩ : ∃ k, fI = k + 1 := ⟨fI - 1, by omega⟩
    have e102 : μ 102 0 = σ 41 0 := by rw [q102]
    by_cases hm : σ 35 S ≠ 0 ∧ σ 36 S ≠ 0
    · have hmade : S < σ 41 0 := made_lv ⟨s1, s2⟩ hm.1 hh
      obtain ⟨v, s2', m2', s, m, p1, p2, p3, p4, p5, p6, p7, p8, p9, p10⟩ := P_look (e := 32 * S + A) (by omega) s5 hh
      obtain ⟨c, hc⟩ : ∃ c, s2' = sc s 12 c := ⟨_, p6⟩
      obtain ⟨c5, c1', hc5⟩ : ∃ c5 c1', m2' = sc (sc m 105 c5) 141 c1' := ⟨_, _, p7⟩
      subst hc hc5
      simp (disch := decide) only [sc_s, sc_k] at p10
      have s42 : s 42 0 = S := by rw [p8 42 (by decide), hS]
      have s43 : s 43 0 = A := by rw [p8 43 (by decide), hA]
      obtain ⟨s3', m3', b1, b2, b3, b4, b5, b6⟩ := L_adv (B := B) (c := c) (c5 := c5) (c1 := c1') s42 ⟨s1, s2⟩ s43 (by rw [p9 104 (by decide)]; exact s5) ⟨s3, s4⟩ p10 p5
      have hstep : gl3 (fC' + 1) (scG r a) ch g t σ = gl3 fC' (scG r a) (ch + v) (g + 1) (t + 1) s3' := by
        rw [gl3_e, scG_eq, if_pos ⟨⟨hr, g1⟩, by omega⟩, ← hS, ← hA, if_pos ⟨⟨by omega, by omega⟩, hm⟩, cb_e p1]
        have hk := b1 (fun s10 => gl3 fC' (scG r a) (ch + v) (g + 1) (t + 1) s10)
        have hv : v = 0 ∨ v = 1 := by omega
        rcases hv with hv | hv
        · subst hv
          rw [if_neg (by decide), sc_k (show 43 ≠ 12 by decide), s43, gd_pos (by omega), gd_pos (by omega), u2_sc, sc_k (show 43 ≠ 12 by decide)]
          exact hk
        · subst hv
          rw [if_pos (by decide), sc_k (show 43 ≠ 12 by decide), s43, gd_pos (by omega), gd_pos (by omega), u2_sc, sc_k (show 43 ≠ 12 by decide)]
          exact hk
      have hstep8 : gl0 (fI' + 1) (scI (gl2 fO (scO sm a)) ch g) μ = gl2 fO (scO sm a) (ch + v) (g + 1) m3' := by
        rw [gl0_e, scI_eq, hdiv, s5, if_neg (fun z => z (by rw [e102, q106, q109]; exact ⟨⟨⟨s1, by omega⟩, hm.1⟩, hm.2⟩)), cb_e p2, cb_e b2, gd_pos (by omega)]
      have t35 : s3' 35 = σ 35 := (b4 35 (by decide)).trans (p8 35 (by decide))
      have t36 : s3' 36 = σ 36 := (b4 36 (by decide)).trans (p8 36 (by decide))
      have t101 : m3' 101 = μ 101 := (b5 101 (by decide)).trans (p9 101 (by decide))
      obtain ⟨fO', rfl⟩ : ∃ k, fO = k + 1 := ⟨fO - 1, by omega⟩
      by_cases hend : g + 1 < a
      · obtain ⟨w, s4', m4', d1, d2, d3, d4, d5, d6⟩ := ih s3' m3' (ch + v) (g + 1) (t + 1) fC' 1000 fO' b3 (by rw [t35]; exact h35) (by rw [t36]; exact h36) (by omega) hend (by omega) (by omega) (by omega) (by omega) (by
          rcases b6 with ⟨w1, w2, w3⟩ | ⟨w1, w2, w3⟩
          · rw [w2, w3]
            omega
          · rw [w2, w3]
            split <;> omega) (by omega) (by omega) (by omega)
        refine ⟨w, s4', m4', hstep.trans d1, hstep8.trans ?_, d3, d4, d5, d6.trans t101⟩
        rw [gl2_e, scO_eq, if_pos ⟨hend, hsm⟩]
        exact d2
      · refine ⟨ch + v, s3', m3', hstep.trans ?_, hstep8.trans ?_, b3, by omega, by omega, t101⟩
        · obtain ⟨fC'', rfl⟩ : ∃ k, fC' = k + 1 := ⟨fC' - 1, by omega⟩
          rw [gl3_e, scG_eq, if_neg (fun z => hend z.1.2)]
        · rw [gl2_e, scO_eq, if_neg (fun z => hend z.1)]
    · have hSz : S ≠ z := fun w => hm (by rw [w]; exact ⟨h35, h36⟩)
      obtain ⟨s3', m3', b1, b2, b3, b4, b5, b6, b7⟩ := L_pass (B := B) (S := S) (A := A) (b := 32 - A) (c := σ 12) (c5 := μ 105) (c1 := μ 141) hS.symm ⟨s1, s2⟩ s5 ⟨s3, s4⟩ rfl (rSn_of (by omega) hSc) hh
      rw [sc_nop (σ := σ) (k := 12) rfl] at b1
      rw [sc_nop (σ := μ) (k := 105) rfl, sc_nop (σ := μ) (k := 141) rfl] at b2
      have t35 : s3' 35 = σ 35 := b4 35 (by decide)
      have t36 : s3' 36 = σ 36 := b4 36 (by decide)
      have t101 : m3' 101 = μ 101 := b5 101 (by decide)
      obtain ⟨w, s4', m4', d1, d2, d3, d4, d5, d6⟩ := ih s3' m3' ch g (t + 1) fC' fI' fO b3 (by rw [t35]; exact h35) (by rw [t36]; exact h36) g0 g1 c0 c1 (by omega) (by omega) (by
        rw [b6, b7]
        split <;> omega) (by omega) (by
        rw [b7]
        split <;> omega) hfO
      refine ⟨w, s4', m4', ?_, ?_, d3, d4, d5, d6.trans t101⟩
      · rw [gl3_e, scG_eq, if_pos ⟨⟨hr, g1⟩, by omega⟩, ← hS, if_neg (fun w => hm w.2), u2_sc, if_pos (by simp (disch := decide) only [sc_s, sc_k, uc_s]; decide), cb_e b1]
        exact d1
      · rw [gl0_e, scI_eq, hdiv, hmod, if_pos (fun w => hm (by rw [q106, q109] at w; exact ⟨w.1.2, w.2⟩)), cb_e b2]
        exact d2
theorem s_scan : gSim_scan Iv := by
  intro n σ μ a hI hn ha
  have h := hI
  unfold Iv at h
  by_cases h1 : (1 ≤ a) ∧ (a ≤ 192)
  · have hT := R_tw (c := 0) h
    have hany := e7_isSome (σ := σ)
    have hr := anyI_r (fun s => (σ 35 s ≠ 0) ∧ (σ 36 s ≠ 0)) 6
    have m102 : tw 0 μ 102 = σ 41 := hT.1.1
    have m106 : tw 0 μ 106 = σ 35 := hT.1.2.2.1
    have m109 : tw 0 μ 109 = σ 36 := hT.1.2.2.2.2.2.1
    have h41 := hT.2.1.1
    have h416 := hT.2.1.2.1
    have hlv := hT.2.1.2.2.2.1
    obtain ⟨N, hN⟩ := Int.eq_ofNat_of_zero_le h41
    have hN2 : tw 0 μ 102 0 = N := by rw [m102]; exact hN
    have heq : anyI (fun s => (((0 ≤ s) ∧ (s ≤ (tw 0 μ 102 0) - 1)) ∧ (tw 0 μ 106 s ≠ 0)) ∧ (tw 0 μ 109 s ≠ 0)) N = anyI (fun s => (σ 35 s ≠ 0) ∧ (σ 36 s ≠ 0)) 6 := by
      refine anyI_cg ?_
      rw [hN2, m106, m109]
      constructor
      · rintro ⟨i, i0, i1, i2⟩
        exact ⟨i, i0, by omega, i2.1.2, i2.2⟩
      · rintro ⟨i, i0, i1, i2⟩
        have hi : i < σ 41 0 := by
          apply Classical.byContradiction
          intro q
          exact i2.1 (hlv i (by omega) (by omega))
        exact ⟨i, i0, by omega, ⟨⟨i0, by omega⟩, i2.1⟩, i2.2⟩
    have hloop : gl2 1000 (fun k1 (x_some1 : Int) (x_s1 : Int) (s2 : S2) => if x_s1 < s2 102 0 then k1 (gOr x_some1 (if (((0 ≤ x_s1) ∧ (x_s1 ≤ (s2 102 0) - 1)) ∧ (s2 106 x_s1 ≠ 0)) ∧ (s2 109 x_s1 ≠ 0) then 1 else 0 : Int)) (x_s1 + 1) s2 else gl2 1000 (scO x_some1 a) 0 0 s2) 0 0 (tw 0 μ) = gl2 1000 (scO (anyI (fun s => (σ 35 s ≠ 0) ∧ (σ 36 s ≠ 0)) 6) a) 0 0 (tw 0 μ) := by
      rw [← heq]
      exact gl2_any (P := fun s => (((0 ≤ s) ∧ (s ≤ (tw 0 μ 102 0) - 1)) ∧ (tw 0 μ 106 s ≠ 0)) ∧ (tw 0 μ 109 s ≠ 0)) (N := N) (Z := fun sm => gl2 1000 (scO sm a) 0 0 (tw 0 μ)) (by omega) (fun k j b hj => if_pos (by omega)) (fun k b => if_neg (by omega))
    by_cases h0 : anyI (fun s => (σ 35 s ≠ 0) ∧ (σ 36 s ≠ 0)) 6 = 0
    · refine ⟨0, σ, 0, tw 0 μ, ?_, ?_, Or.inl (gx_0 (by omega)), by rw [gx_0 (by omega)]; exact tw_0, fun _ => rfl, iv_ok (B := 4000000 * (n : Int)) (by omega) hT⟩
      · unfold FX7_scan
        refine rgx_eq ?_ (Or.inr (by omega))
        rw [gd_pos ha, cb_e (x_dem h1), if_neg (by decide), cb_e hany, h0]
        show gl3 (999 + 1) (scG 0 a) 0 0 0 σ = _
        rw [gl3_e, scG_eq, if_neg (fun w => w.1.1 rfl)]
      · unfold FX8_scan
        refine rgd_eq ?_ (by omega) (by omega)
        rw [gd_pos ha, cb_e (q_1 h1), if_pos (by decide)]
        refine Eq.trans hloop ?_
        rw [h0, gl2_e (n := 999), scO_eq, if_neg (fun w => w.2 rfl)]
    · obtain ⟨z, z0, z1, z2⟩ := anyI_iff.mp h0
      have hSc := hT.2.2.2.2.2.2.2.2.2.2.2.2.2.2.1
      have s3 := hSc.2.2.1
      have s4 := hSc.2.2.2.1
      obtain ⟨v, s1, m1, b1, b2, b3, b4, b5, b6⟩ := L_scan (r := anyI (fun s => (σ 35 s ≠ 0) ∧ (σ 36 s ≠ 0)) 6) (sm := anyI (fun s => (σ 35 s ≠ 0) ∧ (σ 36 s ≠ 0)) 6) (z := z) h0 h0 (by omega) h1.2 300 σ (tw 0 μ) 0 0 0 1000 1000 999 hT z2.1 z2.2 (by decide) (by omega) (by decide) (by decide) (by decide) (by decide) (by omega) (by decide) (by omega) (by omega)
      refine ⟨v, s1, v, m1, ?_, ?_, Or.inl (gx_0 (by omega)), ?_, fun _ => rfl, iv_ok (B := 4000000 * (n : Int)) (by omega) b3⟩
      · unfold FX7_scan
        refine rgx_eq ?_ (Or.inr (by omega))
        rw [gd_pos ha, cb_e (x_dem h1), if_neg (by decide), cb_e hany]
        exact b1
      · unfold FX8_scan
        refine rgd_eq ?_ (by omega) (by omega)
        rw [gd_pos ha, cb_e (q_1 h1), if_pos (by decide)]
        refine Eq.trans hloop ?_
        rw [gl2_e (n := 999), scO_eq, if_pos ⟨by omega, h0⟩]
        exact b2
      · rw [gx_0 (by omega), b6]
        exact tw_0
  · refine ⟨-1000000000002, σ, 0, tw 1 μ, ?_, ?_, by decide, by rw [gx_2]; exact tw_0, fun z => absurd z (by decide), iv_th hI⟩
    · unfold FX7_scan
      refine rgx_eq ?_ (Or.inl (by decide))
      rw [gd_pos ha, cb_e (x_demN h1), if_pos (by decide)]
    · unfold FX8_scan
      refine rgd_eq ?_ (by decide) (by decide)
      rw [gd_pos ha, cb_e (q_1N h1), if_neg (by decide)]
theorem s_all : gSimAll Iv := ⟨fun n σ μ h => R_B (B := 4000000 * (n : Int)) (by omega) h, s_space, s_map, s_unmap, s_protect, s_move, s_fork, s_end, s_adjust, s_limit, s_load, s_store, s_read, s_write, s_sync, s_disk, s_reclaim, s_handle, s_join, s_merge, s_scan, s_entry, s_frame, s_list, s_about, s_count⟩
