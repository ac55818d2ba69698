/-! calls: scan: on to the next space -/
theorem L_pass {B S A b : Int} {c c5 c1 : Int → Int} {s m : S2} (hS : s 42 0 = S) (hS5 : 0 ≤ S ∧ S ≤ 5) (h104 : m 104 0 = 32 * S + A) (hA : 0 ≤ A ∧ A ≤ 31) (hb : b = 32 - A) (hn : rSn (32 * S + 32) c (s 3) c5 c1) (h : Rg (-1) (-1) B s m) : ∃ s3 m3, FX7_passToNextSpace (sc (sc s 12 c) 43 (uc (s 43) 0 32)) = some (0, s3) ∧ FX8_passes b (sc (sc m 105 c5) 141 c1) = some (0, m3) ∧ Rg (-1) (-1) B s3 m3 ∧ (∀ k, k ∉ [12, 42, 43] → s3 k = s k) ∧ (∀ k, k ∉ [104, 105, 141] → m3 k = m k) ∧ s3 43 0 = 0 ∧ s3 42 0 = (if S = 5 then 0 else S + 1) := by
  obtain ⟨n1, n2, n3, n4, n5⟩ := hn
  have hps := e8_passes (b := b) (e := 32 * S + A) (μ := sc (sc m 105 c5) 141 c1) (by simp (disch := decide) only [sc_s, sc_k]; exact h104) (by omega) (by omega)
  by_cases h5 : S = 5
  · have hp := e7_pass5 (τ := sc (sc s 12 c) 43 (uc (s 43) 0 32)) (by simp (disch := decide) only [sc_s, sc_k]; rw [hS, h5])
    rw [if_pos (by omega)] at hps
    have hR := R_sc (c12 := mp 0 192 (fun _ => 0) c) (c42 := uc (s 42) 0 0) (c43 := uc (s 43) 0 0) (m104 := uc (m 104) 0 0) (m105 := uc c5 0 0) (m141 := c1) (by
      unfold rSc
      simp only [uc_s]
      refine ⟨by decide, by decide, by decide, by decide, by decide, by decide, by decide, fun k k0 k1 => by omega, fun j k j0 j1 k1 => by omega, fun d d0 d1 => ?_⟩
      unfold mp
      rw [if_pos (by omega)]
      exact ⟨Int.le_refl 0, (show (0 : Int) ≤ 1 by decide), ⟨fun z => absurd rfl z, fun ⟨k, k0, k1, _⟩ => by omega⟩, fun z => absurd rfl z⟩) h
    refine ⟨_, _, hp, hps, ?_, ?_, ?_, ?_, ?_⟩
    · simp (disch := decide) only [sc_s, sc_k]
      have e1 : sc (sc (sc (sc (sc s 12 c) 43 (uc (s 43) 0 32)) 43 (uc (uc (s 43) 0 32) 0 0)) 42 (uc (s 42) 0 0)) 12 (mp 0 192 (fun _ => 0) c) = sc (sc (sc s 12 (mp 0 192 (fun _ => 0) c)) 42 (uc (s 42) 0 0)) 43 (uc (s 43) 0 0) := by
        rw [uc_uc]
        funext k
        by_cases h12 : k = 12
        · subst h12; simp (disch := decide) only [sc_s, sc_k]
        by_cases h42 : k = 42
        · subst h42; simp (disch := decide) only [sc_s, sc_k]
        by_cases h43 : k = 43
        · subst h43; simp (disch := decide) only [sc_s, sc_k]
        simp only [sc, h12, h42, h43, if_false]
      have e2 : sc (sc (sc (sc m 105 c5) 141 c1) 104 (uc (m 104) 0 0)) 105 (uc c5 0 0) = sc (sc (sc m 104 (uc (m 104) 0 0)) 105 (uc c5 0 0)) 141 c1 := by
        funext k
        by_cases h104 : k = 104
        · subst h104; simp (disch := decide) only [sc_s, sc_k]
        by_cases h105 : k = 105
        · subst h105; simp (disch := decide) only [sc_s, sc_k]
        by_cases h141 : k = 141
        · subst h141; simp (disch := decide) only [sc_s, sc_k]
        simp only [sc, h104, h105, h141, if_false]
      rw [e1, e2]
      exact hR
    · intro k hk
      simp only [List.mem_cons, List.not_mem_nil, or_false, not_or] at hk
      simp only [sc, hk, if_false]
    · intro k hk
      simp only [List.mem_cons, List.not_mem_nil, or_false, not_or] at hk
      simp only [sc, hk, if_false]
    · simp (disch := decide) only [sc_s, sc_k, uc_s]
    · simp (disch := decide) only [sc_s, sc_k, uc_s]
      rw [if_pos h5]
  · have hp := e7_pass (τ := sc (sc s 12 c) 43 (uc (s 43) 0 32)) (S := S) (by simp (disch := decide) only [sc_s, sc_k]; exact hS) (by omega)
    rw [if_neg (by omega)] at hps
    have hR := R_sc (c12 := c) (c42 := uc (s 42) 0 (S + 1)) (c43 := uc (s 43) 0 0) (m104 := uc (m 104) 0 (32 * S + A + b)) (m105 := c5) (m141 := c1) (by
      unfold rSc
      simp only [uc_s]
      refine ⟨by omega, by omega, by decide, by decide, by omega, n1, by omega, fun k k0 k1 => ?_, n4, n5⟩
      have := n3 k k0 k1
      omega) h
    refine ⟨_, _, hp, hps, ?_, ?_, ?_, ?_, ?_⟩
    · have e1 : sc (sc (sc (sc s 12 c) 43 (uc (s 43) 0 32)) 43 (uc ((sc (sc s 12 c) 43 (uc (s 43) 0 32)) 43) 0 0)) 42 (uc ((sc (sc s 12 c) 43 (uc (s 43) 0 32)) 42) 0 (S + 1)) = sc (sc (sc s 12 c) 42 (uc (s 42) 0 (S + 1))) 43 (uc (s 43) 0 0) := by
        simp (disch := decide) only [sc_s, sc_k]
        rw [uc_uc]
        funext k
        by_cases h12 : k = 12
        · subst h12; simp (disch := decide) only [sc_s, sc_k]
        by_cases h42 : k = 42
        · subst h42; simp (disch := decide) only [sc_s, sc_k]
        by_cases h43 : k = 43
        · subst h43; simp (disch := decide) only [sc_s, sc_k]
        simp only [sc, h12, h42, h43, if_false]
      have e2 : sc (sc (sc m 105 c5) 141 c1) 104 (uc ((sc (sc m 105 c5) 141 c1) 104) 0 (32 * S + A + b)) = sc (sc (sc m 104 (uc (m 104) 0 (32 * S + A + b))) 105 c5) 141 c1 := by
        simp (disch := decide) only [sc_s, sc_k]
        funext k
        by_cases h104 : k = 104
        · subst h104; simp (disch := decide) only [sc_s, sc_k]
        by_cases h105 : k = 105
        · subst h105; simp (disch := decide) only [sc_s, sc_k]
        by_cases h141 : k = 141
        · subst h141; simp (disch := decide) only [sc_s, sc_k]
        simp only [sc, h104, h105, h141, if_false]
      rw [e1, e2]
      exact hR
    · intro k hk
      simp only [List.mem_cons, List.not_mem_nil, or_false, not_or] at hk
      simp only [sc, hk, if_false]
    · intro k hk
      simp only [List.mem_cons, List.not_mem_nil, or_false, not_or] at hk
      simp only [sc, hk, if_false]
    · simp (disch := decide) only [sc_s, sc_k, uc_s]
    · simp (disch := decide) only [sc_s, sc_k, uc_s]
      rw [if_neg h5]
