/-! calls: scan: on to the next address -/
theorem L_adv {B S A : Int} {c c5 c1 : Int → Int} {s m : S2} (hS : s 42 0 = S) (hS5 : 0 ≤ S ∧ S ≤ 5) (hA' : s 43 0 = A) (h104 : m 104 0 = 32 * S + A) (hA : 0 ≤ A ∧ A ≤ 31) (hn : rSn (32 * S + A + 1) c (s 3) c5 c1) (h : Rg (-1) (-1) B s m) : ∃ s3 m3, (∀ K : S2 → Option (Int × S2), (if 32 ≤ (sc (sc s 12 c) 43 (uc (s 43) 0 (A + 1))) 43 0 then cb (FX7_passToNextSpace (sc (sc s 12 c) 43 (uc (s 43) 0 (A + 1)))) fun r4 s10 => K s10 else K (sc (sc s 12 c) 43 (uc (s 43) 0 (A + 1)))) = K s3) ∧ FX8_passes 1 (sc (sc m 105 c5) 141 c1) = some (0, m3) ∧ Rg (-1) (-1) B s3 m3 ∧ (∀ k, k ∉ [12, 42, 43] → s3 k = s k) ∧ (∀ k, k ∉ [104, 105, 141] → m3 k = m k) ∧ (A < 31 ∧ s3 42 0 = S ∧ s3 43 0 = A + 1 ∨ A = 31 ∧ s3 43 0 = 0 ∧ s3 42 0 = (if S = 5 then 0 else S + 1)) := by
  by_cases h31 : A = 31
  · subst h31
    obtain ⟨s3, m3, a1, a2, a3, a4, a5, a6, a7⟩ := L_pass (b := 1) hS hS5 h104 hA (by decide) (by
      rw [show 32 * S + 32 = 32 * S + 31 + 1 by omega]
      exact hn) h
    refine ⟨s3, m3, fun K => ?_, a2, a3, a4, a5, Or.inr ⟨rfl, a6, a7⟩⟩
    rw [if_pos (by simp (disch := decide) only [sc_s, sc_k, uc_s]; decide), show (31 : Int) + 1 = 32 by decide, cb_e a1]
  · obtain ⟨n1, n2, n3, n4, n5⟩ := hn
    have hps := e8_passes (b := 1) (e := 32 * S + A) (μ := sc (sc m 105 c5) 141 c1) (by simp (disch := decide) only [sc_s, sc_k]; exact h104) (by decide) (by omega)
    rw [if_neg (by omega)] at hps
    have hR := R_sc (c12 := c) (c42 := s 42) (c43 := uc (s 43) 0 (A + 1)) (m104 := uc (m 104) 0 (32 * S + A + 1)) (m105 := c5) (m141 := c1) (by
      unfold rSc
      simp only [uc_s]
      refine ⟨by omega, by omega, by omega, by omega, by omega, n1, by omega, n3, n4, n5⟩) h
    refine ⟨sc (sc s 12 c) 43 (uc (s 43) 0 (A + 1)), _, fun K => ?_, hps, ?_, ?_, ?_, Or.inl ⟨by omega, ?_, ?_⟩⟩
    · rw [if_neg (by simp (disch := decide) only [sc_s, sc_k, uc_s]; omega)]
    · have e1 : sc (sc (sc s 12 c) 42 (s 42)) 43 (uc (s 43) 0 (A + 1)) = sc (sc s 12 c) 43 (uc (s 43) 0 (A + 1)) := by
        rw [sc_nop (σ := sc s 12 c) (k := 42) (by simp (disch := decide) only [sc_s, sc_k])]
      have e2 : sc (sc (sc m 105 c5) 141 c1) 104 (uc ((sc (sc m 105 c5) 141 c1) 104) 0 (32 * S + A + 1)) = sc (sc (sc m 104 (uc (m 104) 0 (32 * S + A + 1))) 105 c5) 141 c1 := by
        simp (disch := decide) only [sc_s, sc_k]
        funext k
        by_cases h104 : k = 104
        · subst h104; simp (disch := decide) only [sc_s, sc_k]
        by_cases h105 : k = 105
        · subst h105; simp (disch := decide) only [sc_s, sc_k]
        by_cases h141 : k = 141
        · subst h141; simp (disch := decide) only [sc_s, sc_k]
        simp only [sc, h104, h105, h141, if_false]
      rw [← e1, e2]
      exact hR
    · intro k hk
      simp only [List.mem_cons, List.not_mem_nil, or_false, not_or] at hk
      simp only [sc, hk, if_false]
    · intro k hk
      simp only [List.mem_cons, List.not_mem_nil, or_false, not_or] at hk
      simp only [sc, hk, if_false]
    · simp (disch := decide) only [sc_s, sc_k]
      exact hS
    · simp (disch := decide) only [sc_s, sc_k, uc_s]
