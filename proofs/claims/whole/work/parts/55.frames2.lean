/-! a frame for a new page: the group's limit, the whole -/
theorem P_isAt {x y B g : Int} {σ μ : S2} (hg : 0 ≤ g ∧ g ≤ 2) (h : Rg x y B σ μ) : FX7_isAtLimit g σ = some (if σ 47 g ≠ -1 ∧ σ 47 g ≤ cntI (isP σ g) 24 then 1 else 0, σ) := by
  have hp := P_pages (g := g) (by omega) h
  unfold FX7_isAtLimit
  refine rgd_eq ?_ (by split <;> omega) (by split <;> omega)
  rw [gd_pos hg]
  simp only [bn]
  by_cases h1 : σ 47 g = -1
  · rw [if_neg (fun z => z.2 h1), if_neg (fun z => z.1 h1)]
  · rw [if_pos ⟨⟨hg.1, by omega⟩, h1⟩, cb_e hp.1]
    by_cases h2 : σ 47 g ≤ cntI (isP σ g) 24
    · rw [if_pos h2, if_pos ⟨h1, h2⟩]
    · rw [if_neg h2, if_neg (fun z => h2 z.2)]
theorem L_take1 {g q : Int} (hg : 0 ≤ g ∧ g ≤ 2) (hq : -1 ≤ q ∧ q ≤ 5) (KC : Int → S2 → Option (Int × S2)) (KM : S2 → Option (Int × S2)) : ∀ (n : Nat) (B : Int) (σ μ : S2) (x lm : Int) (fC fM : Nat), B + 2100 * n ≤ 2147483647 → Rg (-1) (-1) B σ μ → msI σ < n → 0 ≤ x → x + 2 * n < 100000 → 2 * n < fC → 2 * n < fM → lm = (if σ 47 g ≠ -1 then 1 else 0) → (∃ s1 m1, gl1 fC (fun k2 (x_turn2 : Int) (s2 : S2) => bn (fun (s3 : S2) => bn (fun (s6 : S2) => gd (0 ≤ x_turn2 + 1 ∧ x_turn2 + 1 ≤ 100000) <| k2 (x_turn2 + 1) s6) fun k5 => cb (FX7_evictOne g s3) fun r2 s7 => if r2 ≠ 0 then k5 s7 else cb (FX7_victim g s7) fun r3 s8 => if r3 < 0 then KC x_turn2 s8 else cb (FX7_bury r3 s8) fun r4 s9 => bn (upd2 s9 48 7 ((s9 48 7) + 1)) fun s10 => if r3 = q then some ((-4), s10) else k5 s10) fun k3 => bn (fun (s4 : S2) => KC x_turn2 s4) fun k4 => if x_turn2 < 100000 then cb (FX7_isAtLimit g s2) fun r1 s5 => if r1 ≠ 0 then k3 s5 else k4 s5 else k4 s2) x σ = some (-4, s1) ∧ gl1 fM (fun k1 (x_limited1 : Int) (s1 : S2) => bn (fun (s2 : S2) => bn (fun (x_limited2 : Int) (s16 : S2) => k1 x_limited2 s16) fun k10 => cb (FX8_evicts g s2) fun r7 s17 => if r7 ≠ 0 then k10 x_limited1 s17 else cb (FX8_kills g s17) fun r8 s18 => if (r8 = q) ∧ (q ≠ (-1)) then some ((-4), s18) else gd (0 ≤ (if r8 ≠ (-1) then 1 else 0 : Int) ∧ (if r8 ≠ (-1) then 1 else 0 : Int) ≤ 1) <| k10 (if r8 ≠ (-1) then 1 else 0 : Int) s18) fun k2 => bn (fun (s3 : S2) => KM s3) fun k3 => if x_limited1 ≠ 0 then cb (FX8_pagesOf g s1) fun r1 s4 => if s4 110 g ≤ r1 then k2 s4 else k3 s4 else k3 s1) lm μ = some (-4, m1) ∧ Rg (-1) (-1) (B + 2100 * n) s1 m1 ∧ WF σ μ s1 m1 ∧ 0 ≤ q) ∨ ∃ t s1 m1, gl1 fC (fun k2 (x_turn2 : Int) (s2 : S2) => bn (fun (s3 : S2) => bn (fun (s6 : S2) => gd (0 ≤ x_turn2 + 1 ∧ x_turn2 + 1 ≤ 100000) <| k2 (x_turn2 + 1) s6) fun k5 => cb (FX7_evictOne g s3) fun r2 s7 => if r2 ≠ 0 then k5 s7 else cb (FX7_victim g s7) fun r3 s8 => if r3 < 0 then KC x_turn2 s8 else cb (FX7_bury r3 s8) fun r4 s9 => bn (upd2 s9 48 7 ((s9 48 7) + 1)) fun s10 => if r3 = q then some ((-4), s10) else k5 s10) fun k3 => bn (fun (s4 : S2) => KC x_turn2 s4) fun k4 => if x_turn2 < 100000 then cb (FX7_isAtLimit g s2) fun r1 s5 => if r1 ≠ 0 then k3 s5 else k4 s5 else k4 s2) x σ = KC t s1 ∧ gl1 fM (fun k1 (x_limited1 : Int) (s1 : S2) => bn (fun (s2 : S2) => bn (fun (x_limited2 : Int) (s16 : S2) => k1 x_limited2 s16) fun k10 => cb (FX8_evicts g s2) fun r7 s17 => if r7 ≠ 0 then k10 x_limited1 s17 else cb (FX8_kills g s17) fun r8 s18 => if (r8 = q) ∧ (q ≠ (-1)) then some ((-4), s18) else gd (0 ≤ (if r8 ≠ (-1) then 1 else 0 : Int) ∧ (if r8 ≠ (-1) then 1 else 0 : Int) ≤ 1) <| k10 (if r8 ≠ (-1) then 1 else 0 : Int) s18) fun k2 => bn (fun (s3 : S2) => KM s3) fun k3 => if x_limited1 ≠ 0 then cb (FX8_pagesOf g s1) fun r1 s4 => if s4 110 g ≤ r1 then k2 s4 else k3 s4 else k3 s1) lm μ = KM m1 ∧ Rg (-1) (-1) (B + 2100 * n) s1 m1 ∧ WF σ μ s1 m1 ∧ (0 ≤ q → s1 35 q = σ 35 q)
  | n, B, σ, μ, x, lm, 0, fM, _, _, _, _, _, hf, _, _ => absurd hf (Nat.not_lt_zero _)
  | n, B, σ, μ, x, lm, fC + 1, 0, _, _, _, _, _, _, hf, _ => absurd hf (Nat.not_lt_zero _)
  | 0, B, σ, μ, x, lm, fC + 1, fM + 1, hB, h, hn, hx, hx2, hfC, hfM, hlm => by
    have := ms_r σ
    omega
  | n + 1, B, σ, μ, x, lm, fC + 1, fM + 1, hB, h, hn, hx, hx2, hfC, hfM, hlm => by
    have hat := P_isAt hg h
    have hpg := P_pages (g := g) (by omega) h
    have q110 : μ 110 = σ 47 := h.1.2.2.2.2.2.2.1
    by_cases hlim : σ 47 g ≠ -1 ∧ σ 47 g ≤ cntI (isP σ g) 24
    · rw [if_pos hlim] at hat
      rw [if_pos hlim.1] at hlm
      obtain ⟨b, s1, m1, c1, c2, c3, c4, c5⟩ := P_evict (g := g) (by omega) (by omega) h
      have s35 : s1 35 = σ 35 := c5.1 35 (by decide)
      have s47 : s1 47 = σ 47 := c5.1 47 (by decide)
      rcases c4 with ⟨hb, c4⟩ | ⟨hb, f, f0, f1, f2, f3⟩
      · subst hb
        obtain ⟨v, m3, d1, d2, d3⟩ := P_kill (g := g) (by omega) c3
        rcases d3 with ⟨hv, d3, d4⟩ | ⟨v0, v1, hV, s4, m4, e1, e2, e3, e4⟩
        · -- nobody is left: the limit counts no more
          right
          obtain ⟨n', rfl⟩ : ∃ n', fM = n' + 1 := ⟨fM - 1, by omega⟩
          refine ⟨x, s1, m3, ?_, ?_, by rw [d3]; exact R_B (by omega) c3, by rw [d3]; exact WF_EF c5, fun _ => by rw [s35]⟩
          · rw [gl1_e]
            simp only [bn]
            rw [if_pos (by omega), cb_e hat, if_pos (by decide), cb_e c1, if_neg (fun z => z rfl), cb_e d1, if_pos (by omega)]
          · rw [gl1_e]
            simp only [bn]
            rw [if_pos (by omega), cb_e hpg.2.1, if_pos (by rw [q110]; exact hlim.2), cb_e c2, if_neg (fun z => z rfl), cb_e d2, if_neg (fun z => z.2 (by omega)), if_neg (fun z => z hv), gd_pos (by decide), gl1_e]
            rw [if_neg (fun z => z rfl)]
        · have hWF1 := WF_tr (WF_EF c5) (WF_BF ⟨v0, v1⟩ e4 e3 e2)
          have t35 : (sc s4 48 (uc (s4 48) 7 (s4 48 7 + 1))) 35 = uc (σ 35) v 0 := by
            rw [sc_k (by decide), e4.2.2.2.2.2, s35]
          have t47 : (sc s4 48 (uc (s4 48) 7 (s4 48 7 + 1))) 47 = σ 47 := by
            rw [sc_k (by decide), e4.1 47 (by decide), s47]
          have hlv : σ 35 v ≠ 0 := by rw [← s35]; exact hV.1
          by_cases hvq : v = q
          · left
            refine ⟨sc s4 48 (uc (s4 48) 7 (s4 48 7 + 1)), m3, ?_, ?_, R_B (by omega) e2, hWF1, by omega⟩
            · rw [gl1_e]
              simp only [bn]
              rw [if_pos (by omega), cb_e hat, if_pos (by decide), cb_e c1, if_neg (fun z => z rfl), cb_e d1, if_neg (by omega), cb_e e1, if_pos hvq, u2_sc]
            · rw [gl1_e]
              simp only [bn]
              rw [if_pos (by omega), cb_e hpg.2.1, if_pos (by rw [q110]; exact hlim.2), cb_e c2, if_neg (fun z => z rfl), cb_e d2, if_pos ⟨hvq, by omega⟩]
          · have hms : msI (sc s4 48 (uc (s4 48) 7 (s4 48 7 + 1))) + 1 ≤ msI σ := ms_ki ⟨v0, v1⟩ hlv (fun f => by
              rw [sc_k (by decide)]
              have := e4.2.2.2.2.1 f
              rw [c4] at this
              exact this) t35
            have ih := L_take1 hg hq KC KM n (B + 2100) _ m3 (x + 1) 1 fC fM (by omega) (R_B (by omega) e2) (by omega) (by omega) (by omega) (by omega) (by omega) (by rw [t47, if_pos hlim.1])
            have hCl : ∀ o, gl1 fC (fun k2 (x_turn2 : Int) (s2 : S2) => bn (fun (s3 : S2) => bn (fun (s6 : S2) => gd (0 ≤ x_turn2 + 1 ∧ x_turn2 + 1 ≤ 100000) <| k2 (x_turn2 + 1) s6) fun k5 => cb (FX7_evictOne g s3) fun r2 s7 => if r2 ≠ 0 then k5 s7 else cb (FX7_victim g s7) fun r3 s8 => if r3 < 0 then KC x_turn2 s8 else cb (FX7_bury r3 s8) fun r4 s9 => bn (upd2 s9 48 7 ((s9 48 7) + 1)) fun s10 => if r3 = q then some ((-4), s10) else k5 s10) fun k3 => bn (fun (s4 : S2) => KC x_turn2 s4) fun k4 => if x_turn2 < 100000 then cb (FX7_isAtLimit g s2) fun r1 s5 => if r1 ≠ 0 then k3 s5 else k4 s5 else k4 s2) (x + 1) (sc s4 48 (uc (s4 48) 7 (s4 48 7 + 1))) = o → gl1 (fC + 1) (fun k2 (x_turn2 : Int) (s2 : S2) => bn (fun (s3 : S2) => bn (fun (s6 : S2) => gd (0 ≤ x_turn2 + 1 ∧ x_turn2 + 1 ≤ 100000) <| k2 (x_turn2 + 1) s6) fun k5 => cb (FX7_evictOne g s3) fun r2 s7 => if r2 ≠ 0 then k5 s7 else cb (FX7_victim g s7) fun r3 s8 => if r3 < 0 then KC x_turn2 s8 else cb (FX7_bury r3 s8) fun r4 s9 => bn (upd2 s9 48 7 ((s9 48 7) + 1)) fun s10 => if r3 = q then some ((-4), s10) else k5 s10) fun k3 => bn (fun (s4 : S2) => KC x_turn2 s4) fun k4 => if x_turn2 < 100000 then cb (FX7_isAtLimit g s2) fun r1 s5 => if r1 ≠ 0 then k3 s5 else k4 s5 else k4 s2) x σ = o := by
              intro o ho
              rw [gl1_e]
              simp only [bn] at ho ⊢
              rw [if_pos (by omega), cb_e hat, if_pos (by decide), cb_e c1, if_neg (fun z => z rfl), cb_e d1, if_neg (by omega), cb_e e1, if_neg hvq, u2_sc, gd_pos (by omega)]
              exact ho
            have hMl : ∀ o, gl1 fM (fun k1 (x_limited1 : Int) (s1 : S2) => bn (fun (s2 : S2) => bn (fun (x_limited2 : Int) (s16 : S2) => k1 x_limited2 s16) fun k10 => cb (FX8_evicts g s2) fun r7 s17 => if r7 ≠ 0 then k10 x_limited1 s17 else cb (FX8_kills g s17) fun r8 s18 => if (r8 = q) ∧ (q ≠ (-1)) then some ((-4), s18) else gd (0 ≤ (if r8 ≠ (-1) then 1 else 0 : Int) ∧ (if r8 ≠ (-1) then 1 else 0 : Int) ≤ 1) <| k10 (if r8 ≠ (-1) then 1 else 0 : Int) s18) fun k2 => bn (fun (s3 : S2) => KM s3) fun k3 => if x_limited1 ≠ 0 then cb (FX8_pagesOf g s1) fun r1 s4 => if s4 110 g ≤ r1 then k2 s4 else k3 s4 else k3 s1) 1 m3 = o → gl1 (fM + 1) (fun k1 (x_limited1 : Int) (s1 : S2) => bn (fun (s2 : S2) => bn (fun (x_limited2 : Int) (s16 : S2) => k1 x_limited2 s16) fun k10 => cb (FX8_evicts g s2) fun r7 s17 => if r7 ≠ 0 then k10 x_limited1 s17 else cb (FX8_kills g s17) fun r8 s18 => if (r8 = q) ∧ (q ≠ (-1)) then some ((-4), s18) else gd (0 ≤ (if r8 ≠ (-1) then 1 else 0 : Int) ∧ (if r8 ≠ (-1) then 1 else 0 : Int) ≤ 1) <| k10 (if r8 ≠ (-1) then 1 else 0 : Int) s18) fun k2 => bn (fun (s3 : S2) => KM s3) fun k3 => if x_limited1 ≠ 0 then cb (FX8_pagesOf g s1) fun r1 s4 => if s4 110 g ≤ r1 then k2 s4 else k3 s4 else k3 s1) lm μ = o := by
              intro o ho
              rw [gl1_e]
              simp only [bn] at ho ⊢
              rw [if_pos (by omega), cb_e hpg.2.1, if_pos (by rw [q110]; exact hlim.2), cb_e c2, if_neg (fun z => z rfl), cb_e d2, if_neg (fun z => hvq z.1), if_pos (by omega), gd_pos (by decide)]
              exact ho
            rcases ih with ⟨s5, m5, i1, i2, i3, i4, iq⟩ | ⟨t, s5, m5, i1, i2, i3, i4, i5⟩
            · exact Or.inl ⟨s5, m5, hCl _ i1, hMl _ i2, R_B (by omega) i3, WF_tr hWF1 i4, iq⟩
            · refine Or.inr ⟨t, s5, m5, hCl _ i1, hMl _ i2, R_B (by omega) i3, WF_tr hWF1 i4, fun z => ?_⟩
              rw [i5 z, t35]
              exact uc_n (fun z3 => hvq z3.symm)
      · subst hb
        have hms := ms_ev ⟨f0, f1⟩ f2.1 f3 s35
        have ih := L_take1 hg hq KC KM n (B + 2100) s1 m1 (x + 1) lm fC fM (by omega) (R_B (by omega) c3) (by omega) (by omega) (by omega) (by omega) (by omega) (by rw [s47, if_pos hlim.1]; exact hlm)
        have hCl : ∀ o, gl1 fC (fun k2 (x_turn2 : Int) (s2 : S2) => bn (fun (s3 : S2) => bn (fun (s6 : S2) => gd (0 ≤ x_turn2 + 1 ∧ x_turn2 + 1 ≤ 100000) <| k2 (x_turn2 + 1) s6) fun k5 => cb (FX7_evictOne g s3) fun r2 s7 => if r2 ≠ 0 then k5 s7 else cb (FX7_victim g s7) fun r3 s8 => if r3 < 0 then KC x_turn2 s8 else cb (FX7_bury r3 s8) fun r4 s9 => bn (upd2 s9 48 7 ((s9 48 7) + 1)) fun s10 => if r3 = q then some ((-4), s10) else k5 s10) fun k3 => bn (fun (s4 : S2) => KC x_turn2 s4) fun k4 => if x_turn2 < 100000 then cb (FX7_isAtLimit g s2) fun r1 s5 => if r1 ≠ 0 then k3 s5 else k4 s5 else k4 s2) (x + 1) s1 = o → gl1 (fC + 1) (fun k2 (x_turn2 : Int) (s2 : S2) => bn (fun (s3 : S2) => bn (fun (s6 : S2) => gd (0 ≤ x_turn2 + 1 ∧ x_turn2 + 1 ≤ 100000) <| k2 (x_turn2 + 1) s6) fun k5 => cb (FX7_evictOne g s3) fun r2 s7 => if r2 ≠ 0 then k5 s7 else cb (FX7_victim g s7) fun r3 s8 => if r3 < 0 then KC x_turn2 s8 else cb (FX7_bury r3 s8) fun r4 s9 => bn (upd2 s9 48 7 ((s9 48 7) + 1)) fun s10 => if r3 = q then some ((-4), s10) else k5 s10) fun k3 => bn (fun (s4 : S2) => KC x_turn2 s4) fun k4 => if x_turn2 < 100000 then cb (FX7_isAtLimit g s2) fun r1 s5 => if r1 ≠ 0 then k3 s5 else k4 s5 else k4 s2) x σ = o := by
          intro o ho
          rw [gl1_e]
          simp only [bn] at ho ⊢
          rw [if_pos (by omega), cb_e hat, if_pos (by decide), cb_e c1, if_pos (by decide), gd_pos (by omega)]
          exact ho
        have hMl : ∀ o, gl1 fM (fun k1 (x_limited1 : Int) (s1 : S2) => bn (fun (s2 : S2) => bn (fun (x_limited2 : Int) (s16 : S2) => k1 x_limited2 s16) fun k10 => cb (FX8_evicts g s2) fun r7 s17 => if r7 ≠ 0 then k10 x_limited1 s17 else cb (FX8_kills g s17) fun r8 s18 => if (r8 = q) ∧ (q ≠ (-1)) then some ((-4), s18) else gd (0 ≤ (if r8 ≠ (-1) then 1 else 0 : Int) ∧ (if r8 ≠ (-1) then 1 else 0 : Int) ≤ 1) <| k10 (if r8 ≠ (-1) then 1 else 0 : Int) s18) fun k2 => bn (fun (s3 : S2) => KM s3) fun k3 => if x_limited1 ≠ 0 then cb (FX8_pagesOf g s1) fun r1 s4 => if s4 110 g ≤ r1 then k2 s4 else k3 s4 else k3 s1) lm m1 = o → gl1 (fM + 1) (fun k1 (x_limited1 : Int) (s1 : S2) => bn (fun (s2 : S2) => bn (fun (x_limited2 : Int) (s16 : S2) => k1 x_limited2 s16) fun k10 => cb (FX8_evicts g s2) fun r7 s17 => if r7 ≠ 0 then k10 x_limited1 s17 else cb (FX8_kills g s17) fun r8 s18 => if (r8 = q) ∧ (q ≠ (-1)) then some ((-4), s18) else gd (0 ≤ (if r8 ≠ (-1) then 1 else 0 : Int) ∧ (if r8 ≠ (-1) then 1 else 0 : Int) ≤ 1) <| k10 (if r8 ≠ (-1) then 1 else 0 : Int) s18) fun k2 => bn (fun (s3 : S2) => KM s3) fun k3 => if x_limited1 ≠ 0 then cb (FX8_pagesOf g s1) fun r1 s4 => if s4 110 g ≤ r1 then k2 s4 else k3 s4 else k3 s1) lm μ = o := by
          intro o ho
          rw [gl1_e]
          simp only [bn] at ho ⊢
          rw [if_pos (by omega), cb_e hpg.2.1, if_pos (by rw [q110]; exact hlim.2), cb_e c2, if_pos (by decide)]
          exact ho
        rcases ih with ⟨s5, m5, i1, i2, i3, i4, iq⟩ | ⟨t, s5, m5, i1, i2, i3, i4, i5⟩
        · exact Or.inl ⟨s5, m5, hCl _ i1, hMl _ i2, R_B (by omega) i3, WF_tr (WF_EF c5) i4, iq⟩
        · exact Or.inr ⟨t, s5, m5, hCl _ i1, hMl _ i2, R_B (by omega) i3, WF_tr (WF_EF c5) i4, fun z => by rw [i5 z, s35]⟩
    · rw [if_neg hlim] at hat
      right
      refine ⟨x, σ, μ, ?_, ?_, R_B (by omega) h, WF_rf, fun _ => rfl⟩
      · rw [gl1_e]
        simp only [bn]
        rw [if_pos (by omega), cb_e hat, if_neg (fun z => z rfl)]
      · rw [gl1_e]
        simp only [bn]
        by_cases h1 : σ 47 g = -1
        · rw [if_neg (fun z => z h1)] at hlm
          rw [if_neg (by omega)]
        · rw [if_pos h1] at hlm
          rw [if_pos (by omega), cb_e hpg.2.1, if_neg (fun z => hlim ⟨h1, by rw [q110] at z; exact z⟩)]
theorem P_takes {B g q : Int} {σ μ : S2} (hg : 0 ≤ g ∧ g ≤ 2) (hq : -1 ≤ q ∧ q ≤ 5) (hB : B + 140000 ≤ 2147483647) (h : Rg (-1) (-1) B σ μ) : ∃ r s1 m1, FX7_frameFor g q σ = some (r, s1) ∧ FX8_takes g q μ = some (r, m1) ∧ Rg (-1) (-1) (B + 140000) s1 m1 ∧ WF σ μ s1 m1 ∧ -5 ≤ r ∧ r ≤ 23 ∧ (0 ≤ r → s1 15 r = 0) ∧ (r < 0 → (r = -4 ∧ 0 ≤ q) ∨ r = -5) ∧ (r ≠ -4 → 0 ≤ q → s1 35 q = σ 35 q) := by
  have hm := ms_r σ
  have q110 : μ 110 = σ 47 := h.1.2.2.2.2.2.2.1
  have key : ∀ (oC oM : Option (Int × S2)) (KC : Int → S2 → Option (Int × S2)) (KM : S2 → Option (Int × S2)), (∀ t s m, Rg (-1) (-1) (B + 2100 * (31 : Nat)) s m → ∃ r s1 m1, KC t s = some (r, s1) ∧ KM m = some (r, m1) ∧ Rg (-1) (-1) (B + 140000) s1 m1 ∧ WF s m s1 m1 ∧ -5 ≤ r ∧ r ≤ 23 ∧ (0 ≤ r → s1 15 r = 0) ∧ (r < 0 → (r = -4 ∧ 0 ≤ q) ∨ r = -5) ∧ (r ≠ -4 → 0 ≤ q → s1 35 q = s 35 q)) → ((∃ s1 m1, oC = some (-4, s1) ∧ oM = some (-4, m1) ∧ Rg (-1) (-1) (B + 2100 * (31 : Nat)) s1 m1 ∧ WF σ μ s1 m1 ∧ 0 ≤ q) ∨ ∃ t s1 m1, oC = KC t s1 ∧ oM = KM m1 ∧ Rg (-1) (-1) (B + 2100 * (31 : Nat)) s1 m1 ∧ WF σ μ s1 m1 ∧ (0 ≤ q → s1 35 q = σ 35 q)) → ∃ r s1 m1, rgd (-5) 23 oC = some (r, s1) ∧ rgd (-5) 23 oM = some (r, m1) ∧ Rg (-1) (-1) (B + 140000) s1 m1 ∧ WF σ μ s1 m1 ∧ -5 ≤ r ∧ r ≤ 23 ∧ (0 ≤ r → s1 15 r = 0) ∧ (r < 0 → (r = -4 ∧ 0 ≤ q) ∨ r = -5) ∧ (r ≠ -4 → 0 ≤ q → s1 35 q = σ 35 q) := by
    rintro oC oM KC KM hK (⟨s1, m1, a1, a2, a3, a4, aq⟩ | ⟨t, s1, m1, a1, a2, a3, a4, a5⟩)
    · exact ⟨-4, s1, m1, rgd_eq a1 (by decide) (by decide), rgd_eq a2 (by decide) (by decide), R_B (by omega) a3, a4, by decide, by decide, fun z => absurd z (by decide), fun _ => Or.inl ⟨rfl, aq⟩, fun z => absurd rfl z⟩
    · obtain ⟨r, s2, m2, b1, b2, b3, b4, b5, b6, b7, b8, b9⟩ := hK t s1 m1 a3
      exact ⟨r, s2, m2, rgd_eq (a1.trans b1) (by omega) (by omega), rgd_eq (a2.trans b2) (by omega) (by omega), b3, WF_tr a4 b4, b5, b6, b7, b8, fun z z2 => by rw [b9 z z2, a5 z2]⟩
  unfold FX7_frameFor FX8_takes
  rw [gd_pos hg, gd_pos hq, gd_pos hg, gd_pos hq, gd_pos (by split <;> omega)]
  refine key _ _ _ _ ?_ (L_take1 hg hq _ _ 31 B σ μ 0 _ 1000 1000 (by omega) h (by omega) (by omega) (by omega) (by omega) (by omega) (by rw [q110]))
  intro t s m hR
  have hms := ms_r s
  obtain ⟨r, s1, m1, a1, a2, a3, a4⟩ := L_take2 hq 31 (B + 2100 * (31 : Nat)) s m 0 1000 1000 (by omega) hR (by omega) (by omega) (by omega) (by omega) (by omega)
  exact ⟨r, s1, m1, a1, a2, R_B (by omega) a3, a4⟩
