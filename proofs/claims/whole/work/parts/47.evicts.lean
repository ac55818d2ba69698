/-! one page is evicted, or none -/
def EF (σ μ s1 m1 : S2) : Prop := (∀ k, k ∉ [8, 9, 10, 11, 14, 15, 17, 18, 19, 23, 26, 27, 28, 29, 30, 31, 32, 40, 44, 45, 46, 48, 49] → s1 k = σ k) ∧ (∀ k, k ∉ [103, 116, 119, 120, 121, 123, 124, 128, 129, 130, 131, 132, 133, 134, 139, 140] → m1 k = μ k) ∧ ∀ e, 0 ≤ e → e ≤ 191 → (s1 8 e = σ 8 e ∧ s1 9 e = σ 9 e ∧ s1 10 e = σ 10 e) ∨ (σ 8 e = 1 ∧ s1 8 e ≠ 1)
theorem EF_tr {σ μ s m s' m' : S2} (h1 : EF σ μ s m) (h2 : EF s m s' m') : EF σ μ s' m' := by
  refine ⟨fun k hk => (h2.1 k hk).trans (h1.1 k hk), fun k hk => (h2.2.1 k hk).trans (h1.2.1 k hk), fun e e0 e1 => ?_⟩
  have a1 := h1.2.2 e e0 e1
  have a2 := h2.2.2 e e0 e1
  omega
theorem EF_rf {σ μ : S2} : EF σ μ σ μ := ⟨fun _ _ => rfl, fun _ _ => rfl, fun _ _ _ => Or.inl ⟨rfl, rfl, rfl⟩⟩
theorem EF_OF {σ μ s m : S2} (h : OF σ μ s m) : EF σ μ s m := by
  refine ⟨fun k hk => h.1 k ?_, fun k hk => h.2.1 k ?_, h.2.2⟩
  · simp only [List.mem_cons, List.not_mem_nil, or_false, not_or] at hk ⊢; omega
  · simp only [List.mem_cons, List.not_mem_nil, or_false, not_or] at hk ⊢; omega
theorem EF_ls {σ μ s m : S2} (h1 : ∀ k, k ∉ [17, 18, 19, 40] → s k = σ k) (h2 : ∀ k, k ∉ [123, 124, 128, 129] → m k = μ k) : EF σ μ s m := by
  refine ⟨fun k hk => h1 k ?_, fun k hk => h2 k ?_, fun e _ _ => Or.inl ?_⟩
  · simp only [List.mem_cons, List.not_mem_nil, or_false, not_or] at hk ⊢; omega
  · simp only [List.mem_cons, List.not_mem_nil, or_false, not_or] at hk ⊢; omega
  · rw [h1 8 (by decide), h1 9 (by decide), h1 10 (by decide)]; exact ⟨rfl, rfl, rfl⟩
theorem P_bal {B g : Int} {σ μ : S2} (hg : -1 ≤ g ∧ g ≤ 2) (hB : B + 24 ≤ 2147483647) (h : Rg (-1) (-1) B σ μ) (KM : S2 → Option (Int × S2)) : ∃ s1 m1, FX7_balance g σ = some (0, s1) ∧ gl0 1000 (fun k2 (s3 : S2) => cb (FX8_listed g 0 s3) fun r2 s4 => cb (FX8_listed g 1 s4) fun r3 s5 => if r2 < r3 then cb (FX8_firstOf g 1 s5) fun r8 s11 => cb (FX8_shifts r8 0 s11) fun r9 s12 => k2 s12 else KM s5) μ = KM m1 ∧ Rg (-1) (-1) (B + 24) s1 m1 ∧ cntI (isM s1 1 g) 24 ≤ cntI (isM s1 0 g) 24 ∧ (∀ k, k ∉ [17, 18, 19, 40] → s1 k = σ k) ∧ ∀ k, k ∉ [123, 124, 128, 129] → m1 k = μ k := by
  have r0 := cntI_r (isM σ 0 g) 24
  have r1 := cntI_r (isM σ 1 g) 24
  obtain ⟨s1, m1, a1, a2, a3⟩ := L_bal hg KM 24 B σ μ 1000 1000 hB h (by omega) (by omega) (by omega)
  refine ⟨s1, m1, ?_, a2, a3⟩
  unfold FX7_balance
  rw [gd_pos hg, cb_e (e7_members (by decide) hg), cb_e (e7_members (by decide) hg), gd_pos (by omega)]
  exact a1
theorem L_ev {g tot : Int} (hg : -1 ≤ g ∧ g ≤ 2) (ht : 0 ≤ tot ∧ tot ≤ 24) : ∀ (m : Nat) (B : Int) (σ μ : S2) (x : Int) (fC fM : Nat), B + 40 * m ≤ 2147483647 → Rg (-1) (-1) B σ μ → cntI (isP σ g) 24 = tot → x + m = 2 * tot → 0 ≤ x → m < fC → m < fM → ∃ b s1 m1, gl1 fC (fun k1 (x_turn1 : Int) (s2 : S2) => gd ((-2147483648) ≤ 2 * tot ∧ 2 * tot ≤ 2147483647) <| if x_turn1 < 2 * tot then cb (FX7_balance g s2) fun r2 s3 => cb (FX7_firstMember 0 g s3) fun r3 s4 => if r3 < 0 then some ((0 : Int), s4) else bn (fun (s5 : S2) => some ((1 : Int), s5)) fun k2 => bn (fun (s6 : S2) => bn (upd2 s6 19 r3 0) fun s8 => cb (FX7_bringToEnd r3 1 s8) fun r5 s9 => k1 (x_turn1 + 1) s9) fun k3 => if ¬ (s4 19 r3 ≠ 0) then cb (FX7_putOut r3 s4) fun r4 s7 => if r4 ≠ 0 then k2 s7 else k3 s7 else k3 s4 else some ((0 : Int), s2)) x σ = some (b, s1) ∧ gl1 fM (fun k1 (x_n1 : Int) (s2 : S2) => gd ((-2147483648) ≤ 2 * tot ∧ 2 * tot ≤ 2147483647) <| if x_n1 < 2 * tot then gl0 1000 (fun k2  (s3 : S2) => cb (FX8_listed g 0 s3) fun r2 s4 => cb (FX8_listed g 1 s4) fun r3 s5 => if r2 < r3 then cb (FX8_firstOf g 1 s5) fun r8 s11 => cb (FX8_shifts r8 0 s11) fun r9 s12 => k2 s12 else cb (FX8_firstOf g 0 s5) fun r4 s6 => bn (fun (s7 : S2) => k1 (x_n1 + 1) s7) fun k3 => gd (0 ≤ r4 ∧ r4 ≤ 23) <| if s6 124 r4 ≠ 0 then cb (FX8_shifts r4 1 s6) fun r5 s8 => k3 s8 else cb (FX8_goes r4 s6) fun r6 s9 => if r6 ≠ 0 then some ((1 : Int), s9) else cb (FX8_shifts r4 1 s9) fun r7 s10 => k3 s10) s2 else some ((0 : Int), s2)) x μ = some (b, m1) ∧ Rg (-1) (-1) (B + 40 * m) s1 m1 ∧ (b = 0 ∧ s1 15 = σ 15 ∨ b = 1 ∧ ∃ f, 0 ≤ f ∧ f ≤ 23 ∧ isP σ g f ∧ s1 15 = uc (σ 15) f 0) ∧ EF σ μ s1 m1
  | m, B, σ, μ, x, 0, fM, _, _, _, _, _, hf, _ => absurd hf (Nat.not_lt_zero _)
  | m, B, σ, μ, x, fC + 1, 0, _, _, _, _, _, _, hf => absurd hf (Nat.not_lt_zero _)
  | 0, B, σ, μ, x, fC + 1, fM + 1, hB, h, hc, hx, hx0, hfC, hfM => by
    refine ⟨0, σ, μ, ?_, ?_, R_B (by omega) h, Or.inl ⟨rfl, rfl⟩, EF_rf⟩
    · rw [gl1_e, gd_pos (by omega), if_neg (by omega)]
    · rw [gl1_e, gd_pos (by omega), if_neg (by omega)]
  | m + 1, B, σ, μ, x, fC + 1, fM + 1, hB, h, hc, hx, hx0, hfC, hfM => by
    obtain ⟨s1, m1, a1, a2, a3, a4, a5, a6⟩ := P_bal hg (by omega) h (fun s5 => cb (FX8_firstOf g 0 s5) fun r4 s6 => bn (fun (s7 : S2) => gl1 fM (fun k1 (x_n1 : Int) (s2 : S2) => gd ((-2147483648) ≤ 2 * tot ∧ 2 * tot ≤ 2147483647) <| if x_n1 < 2 * tot then gl0 1000 (fun k2  (s3 : S2) => cb (FX8_listed g 0 s3) fun r2 s4 => cb (FX8_listed g 1 s4) fun r3 s5 => if r2 < r3 then cb (FX8_firstOf g 1 s5) fun r8 s11 => cb (FX8_shifts r8 0 s11) fun r9 s12 => k2 s12 else cb (FX8_firstOf g 0 s5) fun r4 s6 => bn (fun (s7 : S2) => k1 (x_n1 + 1) s7) fun k3 => gd (0 ≤ r4 ∧ r4 ≤ 23) <| if s6 124 r4 ≠ 0 then cb (FX8_shifts r4 1 s6) fun r5 s8 => k3 s8 else cb (FX8_goes r4 s6) fun r6 s9 => if r6 ≠ 0 then some ((1 : Int), s9) else cb (FX8_shifts r4 1 s9) fun r7 s10 => k3 s10) s2 else some ((0 : Int), s2)) (x + 1) s7) fun k3 => gd (0 ≤ r4 ∧ r4 ≤ 23) <| if s6 124 r4 ≠ 0 then cb (FX8_shifts r4 1 s6) fun r5 s8 => k3 s8 else cb (FX8_goes r4 s6) fun r6 s9 => if r6 ≠ 0 then some ((1 : Int), s9) else cb (FX8_shifts r4 1 s9) fun r7 s10 => k3 s10)
    have hEF1 := EF_ls a5 a6
    have s15 : s1 15 = σ 15 := a5 15 (by decide)
    have s21 : s1 21 = σ 21 := a5 21 (by decide)
    have hc1 : cntI (isP s1 g) 24 = tot := by
      rw [← hc]
      refine cntI_congr fun f _ _ => ?_
      unfold isP
      rw [s15, s21]
    have hpg := (P_pages hg a3).2.2
    obtain ⟨p, p1, p2, p3⟩ := P_first (l := 0) (g := g) (by omega) (by decide) hg a3
    have p4 : 0 ≤ p ∧ p ≤ 23 ∧ isM s1 0 g p := p3.resolve_left (fun w => by omega)
    have hpk : s1 15 p ≠ 0 := p4.2.2.1.1
    have m124 : m1 124 p = s1 19 p := by
      have := a3.1.2.2.2.2.2.2.2.2.2.2.2.2.1
      rw [this]
    by_cases hseen : s1 19 p = 0
    · obtain ⟨b, s2, m2, b1, b2, b3, b4, b5⟩ := P_out (by omega) ⟨p4.1, p4.2.1⟩ hpk a3
      have hEF2 := EF_tr hEF1 (EF_OF b5)
      rcases b3 with ⟨hb, b3⟩ | ⟨hb, b3⟩
      · subst hb
        obtain ⟨m3, c1, c2, c3⟩ := R_sh (l := 1) ⟨p4.1, p4.2.1⟩ (by decide) (by rw [b3]; exact hpk) b4
        have hEF3 := EF_tr hEF2 (EF_ls (s := shC p 1 s2) (fun k hk => shC_k hk) c3)
        have t15 : shC p 1 s2 15 = σ 15 := by rw [shC_k (by decide), b3, s15]
        have t21 : shC p 1 s2 21 = σ 21 := by rw [shC_k (by decide), b5.1 21 (by decide), s21]
        have hc2 : cntI (isP (shC p 1 s2) g) 24 = tot := by
          rw [← hc]
          refine cntI_congr fun f _ _ => ?_
          unfold isP
          rw [t15, t21]
        obtain ⟨b, s4, m4, d1, d2, d3, d4, d5⟩ := L_ev hg ht m (B + 28) (shC p 1 s2) m3 (x + 1) fC fM (by omega) (R_B (by omega) c2) hc2 (by omega) (by omega) (by omega) (by omega)
        refine ⟨b, s4, m4, ?_, ?_, R_B (by omega) d3, ?_, EF_tr hEF3 d5⟩
        · rw [gl1_e, gd_pos (by omega), if_pos (by omega), cb_e a1, cb_e p1, if_neg (by omega)]
          simp only [bn]
          rw [if_pos (by omega), cb_e b1, if_neg (by decide), u2_sc, cb_e (e7_bring ⟨p4.1, p4.2.1⟩ (by decide))]
          exact d1
        · rw [gl1_e, gd_pos (by omega), if_pos (by omega)]
          refine a2.trans ?_
          rw [cb_e p2]
          simp only [bn]
          rw [gd_pos (by omega), if_neg (by omega), cb_e b2, if_neg (by decide), cb_e c1]
          exact d2
        · rcases d4 with ⟨d4, d6⟩ | ⟨d4, f, f0, f1, f2, f3⟩
          · exact Or.inl ⟨d4, by rw [d6, t15]⟩
          · refine Or.inr ⟨d4, f, f0, f1, ?_, by rw [f3, t15]⟩
            unfold isP at f2 ⊢
            rw [t15, t21] at f2
            exact f2
      · subst hb
        refine ⟨1, s2, m2, ?_, ?_, R_B (by omega) b4, Or.inr ⟨rfl, p, p4.1, p4.2.1, ?_, by rw [b3, s15]⟩, hEF2⟩
        · rw [gl1_e, gd_pos (by omega), if_pos (by omega), cb_e a1, cb_e p1, if_neg (by omega)]
          simp only [bn]
          rw [if_pos (by omega), cb_e b1, if_pos (by decide)]
        · rw [gl1_e, gd_pos (by omega), if_pos (by omega)]
          refine a2.trans ?_
          rw [cb_e p2]
          simp only [bn]
          rw [gd_pos (by omega), if_neg (by omega), cb_e b2, if_pos (by decide)]
        · have h9 := p4.2.2
          unfold isM at h9
          rw [s15, s21] at h9
          exact ⟨h9.1.1, h9.2⟩
    · obtain ⟨m3, c1, c2, c3⟩ := R_sh (l := 1) ⟨p4.1, p4.2.1⟩ (by decide) hpk a3
      have hEF3 := EF_tr hEF1 (EF_ls (s := shC p 1 s1) (fun k hk => shC_k hk) c3)
      have t15 : shC p 1 s1 15 = σ 15 := by rw [shC_k (by decide), s15]
      have t21 : shC p 1 s1 21 = σ 21 := by rw [shC_k (by decide), s21]
      have hc2 : cntI (isP (shC p 1 s1) g) 24 = tot := by
        rw [← hc]
        refine cntI_congr fun f _ _ => ?_
        unfold isP
        rw [t15, t21]
      obtain ⟨b, s4, m4, d1, d2, d3, d4, d5⟩ := L_ev hg ht m (B + 28) (shC p 1 s1) m3 (x + 1) fC fM (by omega) (R_B (by omega) c2) hc2 (by omega) (by omega) (by omega) (by omega)
      refine ⟨b, s4, m4, ?_, ?_, R_B (by omega) d3, ?_, EF_tr hEF3 d5⟩
      · rw [gl1_e, gd_pos (by omega), if_pos (by omega), cb_e a1, cb_e p1, if_neg (by omega)]
        simp only [bn]
        rw [if_neg (fun q => q hseen), u2_sc, cb_e (e7_bring ⟨p4.1, p4.2.1⟩ (by decide))]
        exact d1
      · rw [gl1_e, gd_pos (by omega), if_pos (by omega)]
        refine a2.trans ?_
        rw [cb_e p2]
        simp only [bn]
        rw [gd_pos (by omega), if_pos (by omega), cb_e c1]
        exact d2
      · rcases d4 with ⟨d4, d6⟩ | ⟨d4, f, f0, f1, f2, f3⟩
        · exact Or.inl ⟨d4, by rw [d6, t15]⟩
        · refine Or.inr ⟨d4, f, f0, f1, ?_, by rw [f3, t15]⟩
          unfold isP at f2 ⊢
          rw [t15, t21] at f2
          exact f2
theorem P_evict {B g : Int} {σ μ : S2} (hg : -1 ≤ g ∧ g ≤ 2) (hB : B + 2000 ≤ 2147483647) (h : Rg (-1) (-1) B σ μ) : ∃ b s1 m1, FX7_evictOne g σ = some (b, s1) ∧ FX8_evicts g μ = some (b, m1) ∧ Rg (-1) (-1) (B + 2000) s1 m1 ∧ (b = 0 ∧ s1 15 = σ 15 ∨ b = 1 ∧ ∃ f, 0 ≤ f ∧ f ≤ 23 ∧ isP σ g f ∧ s1 15 = uc (σ 15) f 0) ∧ EF σ μ s1 m1 := by
  obtain ⟨a1, a2, a3⟩ := P_pages hg h
  have hr := cntI_r (isP σ g) 24
  obtain ⟨m, hm⟩ := Int.eq_ofNat_of_zero_le (show 0 ≤ 2 * cntI (isP σ g) 24 by omega)
  obtain ⟨b, s1, m1, b1, b2, b3, b4, b5⟩ := L_ev hg hr m B σ μ 0 1000 1000 (by omega) h rfl (by omega) (by decide) (by omega) (by omega)
  refine ⟨b, s1, m1, ?_, ?_, R_B (by omega) b3, b4, b5⟩
  · unfold FX7_evictOne
    refine rgd_eq ?_ (by omega) (by omega)
    rw [gd_pos hg, cb_e a1]
    exact b1
  · unfold FX8_evicts
    refine rgd_eq ?_ (by omega) (by omega)
    rw [gd_pos hg, cb_e a2]
    exact b2
