/-! calls: scan: the loops -/
def scG (r a : Int) : (Int → Int → Int → S2 → Option (Int × S2)) → Int → Int → Int → S2 → Option (Int × S2) := fun k1 (x_changed1 : Int) (x_gone1 : Int) (x_turn1 : Int) (s3 : S2) => if ((r ≠ 0) ∧ (x_gone1 < a)) ∧ (x_turn1 < 100000) then bn (fun (x_changed2 x_gone2 : Int) (s4 : S2) => bn (fun (s9 : S2) => k1 x_changed2 x_gone2 (x_turn1 + 1) s9) fun k4 => if 32 ≤ s4 43 0 then cb (FX7_passToNextSpace s4) fun r4 s10 => k4 s10 else k4 s4) fun k2 => if ((s3 42 0 < 6) ∧ (s3 43 0 < 32)) ∧ ((s3 35 (s3 42 0) ≠ 0) ∧ (s3 36 (s3 42 0) ≠ 0)) then bn (fun (v1 : Int) (s5 : S2) => gd (0 ≤ (s5 43 0) + 1 ∧ (s5 43 0) + 1 ≤ 32) <| bn (upd2 s5 43 0 ((s5 43 0) + 1)) fun s7 => gd ((-2147483648) ≤ x_changed1 + v1 ∧ x_changed1 + v1 ≤ 2147483647) <| k2 (x_changed1 + v1) (x_gone1 + 1) s7) fun k3 => cb (FX7_look (32 * (s3 42 0) + (s3 43 0)) s3) fun r3 s6 => if r3 ≠ 0 then k3 1 s6 else k3 0 s6 else bn (upd2 s3 43 0 32) fun s8 => k2 x_changed1 x_gone1 s8 else some (x_changed1, s3)
theorem scG_eq {r a x_changed1 x_gone1 x_turn1 : Int} {k1 : Int → Int → Int → S2 → Option (Int × S2)} {s3 : S2} : scG r a k1 x_changed1 x_gone1 x_turn1 s3 = if ((r ≠ 0) ∧ (x_gone1 < a)) ∧ (x_turn1 < 100000) then if ((s3 42 0 < 6) ∧ (s3 43 0 < 32)) ∧ ((s3 35 (s3 42 0) ≠ 0) ∧ (s3 36 (s3 42 0) ≠ 0)) then cb (FX7_look (32 * (s3 42 0) + (s3 43 0)) s3) fun r3 s6 => if r3 ≠ 0 then gd (0 ≤ (s6 43 0) + 1 ∧ (s6 43 0) + 1 ≤ 32) <| gd ((-2147483648) ≤ x_changed1 + 1 ∧ x_changed1 + 1 ≤ 2147483647) <| if 32 ≤ (upd2 s6 43 0 ((s6 43 0) + 1)) 43 0 then cb (FX7_passToNextSpace (upd2 s6 43 0 ((s6 43 0) + 1))) fun r4 s10 => k1 (x_changed1 + 1) (x_gone1 + 1) (x_turn1 + 1) s10 else k1 (x_changed1 + 1) (x_gone1 + 1) (x_turn1 + 1) (upd2 s6 43 0 ((s6 43 0) + 1)) else gd (0 ≤ (s6 43 0) + 1 ∧ (s6 43 0) + 1 ≤ 32) <| gd ((-2147483648) ≤ x_changed1 + 0 ∧ x_changed1 + 0 ≤ 2147483647) <| if 32 ≤ (upd2 s6 43 0 ((s6 43 0) + 1)) 43 0 then cb (FX7_passToNextSpace (upd2 s6 43 0 ((s6 43 0) + 1))) fun r4 s10 => k1 (x_changed1 + 0) (x_gone1 + 1) (x_turn1 + 1) s10 else k1 (x_changed1 + 0) (x_gone1 + 1) (x_turn1 + 1) (upd2 s6 43 0 ((s6 43 0) + 1)) else if 32 ≤ (upd2 s3 43 0 32) 43 0 then cb (FX7_passToNextSpace (upd2 s3 43 0 32)) fun r4 s10 => k1 x_changed1 x_gone1 (x_turn1 + 1) s10 else k1 x_changed1 x_gone1 (x_turn1 + 1) (upd2 s3 43 0 32) else some (x_changed1, s3) := rfl
def scN (k2 : Int → Int → S2 → Option (Int × S2)) (x_n1 x_k1 : Int) : (S2 → Option (Int × S2)) → S2 → Option (Int × S2) := fun k3 (s4 : S2) => if ¬ ((((0 ≤ (s4 104 0) / 32) ∧ ((s4 104 0) / 32 ≤ (s4 102 0) - 1)) ∧ (s4 106 ((s4 104 0) / 32) ≠ 0)) ∧ (s4 109 ((s4 104 0) / 32) ≠ 0)) then cb (FX8_passes (32 - ((s4 104 0) % 32)) s4) fun r2 s5 => k3 s5 else cb (FX8_scans (s4 104 0) s4) fun r3 s6 => cb (FX8_passes 1 s6) fun r4 s7 => gd ((-2147483648) ≤ x_n1 + r3 ∧ x_n1 + r3 ≤ 2147483647) <| k2 (x_n1 + r3) (x_k1 + 1) s7
theorem scN_eq {k2 : Int → Int → S2 → Option (Int × S2)} {x_n1 x_k1 : Int} {k3 : S2 → Option (Int × S2)} {s4 : S2} : scN k2 x_n1 x_k1 k3 s4 = if ¬ ((((0 ≤ (s4 104 0) / 32) ∧ ((s4 104 0) / 32 ≤ (s4 102 0) - 1)) ∧ (s4 106 ((s4 104 0) / 32) ≠ 0)) ∧ (s4 109 ((s4 104 0) / 32) ≠ 0)) then cb (FX8_passes (32 - ((s4 104 0) % 32)) s4) fun r2 s5 => k3 s5 else cb (FX8_scans (s4 104 0) s4) fun r3 s6 => cb (FX8_passes 1 s6) fun r4 s7 => gd ((-2147483648) ≤ x_n1 + r3 ∧ x_n1 + r3 ≤ 2147483647) <| k2 (x_n1 + r3) (x_k1 + 1) s7 := rfl
def scO (sm a : Int) : (Int → Int → S2 → Option (Int × S2)) → Int → Int → S2 → Option (Int × S2) := fun k2 (x_n1 : Int) (x_k1 : Int) (s3 : S2) => if (x_k1 < a) ∧ (sm ≠ 0) then gl0 1000 (scN k2 x_n1 x_k1) s3 else some (x_n1, s3)
theorem scO_eq {sm a x_n1 x_k1 : Int} {k2 : Int → Int → S2 → Option (Int × S2)} {s3 : S2} : scO sm a k2 x_n1 x_k1 s3 = if (x_k1 < a) ∧ (sm ≠ 0) then gl0 1000 (scN k2 x_n1 x_k1) s3 else some (x_n1, s3) := rfl
theorem gl3_e {β : Type} {n : Nat} {f : (Int → Int → Int → S2 → Option β) → Int → Int → Int → S2 → Option β} {a b c : Int} {s : S2} : gl3 (n + 1) f a b c s = f (gl3 n f) a b c s := rfl
theorem L_scan {a r sm z B : Int} (hr : r ≠ 0) (hsm : sm ≠ 0) (hz : 0 ≤ z ∧ z ≤ 5) (ha : a ≤ 192) : ∀ (n : Nat) (σ μ : S2) (ch g t : Int) (fC fI fO : Nat), Rg (-1) (-1) B σ μ → σ 35 z ≠ 0 → σ 36 z ≠ 0 → 0 ≤ g → g < a → 0 ≤ ch → ch ≤ g → 0 ≤ t → t + n < 100000 → (a - g) + 7 * ((a - g + σ 43 0) / 32) + (z - σ 42 0) % 6 ≤ n → n < fC → (z - σ 42 0) % 6 < fI → a - g ≤ fO → ∃ v s1 m1, gl3 fC (scG r a) ch g t σ = some (v, s1) ∧ gl0 fI (scN (gl2 fO (scO sm a)) ch g) μ = some (v, m1) ∧ Rg (-1) (-1) B s1 m1 ∧ 0 ≤ v ∧ v ≤ a ∧ m1 101 = μ 101 := by
  intro n
  induction n with
  | zero =>
    intro σ μ ch g t fC fI fO h h35 h36 g0 g1 c0 c1 t0 t1 hn hfC hfI hfO
    have := h.2.2.2.2.2.2.2.2.2.2.2.2.2.2.1.2.2.1
    omega
  | succ n ih =>
    intro σ μ ch g t fC fI fO h h35 h36 g0 g1 c0 c1 t0 t1 hn hfC hfI hfO
    have hh := h
    obtain ⟨⟨q102, q103, q106, q107, q108, q109, q110, q111, q116, q121, q122, q123, q124, q125, q130, q135, q140⟩, hSp, hMp, hPr, hHd, hFr, hLs, hBl, hWr, hC1, hC2, hC3, hRc, hRo, hSc, hSt, hBd⟩ := h
    obtain ⟨S, hS⟩ : ∃ S, S = σ 42 0 := ⟨_, rfl⟩
    obtain ⟨A, hA⟩ : ∃ A, A = σ 43 0 := ⟨_, rfl⟩
    have s1 := hSc.1
    have s2 := hSc.2.1
    have s3 := hSc.2.2.1
    have s4 := hSc.2.2.2.1
    have s5 := hSc.2.2.2.2.1
    rw [← hS] at s1 s2 s5 hn hfI
    rw [← hA] at s3 s4 s5 hn
    have hdiv : μ 104 0 / 32 = S := by omega
    have hmod : μ 104 0 % 32 = A := by omega
    obtain ⟨fC', rfl⟩ : ∃ k, fC = k + 1 := ⟨fC - 1, by omega⟩
    obtain ⟨fI', rfl⟩ : ∃ k, fI = k + 1 := ⟨fI - 1, by omega⟩
    have e102 : μ 102 0 = σ 41 0 := by rw [q102]
    by_cases hm : σ 35 S ≠ 0 ∧ σ 36 S ≠ 0
    · have hmade : S < σ 41 0 := made_lv ⟨s1, s2⟩ hm.1 hh
      obtain ⟨v, s2', m2', s, m, p1, p2, p3, p4, p5, p6, p7, p8, p9, p10⟩ := P_look (e := 32 * S + A) (by omega) s5 hh
      obtain ⟨c, hc⟩ : ∃ c, s2' = sc s 12 c := ⟨_, p6⟩
      obtain ⟨c5, c1', hc5⟩ : ∃ c5 c1', m2' = sc (sc m 105 c5) 141 c1' := ⟨_, _, p7⟩
      subst hc hc5
      simp (disch := decide) only [sc_s, sc_k] at p10
      have s42 : s 42 0 = S := by rw [p8 42 (by decide), hS]
      have s43 : s 43 0 = A := by rw [p8 43 (by decide), hA]
      obtain ⟨s3', m3', b1, b2, b3, b4, b5, b6⟩ := L_adv (B := B) (c := c) (c5 := c5) (c1 := c1') s42 ⟨s1, s2⟩ s43 (by rw [p9 104 (by decide)]; exact s5) ⟨s3, s4⟩ p10 p5
      have hstep : gl3 (fC' + 1) (scG r a) ch g t σ = gl3 fC' (scG r a) (ch + v) (g + 1) (t + 1) s3' := by
        rw [gl3_e, scG_eq, if_pos ⟨⟨hr, g1⟩, by omega⟩, ← hS, ← hA, if_pos ⟨⟨by omega, by omega⟩, hm⟩, cb_e p1]
        have hk := b1 (fun s10 => gl3 fC' (scG r a) (ch + v) (g + 1) (t + 1) s10)
        have hv : v = 0 ∨ v = 1 := by omega
        rcases hv with hv | hv
        · subst hv
          rw [if_neg (by decide), sc_k (show 43 ≠ 12 by decide), s43, gd_pos (by omega), gd_pos (by omega), u2_sc, sc_k (show 43 ≠ 12 by decide)]
          exact hk
        · subst hv
          rw [if_pos (by decide), sc_k (show 43 ≠ 12 by decide), s43, gd_pos (by omega), gd_pos (by omega), u2_sc, sc_k (show 43 ≠ 12 by decide)]
          exact hk
      have hstep8 : gl0 (fI' + 1) (scN (gl2 fO (scO sm a)) ch g) μ = gl2 fO (scO sm a) (ch + v) (g + 1) m3' := by
        rw [gl0_e, scN_eq, hdiv, s5, if_neg (fun z => z (by rw [e102, q106, q109]; exact ⟨⟨⟨s1, by omega⟩, hm.1⟩, hm.2⟩)), cb_e p2, cb_e b2, gd_pos (by omega)]
      have t35 : s3' 35 = σ 35 := (b4 35 (by decide)).trans (p8 35 (by decide))
      have t36 : s3' 36 = σ 36 := (b4 36 (by decide)).trans (p8 36 (by decide))
      have t101 : m3' 101 = μ 101 := (b5 101 (by decide)).trans (p9 101 (by decide))
      obtain ⟨fO', rfl⟩ : ∃ k, fO = k + 1 := ⟨fO - 1, by omega⟩
      by_cases hend : g + 1 < a
      · obtain ⟨w, s4', m4', d1, d2, d3, d4, d5, d6⟩ := ih s3' m3' (ch + v) (g + 1) (t + 1) fC' 1000 fO' b3 (by rw [t35]; exact h35) (by rw [t36]; exact h36) (by omega) hend (by omega) (by omega) (by omega) (by omega) (by
          rcases b6 with ⟨w1, w2, w3⟩ | ⟨w1, w2, w3⟩
          · rw [w2, w3]
            omega
          · rw [w2, w3]
            split <;> omega) (by omega) (by omega) (by omega)
        refine ⟨w, s4', m4', hstep.trans d1, hstep8.trans ?_, d3, d4, d5, d6.trans t101⟩
        rw [gl2_e, scO_eq, if_pos ⟨hend, hsm⟩]
        exact d2
      · refine ⟨ch + v, s3', m3', hstep.trans ?_, hstep8.trans ?_, b3, by omega, by omega, t101⟩
        · obtain ⟨fC'', rfl⟩ : ∃ k, fC' = k + 1 := ⟨fC' - 1, by omega⟩
          rw [gl3_e, scG_eq, if_neg (fun z => hend z.1.2)]
        · rw [gl2_e, scO_eq, if_neg (fun z => hend z.1)]
    · have hSz : S ≠ z := fun w => hm (by rw [w]; exact ⟨h35, h36⟩)
      obtain ⟨s3', m3', b1, b2, b3, b4, b5, b6, b7⟩ := L_pass (B := B) (S := S) (A := A) (b := 32 - A) (c := σ 12) (c5 := μ 105) (c1 := μ 141) hS.symm ⟨s1, s2⟩ s5 ⟨s3, s4⟩ rfl (rSn_of (by omega) hSc) hh
      rw [sc_nop (σ := σ) (k := 12) rfl] at b1
      rw [sc_nop (σ := μ) (k := 105) rfl, sc_nop (σ := μ) (k := 141) rfl] at b2
      have t35 : s3' 35 = σ 35 := b4 35 (by decide)
      have t36 : s3' 36 = σ 36 := b4 36 (by decide)
      have t101 : m3' 101 = μ 101 := b5 101 (by decide)
      obtain ⟨w, s4', m4', d1, d2, d3, d4, d5, d6⟩ := ih s3' m3' ch g (t + 1) fC' fI' fO b3 (by rw [t35]; exact h35) (by rw [t36]; exact h36) g0 g1 c0 c1 (by omega) (by omega) (by
        rw [b6, b7]
        split <;> omega) (by omega) (by
        rw [b7]
        split <;> omega) hfO
      refine ⟨w, s4', m4', ?_, ?_, d3, d4, d5, d6.trans t101⟩
      · rw [gl3_e, scG_eq, if_pos ⟨⟨hr, g1⟩, by omega⟩, ← hS, if_neg (fun w => hm w.2), u2_sc, if_pos (by simp (disch := decide) only [sc_s, sc_k, uc_s]; decide), cb_e b1]
        exact d1
      · rw [gl0_e, scN_eq, hdiv, hmod, if_pos (fun w => hm (by rw [q106, q109] at w; exact ⟨w.1.2, w.2⟩)), cb_e b2]
        exact d2
