/-! a record is kept -/
theorem bn_gen {α β : Type} {a : α} {f : α → β} (P : β → Prop) (h : ∀ k, k = a → P (f k)) : P (bn a f) := h a rfl
/-- the first free place, on both sides -/
theorem P_free {x y B : Int} {σ μ : S2} (h : Rg x y B σ μ) : ∃ q, FX4_freePlace σ = some (q, σ) ∧ FX8_freePlace μ = some (q, μ) ∧ (q = -1 ∨ 0 ≤ q ∧ q ≤ 9 ∧ σ 49 q = 0) := by
  obtain ⟨⟨q102, q103, q106, q107, q108, q109, q110, q111, q116, q121, q122, q123, q124, q125, q130, q135, q140⟩, hSp, hMp, hPr, hHd, hFr, hLs, hBl, hWr, hC1, hC2, hC3, hRc, hRo, hSc, hSt, hBd⟩ := h
  refine ⟨_, e7_freePlace, ?_, ?_⟩
  · rw [e8_freePlace]
    have e1 : fstI (fun p => allI (fun r => μ 132 r ≠ p) 18 ≠ 0) 10 = fstI (fun p => ¬ (σ 49 p ≠ 0)) 10 := by
      refine fstI_cg fun p p0 p1 => ?_
      have h1 := (hRo.2.2.2 p p0 (by omega)).2.2
      rw [allI_iff]
      constructor
      · intro q w
        obtain ⟨r, r0, r1, r2⟩ := h1.mp w
        exact q r r0 (by omega) r2
      · intro q r r0 r1 r2
        exact q (h1.mpr ⟨r, r0, by omega, r2⟩)
    rw [e1]
  · rcases fstI_cases (fun p => ¬ (σ 49 p ≠ 0)) 10 with w | w
    · exact Or.inl w.1
    · refine Or.inr ⟨w.1, by omega, ?_⟩
      have := w.2.2.1
      omega
/-- the oldest in the store, on both sides -/
theorem P_old {x B : Int} {σ μ : S2} (hB : B ≤ 2147483647) (h : Rg x (-1) B σ μ) : ∃ o, FX4_oldestStored σ = some (o, σ) ∧ FX8_oldest μ = some (o, μ) ∧ (o = -1 ∨ 0 ≤ o ∧ o ≤ 17 ∧ μ 132 o = 10) := by
  obtain ⟨⟨q102, q103, q106, q107, q108, q109, q110, q111, q116, q121, q122, q123, q124, q125, q130, q135, q140⟩, hSp, hMp, hPr, hHd, hFr, hLs, hBl, hWr, hC1, hC2, hC3, hRc, hRo, hSc, hSt, hBd⟩ := h
  have hl : ∀ r : Int, 0 ≤ r → r < (18 : Nat) → ((0 < σ 30 r) ∧ (σ 28 r = 10) ↔ μ 132 r = 10) := by
    intro r r0 r1
    have h1 := hRc r r0 (by omega)
    have h2 := cC_r (c := σ 11) (n := 192) (f := r)
    constructor
    · rintro ⟨a, b⟩
      have h3 : μ 132 r ≠ -1 := fun q => by have := h1.2.1.mp q; omega
      have := h1.2.2 h3
      omega
    · intro a
      have h3 := h1.2.2 (by omega)
      have h4 : σ 30 r ≠ 0 := fun q => by have := h1.2.1.mpr ⟨q, by omega⟩; omega
      omega
  have hr : ∀ r, 0 ≤ r → r ≤ 17 → μ 132 r = 10 → σ 29 r = μ 134 r + 1 ∧ 0 ≤ μ 134 r ∧ μ 134 r < B := by
    intro r r0 r1 r2
    have h3 := (hRc r r0 r1).2.2 (by omega)
    have := hBd.2.1
    omega
  have e1 : bstI (fun r => μ 132 r = 10) (fun a b => μ 134 a < μ 134 b) 18 = bstI (fun r => (0 < σ 30 r) ∧ (σ 28 r = 10)) (fun a b => σ 29 a < σ 29 b) 18 := by
    refine (bstI_cg hl fun i j i0 i1 j0 j1 pi pj => ?_).symm
    have h1 := hr i i0 (by omega) ((hl i i0 i1).mp pi)
    have h2 := hr j j0 (by omega) ((hl j j0 j1).mp pj)
    omega
  refine ⟨_, ?_, e8_oldest (fun r r0 r1 r2 => by have := hr r r0 r1 r2; omega), ?_⟩
  · rw [e1]
    exact e7_oldest (fun r r0 r1 r2 r3 => by
      have := hr r r0 r1 ((hl r r0 (by omega)).mp ⟨r2, r3⟩)
      omega)
  · rcases bstI_r (fun r => μ 132 r = 10) (fun a b => μ 134 a < μ 134 b) 18 with w | w
    · exact Or.inl w.1
    · exact Or.inr ⟨w.1, by omega, w.2.2⟩
theorem P_used {x y B : Int} {σ μ : S2} (h : Rg x y B σ μ) : FX8_used μ = some (σ 31 0, μ) ∧ 0 ≤ σ 31 0 ∧ σ 31 0 ≤ 8 := by
  obtain ⟨⟨q102, q103, q106, q107, q108, q109, q110, q111, q116, q121, q122, q123, q124, q125, q130, q135, q140⟩, hSp, hMp, hPr, hHd, hFr, hLs, hBl, hWr, hC1, hC2, hC3, hRc, hRo, hSc, hSt, hBd⟩ := h
  refine ⟨by rw [e8_used, hRo.1], ?_, hRo.2.1⟩
  rw [hRo.1]
  exact sumI_0 (fun i _ _ => by (repeat' split) <;> decide)
/-- what is oldest goes to a place -/
theorem m_Rc_mv {x c11 c26 c27 c28 c29 c30 c32 m132 m133 m134 : Int → Int} {o q : Int} (ho : m132 o = 10) (hq : 0 ≤ q ∧ q ≤ 9) (h : rRc (-1) c11 c26 c27 c28 c29 c30 c32 m132 m133 m134) : rRc (-1) c11 c26 c27 (uc c28 o q) c29 c30 c32 (uc m132 o q) m133 m134 := by
  intro r r0 r1
  have h1 := h r r0 r1
  by_cases hr : r = o
  · subst hr
    simp only [uc_s]
    have h2 := h1.2.2 (by omega)
    refine ⟨h1.1, ⟨fun w => by omega, fun w => ?_⟩, fun _ => ⟨trivial, h2.2.1, h2.2.2.1, by omega, by omega, h2.2.2.2.2.2⟩⟩
    have := h1.2.1.mpr w
    omega
  · simp only [uc_n hr]
    exact h1
theorem m_Ro_mv {c31 c49 m132 m133 : Int → Int} {o q : Int} (hoo : 0 ≤ o ∧ o ≤ 17) (ho : m132 o = 10) (hq : 0 ≤ q ∧ q ≤ 9) (hf : c49 q = 0) (h : rRo c31 c49 m132 m133) : rRo (uc c31 0 (c31 0 - (if m133 o < 100 then 1 else 2))) (uc c49 q 1) (uc m132 o q) m133 := by
  obtain ⟨a1, a2, a3, a4⟩ := h
  have e := sumI_one (g := fun r => if uc m132 o q r = 10 then (if m133 r < 100 then 1 else 2) else 0) (h := fun r => if m132 r = 10 then (if m133 r < 100 then 1 else 2) else 0) (a := o) (n := 18) hoo.1 (by omega) (fun i _ _ hi => by rw [uc_n hi])
  simp only [uc_s, if_pos ho] at e
  rw [if_neg (by omega)] at e
  have hnq : ∀ r, 0 ≤ r → r ≤ 17 → m132 r ≠ q := fun r r0 r1 w => by
    have := (a4 q hq.1 hq.2).2.2.mpr ⟨r, r0, r1, w⟩
    omega
  refine ⟨?_, ?_, ?_, ?_⟩
  · rw [uc_s, e, a1]; omega
  · rw [uc_s]; split <;> omega
  · intro a b a0 a1 b0 b1 hab
    by_cases ha : a = o
    · subst ha
      rw [uc_s] at hab ⊢
      by_cases hb : b = a
      · exact fun _ _ => hb.symm
      · rw [uc_n hb] at hab
        exact absurd hab.symm (hnq b b0 b1)
    · rw [uc_n ha] at hab ⊢
      by_cases hb : b = o
      · subst hb
        rw [uc_s] at hab
        exact absurd hab (hnq a a0 a1)
      · rw [uc_n hb] at hab
        exact a3 a b a0 a1 b0 b1 hab
  · intro p p0 p1
    have h2 := a4 p p0 p1
    by_cases hp : p = q
    · subst hp
      rw [uc_s]
      exact ⟨by decide, by decide, ⟨fun _ => ⟨o, hoo.1, hoo.2, uc_s⟩, fun _ => by decide⟩⟩
    · rw [uc_n hp]
      refine ⟨h2.1, h2.2.1, h2.2.2.trans ⟨?_, ?_⟩⟩
      · rintro ⟨i, u, v, z⟩
        exact ⟨i, u, v, by rw [uc_n (fun w => by rw [w] at z; omega)]; exact z⟩
      · rintro ⟨i, u, v, z⟩
        by_cases hi : i = o
        · rw [hi, uc_s] at z; omega
        · rw [uc_n hi] at z; exact ⟨i, u, v, z⟩
def mvC (o q : Int) (σ : S2) : S2 := sc (sc (sc σ 49 (uc (σ 49) q 1)) 28 (uc (σ 28) o q)) 31 (uc (σ 31) 0 (σ 31 0 - σ 27 o))
theorem R_mv {x B o q : Int} {σ μ : S2} (hoo : 0 ≤ o ∧ o ≤ 17) (ho : μ 132 o = 10) (hq : 0 ≤ q ∧ q ≤ 9) (hf : σ 49 q = 0) (h : Rg x (-1) B σ μ) : Rg x (-1) B (mvC o q σ) (sc μ 132 (uc (μ 132) o q)) := by
  obtain ⟨⟨q102, q103, q106, q107, q108, q109, q110, q111, q116, q121, q122, q123, q124, q125, q130, q135, q140⟩, hSp, hMp, hPr, hHd, hFr, hLs, hBl, hWr, hC1, hC2, hC3, hRc, hRo, hSc, hSt, hBd⟩ := h
  have h27 := ((hRc o hoo.1 hoo.2).2.2 (by omega)).2.2.1
  have hRc2 := m_Rc_mv (x := σ 1) ho hq hRc
  have hRo2 := m_Ro_mv hoo ho hq hf hRo
  rw [← h27] at hRo2
  unfold mvC
  refine ⟨⟨?_, ?_, ?_, ?_, ?_, ?_, ?_, ?_, ?_, ?_, ?_, ?_, ?_, ?_, ?_, ?_, ?_⟩, ?_, ?_, ?_, ?_, ?_, ?_, ?_, ?_, ?_, ?_, ?_, ?_, ?_, ?_, ?_, ?_⟩
  all_goals (try simp (disch := decide) only [sc_s, sc_k])
  all_goals (try with_reducible assumption)
theorem cntI_dec {c : Int → Int} {q : Int} {n : Nat} (h0 : 0 ≤ q) (h1 : q < n) (hq : c q = 0) : cntI (fun p => uc c q 1 p = 0) n + 1 = cntI (fun p => c p = 0) n := by
  have e := cntI_one (p := fun p => uc c q 1 p = 0) (q := fun p => c p = 0) (a := q) (n := n) h0 h1 (fun i _ _ hi => by rw [uc_n hi])
  rw [uc_s, if_neg (by decide), if_pos hq] at e
  omega
theorem L_keep {x B v : Int} (hB : B ≤ 2147483647) (KC : Int → S2 → Option (Int × S2)) (KM : S2 → Option (Int × S2)) : ∀ (m : Nat) (σ μ : S2) (turn : Int) (fC fM : Nat), Rg x (-1) B σ μ → cntI (fun q => σ 49 q = 0) 10 ≤ m → 0 ≤ turn → turn + m ≤ 10 → m < fC → m < fM → ∃ t s1 m1, gl1 fC (fun k2 (x_turn2 : Int) (s2 : S2) => gd ((¬ (10000 ≤ v)) → (-2147483648) ≤ (s2 31 0) + (if v < 100 then 1 else 2 : Int) ∧ (s2 31 0) + (if v < 100 then 1 else 2 : Int) ≤ 2147483647) <| if ((¬ (10000 ≤ v)) ∧ (8 < (s2 31 0) + (if v < 100 then 1 else 2 : Int))) ∧ (x_turn2 < 18) then cb (FX4_oldestStored s2) fun r1 s3 => cb (FX4_freePlace s3) fun r2 s4 => if ((r1 < 0) ∨ (r2 < 0)) ∨ (10 ≤ r2) then KC x_turn2 s4 else bn (upd2 s4 49 r2 1) fun s5 => bn (upd2 s5 28 r1 r2) fun s6 => gd (0 ≤ (s6 31 0) - (s6 27 r1) ∧ (s6 31 0) - (s6 27 r1) ≤ 8) <| bn (upd2 s6 31 0 ((s6 31 0) - (s6 27 r1))) fun s7 => k2 (x_turn2 + 1) s7 else KC x_turn2 s2) turn σ = KC t s1 ∧ gl0 fM (fun k1 (s1 : S2) => bn (fun (s2 : S2) => cb (FX8_oldest s2) fun r6 s15 => gd (0 ≤ r6 ∧ r6 ≤ 17) <| cb (FX8_freePlace s15) fun r7 s16 => bn (upd2 s16 132 r6 r7) fun s17 => k1 s17) fun k2 => bn KM fun k3 => gd ((-2147483648) ≤ (if v < 100 then 1 else (if v < 10000 then 2 else 9 : Int) : Int) ∧ (if v < 100 then 1 else (if v < 10000 then 2 else 9 : Int) : Int) ≤ 2147483647) <| if (if v < 100 then 1 else (if v < 10000 then 2 else 9 : Int) : Int) ≤ 8 then cb (FX8_used s1) fun r1 s4 => if 8 < r1 + (if v < 100 then 1 else (if v < 10000 then 2 else 9 : Int) : Int) then cb (FX8_oldest s4) fun r2 s5 => if r2 ≠ (-1) then cb (FX8_freePlace s5) fun r3 s6 => if r3 ≠ (-1) then k2 s6 else k3 s6 else k3 s5 else k3 s4 else k3 s1) μ = KM m1 ∧ Rg x (-1) B s1 m1 ∧ (∀ k, k ∉ [28, 31, 49] → s1 k = σ k) ∧ (∀ k, k ≠ 132 → m1 k = μ k)
  | m, σ, μ, turn, 0, fM, _, _, _, _, hf, _ => absurd hf (Nat.not_lt_zero _)
  | m, σ, μ, turn, fC + 1, 0, _, _, _, _, _, hf => absurd hf (Nat.not_lt_zero _)
  | m, σ, μ, turn, fC + 1, fM + 1, h, hm, ht, htm, hfC, hfM => by
    obtain ⟨q, q1, q2, q3⟩ := P_free h
    obtain ⟨o, o1, o2, o3⟩ := P_old hB h
    obtain ⟨u1, u2, u3⟩ := P_used h
    have hc := cntI_r (fun q => σ 49 q = 0) 10
    by_cases hlarge : 10000 ≤ v
    · refine ⟨turn, σ, μ, ?_, ?_, h, fun _ _ => rfl, fun _ _ => rfl⟩
      · show gd _ _ = _
        rw [gd_pos (fun w => absurd hlarge w), if_neg (fun w => w.1.1 hlarge)]
      · show bn _ _ = _
        simp only [bn]
        rw [gd_pos (by (repeat' split) <;> omega), if_neg (by (repeat' split) <;> omega)]
    · have hsz : (if v < 100 then 1 else (if v < 10000 then 2 else 9 : Int) : Int) = (if v < 100 then 1 else 2 : Int) := by
        (repeat' split) <;> omega
      have hs1 : 1 ≤ (if v < 100 then 1 else 2 : Int) ∧ (if v < 100 then 1 else 2 : Int) ≤ 2 := by split <;> omega
      by_cases hfull : 8 < σ 31 0 + (if v < 100 then 1 else 2 : Int)
      · by_cases hno : o = -1 ∨ q = -1
        · refine ⟨turn, σ, μ, ?_, ?_, h, fun _ _ => rfl, fun _ _ => rfl⟩
          · show gd _ _ = _
            rw [gd_pos (fun _ => by omega), if_pos ⟨⟨hlarge, hfull⟩, by omega⟩, cb_e o1, cb_e q1, if_pos (by omega)]
          · show bn _ _ = _
            simp only [bn, hsz]
            rw [gd_pos (by omega), if_pos (by omega), cb_e u1, if_pos hfull, cb_e o2]
            by_cases ho : o = -1
            · rw [if_neg (fun w => w ho)]
            · rw [if_pos ho, cb_e q2, if_neg (by omega)]
        · have hq9 : 0 ≤ q ∧ q ≤ 9 ∧ σ 49 q = 0 := q3.resolve_left (fun w => hno (Or.inr w))
          have ho9 : 0 ≤ o ∧ o ≤ 17 ∧ μ 132 o = 10 := o3.resolve_left (fun w => hno (Or.inl w))
          have h27 : 1 ≤ σ 27 o ∧ σ 27 o ≤ σ 31 0 := by
            have hh := h
            obtain ⟨⟨q102, q103, q106, q107, q108, q109, q110, q111, q116, q121, q122, q123, q124, q125, q130, q135, q140⟩, hSp, hMp, hPr, hHd, hFr, hLs, hBl, hWr, hC1, hC2, hC3, hRc, hRo, hSc, hSt, hBd⟩ := h
            have e27 := ((hRc o ho9.1 ho9.2.1).2.2 (by omega)).2.2.1
            have e28 := m_Ro_ge ⟨ho9.1, ho9.2.1⟩ ho9.2.2 hRo
            rw [e27]
            exact ⟨by split <;> omega, e28⟩
          have hR := R_mv (q := q) ⟨ho9.1, ho9.2.1⟩ ho9.2.2 ⟨hq9.1, hq9.2.1⟩ hq9.2.2 h
          have hd : cntI (fun p => (mvC o q σ) 49 p = 0) 10 + 1 = cntI (fun p => σ 49 p = 0) 10 := by
            have e1 : (mvC o q σ) 49 = uc (σ 49) q 1 := by unfold mvC; simp (disch := decide) only [sc_s, sc_k]
            rw [e1]
            exact cntI_dec hq9.1 (by omega) hq9.2.2
          have hc2 := cntI_r (fun p => (mvC o q σ) 49 p = 0) 10
          obtain ⟨m', rfl⟩ : ∃ m', m = m' + 1 := ⟨m - 1, by omega⟩
          obtain ⟨t, s1, m1, a1, a2, a3, a4, a5⟩ := L_keep hB KC KM m' (mvC o q σ) (sc μ 132 (uc (μ 132) o q)) (turn + 1) fC fM hR (by omega) (by omega) (by omega) (by omega) (by omega)
          refine ⟨t, s1, m1, ?_, ?_, a3, ?_, ?_⟩
          · rw [← a1]
            show gd _ _ = _
            rw [gd_pos (fun _ => by omega), if_pos ⟨⟨hlarge, hfull⟩, by omega⟩, cb_e o1, cb_e q1, if_neg (by omega)]
            simp (disch := decide) only [bn, u2_sc, sc_s, sc_k]
            rw [gd_pos (by omega)]
            rfl
          · rw [← a2]
            show bn _ _ = _
            simp only [bn, hsz]
            rw [gd_pos (by omega), if_pos (by omega), cb_e u1, if_pos hfull, cb_e o2, if_pos (by omega), cb_e q2, if_pos (by omega), cb_e o2, gd_pos (by omega), cb_e q2, u2_sc]
          · intro k hk
            rw [a4 k hk]
            simp only [List.mem_cons, List.not_mem_nil, or_false, not_or] at hk
            unfold mvC
            simp only [sc, hk, if_false]
          · intro k hk
            rw [a5 k hk]
            exact sc_k hk
      · refine ⟨turn, σ, μ, ?_, ?_, h, fun _ _ => rfl, fun _ _ => rfl⟩
        · show gd _ _ = _
          rw [gd_pos (fun _ => by omega), if_neg (fun w => hfull w.1.2)]
        · show bn _ _ = _
          simp only [bn, hsz]
          rw [gd_pos (by omega), if_pos (by omega), cb_e u1, if_neg hfull]
