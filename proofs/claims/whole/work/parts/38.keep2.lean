/-! a record is kept: the whole -/
theorem m_Rc_kp {c11 c26 c27 c28 c29 c30 c32 m132 m133 m134 : Int → Int} {r v to : Int} (hr : 0 ≤ r ∧ r ≤ 17) (hm : m132 r = -1) (hv : 0 ≤ v ∧ v ≤ 99999) (hto : 0 ≤ to ∧ to ≤ 10) (h32 : 0 ≤ c32 0) (h : rRc (-1) c11 c26 c27 c28 c29 c30 c32 m132 m133 m134) : rRc r c11 (uc c26 r v) (uc c27 r (if v < 100 then 1 else 2)) (uc c28 r to) (uc c29 r (c32 0 + 1)) c30 (uc c32 0 (c32 0 + 1)) (uc m132 r to) (uc m133 r v) (uc m134 r (c32 0)) := by
  intro q q0 q1
  have h1 := h q q0 q1
  by_cases hq : q = r
  · subst hq
    simp only [uc_s]
    exact ⟨h1.1, ⟨fun w => by omega, fun w => absurd rfl w.2⟩, fun _ => ⟨trivial, trivial, trivial, hto.1, hto.2, hv.1, hv.2, trivial, h32, by omega⟩⟩
  · simp only [uc_n hq, uc_s]
    refine ⟨h1.1, ⟨fun w => ⟨(h1.2.1.mp w).1, hq⟩, fun w => h1.2.1.mpr ⟨w.1, by omega⟩⟩, fun w => ?_⟩
    have h2 := h1.2.2 w
    exact ⟨h2.1, h2.2.1, h2.2.2.1, h2.2.2.2.1, h2.2.2.2.2.1, h2.2.2.2.2.2.1, h2.2.2.2.2.2.2.1, h2.2.2.2.2.2.2.2.1, h2.2.2.2.2.2.2.2.2.1, by omega⟩
theorem m_Ro_k10 {c31 c49 m132 m133 : Int → Int} {r v : Int} (hr : 0 ≤ r ∧ r ≤ 17) (hm : m132 r = -1) (hfit : c31 0 + (if v < 100 then 1 else 2) ≤ 8) (h : rRo c31 c49 m132 m133) : rRo (uc c31 0 (c31 0 + (if v < 100 then 1 else 2))) c49 (uc m132 r 10) (uc m133 r v) := by
  obtain ⟨a1, a2, a3, a4⟩ := h
  have e := sumI_one (g := fun q => if uc m132 r 10 q = 10 then (if uc m133 r v q < 100 then 1 else 2) else 0) (h := fun q => if m132 q = 10 then (if m133 q < 100 then 1 else 2) else 0) (a := r) (n := 18) hr.1 (by omega) (fun i _ _ hi => by rw [uc_n hi, uc_n hi])
  rw [uc_s, uc_s, if_pos rfl, if_neg (show ¬ m132 r = 10 by omega)] at e
  refine ⟨?_, ?_, ?_, ?_⟩
  · rw [uc_s, e, a1]; omega
  · rw [uc_s]; exact hfit
  · intro a b a0 a1 b0 b1 hab
    by_cases ha : a = r
    · rw [ha, uc_s]; intro _ w; omega
    · rw [uc_n ha] at hab ⊢
      by_cases hb : b = r
      · rw [hb, uc_s] at hab; intro _ w; omega
      · rw [uc_n hb] at hab
        exact a3 a b a0 a1 b0 b1 hab
  · intro p p0 p1
    have h2 := a4 p p0 p1
    refine ⟨h2.1, h2.2.1, h2.2.2.trans ⟨?_, ?_⟩⟩
    · rintro ⟨i, u, v, z⟩
      exact ⟨i, u, v, by rw [uc_n (fun w => by rw [w] at z; omega)]; exact z⟩
    · rintro ⟨i, u, v, z⟩
      by_cases hi : i = r
      · rw [hi, uc_s] at z; omega
      · rw [uc_n hi] at z; exact ⟨i, u, v, z⟩
theorem m_Ro_kp {c31 c49 m132 m133 : Int → Int} {r v q : Int} (hr : 0 ≤ r ∧ r ≤ 17) (hm : m132 r = -1) (hq : 0 ≤ q ∧ q ≤ 9) (hf : c49 q = 0) (h : rRo c31 c49 m132 m133) : rRo c31 (uc c49 q 1) (uc m132 r q) (uc m133 r v) := by
  obtain ⟨a1, a2, a3, a4⟩ := h
  have e := sumI_one (g := fun z => if uc m132 r q z = 10 then (if uc m133 r v z < 100 then 1 else 2) else 0) (h := fun z => if m132 z = 10 then (if m133 z < 100 then 1 else 2) else 0) (a := r) (n := 18) hr.1 (by omega) (fun i _ _ hi => by rw [uc_n hi, uc_n hi])
  rw [uc_s, uc_s, if_neg (show ¬ q = 10 by omega), if_neg (show ¬ m132 r = 10 by omega)] at e
  have hnq : ∀ z, 0 ≤ z → z ≤ 17 → m132 z ≠ q := fun z z0 z1 w => by
    have := (a4 q hq.1 hq.2).2.2.mpr ⟨z, z0, z1, w⟩
    omega
  refine ⟨?_, a2, ?_, ?_⟩
  · rw [e, a1]; omega
  · intro a b a0 a1 b0 b1 hab
    by_cases ha : a = r
    · subst ha
      rw [uc_s] at hab ⊢
      by_cases hb : b = a
      · exact fun _ _ => hb.symm
      · rw [uc_n hb] at hab
        exact absurd hab.symm (hnq b b0 b1)
    · rw [uc_n ha] at hab ⊢
      by_cases hb : b = r
      · subst hb
        rw [uc_s] at hab
        exact absurd hab (hnq a a0 a1)
      · rw [uc_n hb] at hab
        exact a3 a b a0 a1 b0 b1 hab
  · intro p p0 p1
    have h2 := a4 p p0 p1
    by_cases hp : p = q
    · subst hp
      rw [uc_s]
      exact ⟨by decide, by decide, ⟨fun _ => ⟨r, hr.1, hr.2, uc_s⟩, fun _ => by decide⟩⟩
    · rw [uc_n hp]
      refine ⟨h2.1, h2.2.1, h2.2.2.trans ⟨?_, ?_⟩⟩
      · rintro ⟨i, u, v, z⟩
        exact ⟨i, u, v, by rw [uc_n (fun w => by rw [w] at z; omega)]; exact z⟩
      · rintro ⟨i, u, v, z⟩
        by_cases hi : i = r
        · rw [hi, uc_s] at z; omega
        · rw [uc_n hi] at z; exact ⟨i, u, v, z⟩
/-- the record's own cells -/
def kpC (r v to : Int) (c31 c49 : Int → Int) (σ : S2) : S2 := sc (sc (sc (sc (sc (sc (sc σ 31 c31) 49 c49) 32 (uc (σ 32) 0 (σ 32 0 + 1))) 29 (uc (σ 29) r (σ 32 0 + 1))) 26 (uc (σ 26) r v)) 27 (uc (σ 27) r (if v < 100 then 1 else 2))) 28 (uc (σ 28) r to)
def kpM (r v to : Int) (μ : S2) : S2 := sc (sc (sc (sc μ 132 (uc (μ 132) r to)) 133 (uc (μ 133) r v)) 134 (uc (μ 134) r (μ 103 0))) 103 (uc (μ 103) 0 (μ 103 0 + 1))
theorem R_kept {x B r v to : Int} {c31 c49 : Int → Int} {σ μ : S2} (hr : 0 ≤ r ∧ r ≤ 17) (hm : μ 132 r = -1) (hv : 0 ≤ v ∧ v ≤ 99999) (hto : 0 ≤ to ∧ to ≤ 10) (hRo2 : rRo c31 c49 (uc (μ 132) r to) (uc (μ 133) r v)) (h : Rg x (-1) B σ μ) : Rg x r (B + 1) (kpC r v to c31 c49 σ) (kpM r v to μ) := by
  obtain ⟨⟨q102, q103, q106, q107, q108, q109, q110, q111, q116, q121, q122, q123, q124, q125, q130, q135, q140⟩, hSp, hMp, hPr, hHd, hFr, hLs, hBl, hWr, hC1, hC2, hC3, hRc, hRo, hSc, hSt, hBd⟩ := h
  have hRc2 := m_Rc_kp hr hm hv hto hBd.1 hRc
  unfold kpC kpM
  refine ⟨⟨?_, ?_, ?_, ?_, ?_, ?_, ?_, ?_, ?_, ?_, ?_, ?_, ?_, ?_, ?_, ?_, ?_⟩, ?_, ?_, ?_, ?_, ?_, ?_, ?_, ?_, ?_, ?_, ?_, ?_, ?_, ?_, ?_, ?_⟩
  all_goals (try simp (disch := decide) only [sc_s, sc_k, q102, q103, q106, q107, q108, q109, q110, q111, q116, q121, q122, q123, q124, q125, q130, q135, q140])
  all_goals (try with_reducible assumption)
  obtain ⟨b1, b2, b3, b4, b5⟩ := hBd
  refine ⟨?_, ?_, b3, by omega, fun k k0 k1 => ?_⟩
  · rw [uc_s]; omega
  · rw [uc_s]; omega
  · have := b5 k k0 k1; omega
/-- the rest behind the loop: the class's -/
theorem P_keep {x B v : Int} {σ μ : S2} (hB : B ≤ 2147483647) (hv : 0 ≤ v ∧ v ≤ 99999) (h : Rg x (-1) B σ μ) : ∃ r s1 m1, FX4_keep v σ = some (r, s1) ∧ FX8_records v μ = some (r, m1) ∧ (r = -1 ∧ Rg x (-1) B s1 m1 ∨ 0 ≤ r ∧ r ≤ 17 ∧ Rg x r (B + 1) s1 m1) ∧ (∀ k, k ∉ [26, 27, 28, 29, 31, 32, 49] → s1 k = σ k) ∧ (∀ k, k ∉ [103, 132, 133, 134] → m1 k = μ k) := by
  have hmeas := cntI_r (fun q => σ 49 q = 0) 10
  -- what comes behind the loop, in any state
  have hrest : ∀ (KC : Int → S2 → Option (Int × S2)) (KM : S2 → Option (Int × S2)), (∀ (t : Int) (s1 m1 : S2), Rg x (-1) B s1 m1 → ∃ r s2 m2, KC t s1 = some (r, s2) ∧ KM m1 = some (r, m2) ∧ (r = -1 ∧ Rg x (-1) B s2 m2 ∨ 0 ≤ r ∧ r ≤ 17 ∧ Rg x r (B + 1) s2 m2) ∧ (∀ k, k ∉ [26, 27, 28, 29, 31, 32, 49] → s2 k = s1 k) ∧ (∀ k, k ∉ [103, 132, 133, 134] → m2 k = m1 k)) → ∀ (oC oM : Option (Int × S2)), (∃ t s1 m1, oC = KC t s1 ∧ oM = KM m1 ∧ Rg x (-1) B s1 m1 ∧ (∀ k, k ∉ [28, 31, 49] → s1 k = σ k) ∧ (∀ k, k ≠ 132 → m1 k = μ k)) → ∃ r s1 m1, rgd (-1) 17 oC = some (r, s1) ∧ rgd (-1) 17 oM = some (r, m1) ∧ (r = -1 ∧ Rg x (-1) B s1 m1 ∨ 0 ≤ r ∧ r ≤ 17 ∧ Rg x r (B + 1) s1 m1) ∧ (∀ k, k ∉ [26, 27, 28, 29, 31, 32, 49] → s1 k = σ k) ∧ (∀ k, k ∉ [103, 132, 133, 134] → m1 k = μ k) := by
    rintro KC KM hK oC oM ⟨t, s1, m1, a1, a2, a3, a4, a5⟩
    obtain ⟨r, s2, m2, b1, b2, b3, b4, b5⟩ := hK t s1 m1 a3
    refine ⟨r, s2, m2, rgd_eq (a1.trans b1) (by omega) (by omega), rgd_eq (a2.trans b2) (by omega) (by omega), b3, ?_, ?_⟩
    · intro k hk
      rw [b4 k hk]
      refine a4 k ?_
      simp only [List.mem_cons, List.not_mem_nil, or_false, not_or] at hk ⊢
      omega
    · intro k hk
      rw [b5 k hk]
      refine a5 k ?_
      simp only [List.mem_cons, List.not_mem_nil, or_false, not_or] at hk
      exact hk.2.1
  unfold FX4_keep FX8_records
  rw [gd_pos hv, gd_pos hv]
  refine hrest _ _ ?_ _ _ (L_keep hB _ _ 10 σ μ 0 1000 1000 h (by omega) (by omega) (by omega) (by omega) (by omega))
  clear hrest hmeas h
  clear σ μ
  intro t σ μ h
  obtain ⟨q, q1, q2, q3⟩ := P_free h
  obtain ⟨u1, u2, u3⟩ := P_used h
  have hfin : ∀ to, (to = 10 ∧ v < 10000 ∧ σ 31 0 + (if v < 100 then 1 else 2 : Int) ≤ 8 ∨ to = q ∧ ¬ (v < 10000 ∧ σ 31 0 + (if v < 100 then 1 else 2 : Int) ≤ 8)) → ∃ r s2 m2, (cb (FX4_unused σ) fun r4 s10 => if (r4 < 0) ∨ (to = (-1)) then some ((-1), s10) else bn (fun (s11 : S2) => bn (upd2 s11 32 0 ((s11 32 0) + 1)) fun s15 => bn (upd2 s15 29 r4 (s15 32 0)) fun s16 => bn (upd2 s16 26 r4 v) fun s17 => gd (0 ≤ (if v < 100 then 1 else 2 : Int) ∧ (if v < 100 then 1 else 2 : Int) ≤ 2) <| bn (upd2 s17 27 r4 (if v < 100 then 1 else 2 : Int)) fun s18 => gd (0 ≤ to ∧ to ≤ 10) <| bn (upd2 s18 28 r4 to) fun s19 => some (r4, s19)) fun k4 => if to = 10 then gd (0 ≤ (s10 31 0) + (if v < 100 then 1 else 2 : Int) ∧ (s10 31 0) + (if v < 100 then 1 else 2 : Int) ≤ 8) <| bn (upd2 s10 31 0 ((s10 31 0) + (if v < 100 then 1 else 2 : Int))) fun s12 => k4 s12 else bn (fun (s13 : S2) => k4 s13) fun k5 => if (0 ≤ to) ∧ (to < 10) then bn (upd2 s10 49 to 1) fun s14 => k5 s14 else k5 s10) = some (r, s2) ∧ gl1 1000 (fun k5 (x_r1 : Int) (s10 : S2) => if (x_r1 < 18) ∧ (to ≠ (-1)) then if s10 132 x_r1 = (-1) then gd ((-1) ≤ to ∧ to ≤ 10) <| bn (upd2 s10 132 x_r1 to) fun s11 => bn (upd2 s11 133 x_r1 v) fun s12 => bn (upd2 s12 134 x_r1 (s12 103 0)) fun s13 => bn (upd2 s13 103 0 ((s13 103 0) + 1)) fun s14 => some (x_r1, s14) else k5 (x_r1 + 1) s10 else some ((-1), s10)) 0 μ = some (r, m2) ∧ (r = -1 ∧ Rg x (-1) B s2 m2 ∨ 0 ≤ r ∧ r ≤ 17 ∧ Rg x r (B + 1) s2 m2) ∧ (∀ k, k ∉ [26, 27, 28, 29, 31, 32, 49] → s2 k = σ k) ∧ (∀ k, k ∉ [103, 132, 133, 134] → m2 k = μ k) := by
    intro to hto
    have hh := h
    obtain ⟨⟨q102, q103, q106, q107, q108, q109, q110, q111, q116, q121, q122, q123, q124, q125, q130, q135, q140⟩, hSp, hMp, hPr, hHd, hFr, hLs, hBl, hWr, hC1, hC2, hC3, hRc, hRo, hSc, hSt, hBd⟩ := h
    rw [cb_e e7_unused]
    have hfu : fstI (fun r => μ 132 r = -1) 18 = fstI (fun r => σ 30 r = 0) 18 := fstI_cg fun r r0 r1 => by
      have h1 := hRc r r0 (by omega)
      exact h1.2.1.trans ⟨fun w => w.1, fun w => ⟨w, by omega⟩⟩
    by_cases hno : to = -1
    · refine ⟨-1, σ, μ, if_pos (Or.inr hno), ?_, Or.inl ⟨rfl, hh⟩, fun _ _ => rfl, fun _ _ => rfl⟩
      show (if ((0 : Int) < 18) ∧ (to ≠ (-1)) then _ else some ((-1 : Int), μ)) = _
      rw [if_neg (fun w => w.2 hno)]
    · have hto2 : 0 ≤ to ∧ to ≤ 10 := by omega
      have hM := gl1_fst (P := fun r => μ 132 r = -1) (m := μ) (N := 18) (f := fun k5 (x_r1 : Int) (s10 : S2) => if (x_r1 < 18) ∧ (to ≠ (-1)) then if s10 132 x_r1 = (-1) then gd ((-1) ≤ to ∧ to ≤ 10) <| bn (upd2 s10 132 x_r1 to) fun s11 => bn (upd2 s11 133 x_r1 v) fun s12 => bn (upd2 s12 134 x_r1 (s12 103 0)) fun s13 => bn (upd2 s13 103 0 ((s13 103 0) + 1)) fun s14 => some (x_r1, s14) else k5 (x_r1 + 1) s10 else some ((-1), s10)) (A := fun r => some (r, kpM r v to μ)) (Z := some (-1, μ)) (by decide) (by
        intro k j hj
        rw [if_pos ⟨by omega, hno⟩]
        by_cases hj1 : μ 132 j = -1
        · rw [if_pos hj1, if_pos hj1, gd_pos (by omega)]
          unfold kpM
          simp (disch := decide) only [bn, u2_sc, sc_s, sc_k]
        · rw [if_neg hj1, if_neg hj1]) (fun k => if_neg (fun w => absurd w.1 (by decide)))
      rw [hM, hfu]
      rcases fstI_cases (fun r => σ 30 r = 0) 18 with w | w
      · rw [w.1]
        exact ⟨-1, σ, μ, if_pos (Or.inl (by decide)), if_pos rfl, Or.inl ⟨rfl, hh⟩, fun _ _ => rfl, fun _ _ => rfl⟩
      · have hr17 : 0 ≤ fstI (fun r => σ 30 r = 0) 18 ∧ fstI (fun r => σ 30 r = 0) 18 ≤ 17 := ⟨w.1, by omega⟩
        have hmr : μ 132 (fstI (fun r => σ 30 r = 0) 18) = -1 := (hRc _ hr17.1 hr17.2).2.1.mpr ⟨w.2.2.1, by omega⟩
        generalize fstI (fun r => σ 30 r = 0) 18 = r at *
        have hs1 : 1 ≤ (if v < 100 then 1 else 2 : Int) ∧ (if v < 100 then 1 else 2 : Int) ≤ 2 := by split <;> omega
        by_cases h10 : to = 10
        · have hfit : σ 31 0 + (if v < 100 then 1 else 2 : Int) ≤ 8 := by omega
          subst h10
          refine ⟨r, kpC r v 10 (uc (σ 31) 0 (σ 31 0 + (if v < 100 then 1 else 2 : Int))) (σ 49) σ, kpM r v 10 μ, ?_, if_neg (by omega), Or.inr ⟨hr17.1, hr17.2, R_kept hr17 hmr hv (by decide) (m_Ro_k10 hr17 hmr hfit hRo) hh⟩, ?_, ?_⟩
          · simp only [bn]
            rw [if_neg (show ¬ (r < 0 ∨ (10 : Int) = -1) by omega), if_pos trivial, gd_pos (by omega), gd_pos (by omega), gd_pos (by omega)]
            unfold kpC
            rw [sc_nop (k := 49) (by simp (disch := decide) only [sc_s, sc_k])]
            simp (disch := decide) only [u2_sc, sc_s, sc_k, uc_s]
          · intro k hk
            simp only [List.mem_cons, List.not_mem_nil, or_false, not_or] at hk
            unfold kpC
            simp only [sc, hk, if_false]
          · intro k hk
            simp only [List.mem_cons, List.not_mem_nil, or_false, not_or] at hk
            unfold kpM
            simp only [sc, hk, if_false]
        · have hq9 : 0 ≤ q ∧ q ≤ 9 ∧ σ 49 q = 0 := by omega
          have htq : to = q := by omega
          subst htq
          refine ⟨r, kpC r v to (σ 31) (uc (σ 49) to 1) σ, kpM r v to μ, ?_, if_neg (by omega), Or.inr ⟨hr17.1, hr17.2, R_kept hr17 hmr hv hto2 (m_Ro_kp hr17 hmr ⟨hq9.1, hq9.2.1⟩ hq9.2.2 hRo) hh⟩, ?_, ?_⟩
          · simp only [bn]
            rw [if_neg (show ¬ (r < 0 ∨ to = -1) by omega), if_neg h10, if_pos (show 0 ≤ to ∧ to < 10 by omega), gd_pos (by omega), gd_pos (by omega)]
            unfold kpC
            rw [sc_nop (σ := σ) (k := 31) rfl]
            simp (disch := decide) only [u2_sc, sc_s, sc_k, uc_s]
          · intro k hk
            simp only [List.mem_cons, List.not_mem_nil, or_false, not_or] at hk
            unfold kpC
            simp only [sc, hk, if_false]
          · intro k hk
            simp only [List.mem_cons, List.not_mem_nil, or_false, not_or] at hk
            unfold kpM
            simp only [sc, hk, if_false]
  have hs1 : 1 ≤ (if v < 100 then 1 else 2 : Int) ∧ (if v < 100 then 1 else 2 : Int) ≤ 2 := by split <;> omega
  have hs2 : 1 ≤ (if v < 100 then 1 else (if v < 10000 then 2 else 9 : Int) : Int) ∧ (if v < 100 then 1 else (if v < 10000 then 2 else 9 : Int) : Int) ≤ 9 := by (repeat' split) <;> omega
  have hs3 : (σ 31 0 + (if v < 100 then 1 else (if v < 10000 then 2 else 9 : Int) : Int) ≤ 8) ↔ v < 10000 ∧ σ 31 0 + (if v < 100 then 1 else 2 : Int) ≤ 8 := by (repeat' split) <;> omega
  simp only [bn] at hfin ⊢
  by_cases hfit : v < 10000 ∧ σ 31 0 + (if v < 100 then 1 else 2 : Int) ≤ 8
  · obtain ⟨r, s2, m2, f1, f2, f3⟩ := hfin 10 (Or.inl ⟨rfl, hfit⟩)
    refine ⟨r, s2, m2, ?_, ?_, f3⟩
    · rw [gd_pos (fun _ => by omega), if_pos ⟨by omega, hfit.2⟩]
      exact f1
    · rw [cb_e u1, gd_pos (by omega), if_pos (hs3.mpr hfit)]
      exact f2
  · obtain ⟨r, s2, m2, f1, f2, f3⟩ := hfin q (Or.inr ⟨rfl, hfit⟩)
    refine ⟨r, s2, m2, ?_, ?_, f3⟩
    · rw [gd_pos (fun _ => by omega), if_neg (fun w => hfit ⟨by omega, w.2⟩), cb_e q1]
      exact f1
    · rw [cb_e u1, gd_pos (by omega), if_neg (fun w => hfit (hs3.mp w)), cb_e q2]
      exact f2
