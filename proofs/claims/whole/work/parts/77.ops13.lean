/-! calls: scan -/
theorem R_sc {x y B : Int} {c12 c42 c43 m104 m105 m141 : Int → Int} {σ μ : S2} (hS : rSc c42 c43 c12 (σ 3) m104 m105 m141) (h : Rg x y B σ μ) : Rg x y B (sc (sc (sc σ 12 c12) 42 c42) 43 c43) (sc (sc (sc μ 104 m104) 105 m105) 141 m141) := by
  obtain ⟨⟨q102, q103, q106, q107, q108, q109, q110, q111, q116, q121, q122, q123, q124, q125, q130, q135, q140⟩, hSp, hMp, hPr, hHd, hFr, hLs, hBl, hWr, hC1, hC2, hC3, hRc, hRo, hSc, hSt, hBd⟩ := h
  refine ⟨⟨?_, ?_, ?_, ?_, ?_, ?_, ?_, ?_, ?_, ?_, ?_, ?_, ?_, ?_, ?_, ?_, ?_⟩, ?_, ?_, ?_, ?_, ?_, ?_, ?_, ?_, ?_, ?_, ?_, ?_, ?_, ?_, ?_, ?_⟩
  all_goals (try simp (disch := decide) only [sc_s, sc_k, q102, q103, q106, q107, q108, q109, q110, q111, q116, q121, q122, q123, q124, q125, q130, q135, q140])
  all_goals (try with_reducible assumption)
theorem mp_0 {g c : Int → Int} : mp 0 ((0 : Nat) : Int) g c = c := by
  funext t
  unfold mp
  rw [if_neg (by omega)]
theorem mp_uc {j : Nat} {g c : Int → Int} : uc (mp 0 (j : Int) g c) (j : Int) (g (j : Int)) = mp 0 ((j + 1 : Nat) : Int) g c := by
  funext t
  unfold uc mp
  by_cases h1 : t = j
  · rw [if_pos h1, if_pos (by omega), h1]
  · rw [if_neg h1]
    by_cases h2 : 0 ≤ t ∧ t < 0 + (j : Int)
    · rw [if_pos h2, if_pos (by omega)]
    · rw [if_neg h2, if_neg (by omega)]
theorem clr12 {X : S2} (K : S2 → Option (Int × S2)) : gl1 1000 (fun k2 (x_i_space1 : Int) (s5 : S2) => if x_i_space1 < 6 then gl1 1000 (fun k3 (x_i_entry1 : Int) (s6 : S2) => if x_i_entry1 < 32 then gd (0 ≤ 32 * x_i_space1 + x_i_entry1 ∧ 32 * x_i_space1 + x_i_entry1 ≤ 191) <| bn (upd2 s6 12 (32 * x_i_space1 + x_i_entry1) 0) fun s7 => k3 (x_i_entry1 + 1) s7 else k2 (x_i_space1 + 1) s6) 0 s5 else K s5) 0 X = K (sc X 12 (mp 0 192 (fun _ => 0) (X 12))) := by
  have e : sc X 12 (mp 0 ((0 : Nat) : Int) (fun _ => 0) (X 12)) = X := by
    rw [mp_0, sc_nop rfl]
  have e0 : ∀ j : Nat, sc X 12 (uc (mp 0 (j : Int) (fun _ => 0) (X 12)) (j : Int) 0) = sc X 12 (mp 0 ((j + 1 : Nat) : Int) (fun _ => 0) (X 12)) := fun j => by
    rw [← mp_uc]
  have h := runN (S := fun j : Nat => sc X 12 (mp 0 (j : Int) (fun _ => 0) (X 12))) (Z := K (sc X 12 (mp 0 ((192 : Nat) : Int) (fun _ => 0) (X 12)))) (f := fun k2 (x_i_space1 : Int) (s5 : S2) => if x_i_space1 < 6 then gl1 1000 (fun k3 (x_i_entry1 : Int) (s6 : S2) => if x_i_entry1 < 32 then gd (0 ≤ 32 * x_i_space1 + x_i_entry1 ∧ 32 * x_i_space1 + x_i_entry1 ≤ 191) <| bn (upd2 s6 12 (32 * x_i_space1 + x_i_entry1) 0) fun s7 => k3 (x_i_entry1 + 1) s7 else k2 (x_i_space1 + 1) s6) 0 s5 else K s5) (g := fun k2 (x_i_space1 : Int) k3 (x_i_entry1 : Int) (s6 : S2) => if x_i_entry1 < 32 then gd (0 ≤ 32 * x_i_space1 + x_i_entry1 ∧ 32 * x_i_space1 + x_i_entry1 ≤ 191) <| bn (upd2 s6 12 (32 * x_i_space1 + x_i_entry1) 0) fun s7 => k3 (x_i_entry1 + 1) s7 else k2 (x_i_space1 + 1) s6) (fun k s σ' hs => if_pos (by omega)) (fun k s i k2 hs hi => by
    have e1 : 32 * (s : Int) + (i : Int) = ((32 * s + i : Nat) : Int) := by omega
    try dsimp only
    rw [if_pos (by omega), gd_pos (by omega), e1]
    simp only [bn]
    rw [u2_sc, sc_s, sc_sc, e0]) (fun k s k2 σ' hs => if_neg (by decide)) (fun k => if_neg (by decide))
  try dsimp only at h
  rw [e] at h
  exact h
theorem e7_pass5 {τ : S2} (hS : τ 42 0 = 5) : FX7_passToNextSpace τ = some (0, sc (sc (sc τ 43 (uc (τ 43) 0 0)) 42 (uc (τ 42) 0 0)) 12 (mp 0 192 (fun _ => 0) (τ 12))) := by
  have h := clr12 (X := sc (sc τ 43 (uc (τ 43) 0 0)) 42 (uc (τ 42) 0 0)) (fun s3 => some (0, s3))
  have e4 : (sc (sc τ 43 (uc (τ 43) 0 0)) 42 (uc (τ 42) 0 0)) 12 = τ 12 := by simp (disch := decide) only [sc_s, sc_k]
  rw [e4] at h
  have e1 : upd2 τ 43 0 0 42 0 = 5 := by rw [u2_sc, sc_k (by decide), hS]
  have e2 : upd2 (upd2 τ 43 0 0) 42 0 (5 + 1) 42 0 = 5 + 1 := upd2_s
  have e3 : upd2 (upd2 (upd2 τ 43 0 0) 42 0 (5 + 1)) 42 0 0 = sc (sc τ 43 (uc (τ 43) 0 0)) 42 (uc (τ 42) 0 0) := by
    simp (disch := decide) only [u2_sc, sc_s, sc_k, sc_sc, uc_uc]
  unfold FX7_passToNextSpace
  simp only [bn] at h ⊢
  rw [e1, gd_pos (by decide), e2, if_pos (by decide), e3]
  exact h
theorem e7_pass {S : Int} {τ : S2} (hS : τ 42 0 = S) (h5 : 0 ≤ S ∧ S < 5) : FX7_passToNextSpace τ = some (0, sc (sc τ 43 (uc (τ 43) 0 0)) 42 (uc (τ 42) 0 (S + 1))) := by
  have e1 : upd2 τ 43 0 0 42 0 = S := by rw [u2_sc, sc_k (by decide), hS]
  have e2 : upd2 (upd2 τ 43 0 0) 42 0 (S + 1) 42 0 = S + 1 := upd2_s
  have e3 : upd2 (upd2 τ 43 0 0) 42 0 (S + 1) = sc (sc τ 43 (uc (τ 43) 0 0)) 42 (uc (τ 42) 0 (S + 1)) := by
    simp (disch := decide) only [u2_sc, sc_s, sc_k]
  unfold FX7_passToNextSpace
  simp only [bn]
  rw [e1, gd_pos (by omega), e2, if_neg (by omega), e3]
theorem e8_passes {b e : Int} {μ : S2} (h : μ 104 0 = e) (hb : 1 ≤ b ∧ b ≤ 32) (he : 0 ≤ e ∧ e + b ≤ 192) : FX8_passes b μ = some (0, if e + b = 192 then sc (sc μ 104 (uc (μ 104) 0 0)) 105 (uc (μ 105) 0 0) else sc μ 104 (uc (μ 104) 0 (e + b))) := by
  unfold FX8_passes
  rw [gd_pos hb, h, gd_pos (by omega)]
  simp (disch := decide) only [bn, u2_sc, sc_s, sc_k, uc_s]
  by_cases z : e + b = 192
  · rw [if_pos z, if_pos z, sc_sc, uc_uc]
  · rw [if_neg z, if_neg z]
