/-! who is killed -/
theorem bstI_cut {P : Int → Prop} [DecidablePred P] {lt : Int → Int → Prop} [DecidableRel lt] {n : Nat} : ∀ {m : Nat}, n ≤ m → (∀ i : Int, n ≤ i → i < m → ¬ P i) → bstI P lt m = bstI P lt n
  | 0, h, _ => by
    have : n = 0 := by omega
    rw [this]
  | m + 1, h, g => by
    by_cases hm : n = m + 1
    · rw [hm]
    · have h1 := bstI_cut (P := P) (lt := lt) (n := n) (m := m) (by omega) (fun i a b => g i a (by omega))
      have e0 : bstI P lt (m + 1) = if P (m : Int) ∧ (bstI P lt m = -1 ∨ lt (m : Int) (bstI P lt m)) then (m : Int) else bstI P lt m := rfl
      rw [e0, if_neg (fun q => g m (by omega) (by omega) q.1), h1]
/-- the score of a space -/
def scI (σ : S2) (s : Int) : Int := cntI (fun a => (σ 2 (32 * s + a) ≠ 0) ∧ (σ 8 (32 * s + a) = 1)) 32 + cntI (fun a => (σ 2 (32 * s + a) ≠ 0) ∧ (σ 8 (32 * s + a) = 2)) 32 + σ 34 s
theorem P_score {x y B s : Int} {σ μ : S2} (hs : 0 ≤ s ∧ s ≤ 5) (h : Rg x y B σ μ) : FX5_score s σ = some (scI σ s, σ) ∧ FX8_scoreOf s μ = some (scI σ s, μ) := by
  obtain ⟨⟨q102, q103, q106, q107, q108, q109, q110, q111, q116, q121, q122, q123, q124, q125, q130, q135, q140⟩, hSp, hMp, hPr, hHd, hFr, hLs, hBl, hWr, hC1, hC2, hC3, hRc, hRo, hSc, hSt, hBd⟩ := h
  have h34 := hSp.2.2.1 s hs.1 hs.2
  refine ⟨e7_score hs ⟨h34.2.2.1, h34.2.2.2.1⟩, ?_⟩
  rw [e8_scoreOf hs (by rw [q108]; exact ⟨h34.2.2.1, h34.2.2.2.1⟩)]
  have e1 : cntI (fun a => (0 < μ 111 (32 * s + a)) ∧ (μ 116 (32 * s + a) ≠ 0)) 32 = cntI (fun a => (σ 2 (32 * s + a) ≠ 0) ∧ (σ 8 (32 * s + a) = 1)) 32 + cntI (fun a => (σ 2 (32 * s + a) ≠ 0) ∧ (σ 8 (32 * s + a) = 2)) 32 := by
    refine cntI_split (fun a a0 a1 => ?_) (fun a a0 a1 => by omega)
    have hm := hMp (32 * s + a) (by omega) (by omega)
    have hp := hPr (32 * s + a) (by omega) (by omega)
    rw [q111, q116]
    by_cases h3 : σ 3 (32 * s + a) = 0
    · have := hm.2.2.1 h3
      omega
    · have := (hm.2.2.2 h3).1
      omega
  have e2 : μ 108 s = σ 34 s := by rw [q108]
  rw [e1, e2]
  unfold scI
  congr 2
  omega
abbrev isV (σ : S2) (g s : Int) : Prop := (σ 35 s ≠ 0) ∧ ((g = -1) ∨ (σ 33 s = g))
theorem P_victim {x y B g : Int} {σ μ : S2} (hg : -1 ≤ g ∧ g ≤ 2) (h : Rg x y B σ μ) : FX7_victim g σ = some (bstI (isV σ g) (fun a b => scI σ b < scI σ a) 6, σ) ∧ ∀ (KM : Int → S2 → Option (Int × S2)), gl2 1000 (fun k1 (x_best1 : Int) (x_s1 : Int) (s1 : S2) => if x_s1 < s1 102 0 then bn (fun (v1 : Int) (s2 : S2) => k1 v1 (x_s1 + 1) s2) fun k2 => bn (fun (s3 : S2) => k2 x_s1 s3) fun k3 => bn (fun (s4 : S2) => k2 x_best1 s4) fun k4 => if (s1 106 x_s1 ≠ 0) ∧ ((g = (-1)) ∨ (s1 107 x_s1 = g)) then if x_best1 = (-1) then k3 s1 else cb (FX8_scoreOf x_s1 s1) fun r1 s5 => cb (FX8_scoreOf x_best1 s5) fun r2 s6 => if r2 < r1 then k3 s6 else k4 s6 else k4 s1 else KM x_best1 s1) (-1) 0 μ = KM (bstI (isV σ g) (fun a b => scI σ b < scI σ a) 6) μ := by
  have hh := h
  obtain ⟨⟨q102, q103, q106, q107, q108, q109, q110, q111, q116, q121, q122, q123, q124, q125, q130, q135, q140⟩, hSp, hMp, hPr, hHd, hFr, hLs, hBl, hWr, hC1, hC2, hC3, hRc, hRo, hSc, hSt, hBd⟩ := h
  constructor
  · unfold FX7_victim
    have hr := bstI_r (isV σ g) (fun a b => scI σ b < scI σ a) 6
    refine rgd_eq ?_ (by omega) (by omega)
    rw [gd_pos hg]
    refine gl2_bst (P := isV σ g) (lt := fun a b => scI σ b < scI σ a) (N := 6) (Z := fun b => some (b, σ)) (by decide) ?_ (fun k b => if_neg (by decide))
    intro k j b hj hb
    rw [if_pos (by omega)]
    simp only [bn]
    by_cases hv : isV σ g (j : Int)
    · rw [if_pos hv]
      by_cases hb1 : b = -1
      · rw [if_pos (by omega), if_pos ⟨hv, Or.inl hb1⟩]
      · have hb2 := hb.resolve_left hb1
        rw [if_neg (show ¬ b < 0 by omega), cb_e (P_score (s := (j : Int)) (by omega) hh).1, cb_e (P_score (s := b) (by omega) hh).1]
        by_cases hlt : scI σ b < scI σ j
        · rw [if_pos hlt, if_pos ⟨hv, Or.inr hlt⟩]
        · rw [if_neg hlt, if_neg (fun q => q.2.elim hb1 hlt)]
    · rw [if_neg hv, if_neg (fun q => hv q.1)]
  · intro KM
    obtain ⟨N, hN⟩ := Int.eq_ofNat_of_zero_le hSp.1
    have h6 := hSp.2.1
    have e1 := bstI_cut (P := isV σ g) (lt := fun a b => scI σ b < scI σ a) (n := N) (m := 6) (by omega) (fun i i0 i1 q => q.1 (hSp.2.2.2.1 i (by omega) (by omega)))
    rw [e1]
    have hN2 : μ 102 0 = N := by rw [q102]; exact hN
    refine gl2_bst (P := isV σ g) (lt := fun a b => scI σ b < scI σ a) (N := N) (Z := fun b => KM b μ) (by omega) ?_ (fun k b => if_neg (by omega))
    intro k j b hj hb
    rw [if_pos (by omega)]
    simp only [bn, q106, q107]
    by_cases hv : isV σ g (j : Int)
    · rw [if_pos hv]
      by_cases hb1 : b = -1
      · rw [if_pos hb1, if_pos ⟨hv, Or.inl hb1⟩]
      · have hb2 := hb.resolve_left hb1
        rw [if_neg hb1, cb_e (P_score (s := (j : Int)) (by omega) hh).2, cb_e (P_score (s := b) (by omega) hh).2]
        by_cases hlt : scI σ b < scI σ j
        · rw [if_pos hlt, if_pos ⟨hv, Or.inr hlt⟩]
        · rw [if_neg hlt, if_neg (fun q => q.2.elim hb1 hlt)]
    · rw [if_neg hv, if_neg (fun q => hv q.1)]
theorem P_kill {B g : Int} {σ μ : S2} (hg : -1 ≤ g ∧ g ≤ 2) (h : Rg (-1) (-1) B σ μ) : ∃ v m1, FX7_victim g σ = some (v, σ) ∧ FX8_kills g μ = some (v, m1) ∧ (v = -1 ∧ m1 = μ ∧ (∀ s, 0 ≤ s → s ≤ 5 → ¬ isV σ g s) ∨ 0 ≤ v ∧ v ≤ 5 ∧ isV σ g v ∧ ∃ s1 m2, FX7_bury v σ = some (0, s1) ∧ Rg (-1) (-1) (B + 1) (sc s1 48 (uc (s1 48) 7 (s1 48 7 + 1))) m1 ∧ m1 = sc m2 140 (uc (m2 140) 7 (m2 140 7 + 1)) ∧ BF v σ μ s1 m2) := by
  obtain ⟨a1, a2⟩ := P_victim hg h
  have hr := bstI_r (isV σ g) (fun a b => scI σ b < scI σ a) 6
  rcases hr with w | w
  · refine ⟨_, μ, a1, ?_, Or.inl ⟨w.1, rfl, fun s s0 s1 => w.2 s s0 (by omega)⟩⟩
    unfold FX8_kills
    refine rgd_eq ?_ (by omega) (by omega)
    rw [gd_pos hg]
    refine (a2 _).trans ?_
    simp only [bn]
    rw [if_neg (fun q => q w.1)]
  · obtain ⟨s1, m1, b1, b2, b3, b4⟩ := P_bury (s := bstI (isV σ g) (fun a b => scI σ b < scI σ a) 6) ⟨w.1, by omega⟩ h
    have hBd := b3.2.2.2.2.2.2.2.2.2.2.2.2.2.2.2.2
    have m140 : m1 140 = s1 48 := b3.1.2.2.2.2.2.2.2.2.2.2.2.2.2.2.2.2
    have hcs := R_cs (c := uc (s1 48) 7 (s1 48 7 + 1)) (B' := B + 1) (by omega) (fun k k0 k1 => by
      have := hBd.2.2.2.2 k k0 k1
      unfold uc
      split
      · rename_i q; subst q; omega
      · omega) b3
    refine ⟨_, sc m1 140 (uc (m1 140) 7 (m1 140 7 + 1)), a1, ?_, Or.inr ⟨w.1, by omega, w.2.2, s1, m1, b1, ?_, rfl, b4⟩⟩
    · unfold FX8_kills
      refine rgd_eq ?_ (by omega) (by omega)
      rw [gd_pos hg]
      refine (a2 _).trans ?_
      simp only [bn]
      rw [if_pos (by omega), cb_e b2, u2_sc]
    · rw [m140]
      exact hcs
