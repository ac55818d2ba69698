/-! the calls: what is common -/
def Iv (n : Nat) (σ μ : S2) : Prop := Rg (-1) (-1) (4000000 * (n : Int)) σ μ
theorem gx_1 : gxc (-1000000000001) = 1 := by decide
theorem gx_2 : gxc (-1000000000002) = 2 := by decide
theorem gx_3 : gxc (-1000000000003) = 3 := by decide
theorem gx_0 {r : Int} (h : -2147483648 ≤ r) : gxc r = 0 := by
  unfold gxc
  rw [if_neg (by omega), if_neg (by omega), if_neg (by omega)]
theorem rgx_eq {x : Option (Int × S2)} {r : Int} {s : S2} (h : x = some (r, s)) (h1 : gxc r ≠ 0 ∨ -2147483648 ≤ r ∧ r ≤ 2147483647) : rgx x = some (r, s) := by
  unfold rgx
  rw [h]
  exact if_pos h1
theorem R_101 {x y B : Int} {c : Int → Int} {σ μ : S2} (h : Rg x y B σ μ) : Rg x y B σ (sc μ 101 c) := by
  obtain ⟨⟨q102, q103, q106, q107, q108, q109, q110, q111, q116, q121, q122, q123, q124, q125, q130, q135, q140⟩, hSp, hMp, hPr, hHd, hFr, hLs, hBl, hWr, hC1, hC2, hC3, hRc, hRo, hSc, hSt, hBd⟩ := h
  refine ⟨⟨?_, ?_, ?_, ?_, ?_, ?_, ?_, ?_, ?_, ?_, ?_, ?_, ?_, ?_, ?_, ?_, ?_⟩, ?_, ?_, ?_, ?_, ?_, ?_, ?_, ?_, ?_, ?_, ?_, ?_, ?_, ?_, ?_, ?_⟩
  all_goals (try simp (disch := decide) only [sc_s, sc_k])
  all_goals (try with_reducible assumption)
theorem R_51 {x y B : Int} {c : Int → Int} {σ μ : S2} (h : Rg x y B σ μ) : Rg x y B (sc σ 51 c) μ := by
  obtain ⟨⟨q102, q103, q106, q107, q108, q109, q110, q111, q116, q121, q122, q123, q124, q125, q130, q135, q140⟩, hSp, hMp, hPr, hHd, hFr, hLs, hBl, hWr, hC1, hC2, hC3, hRc, hRo, hSc, hSt, hBd⟩ := h
  refine ⟨⟨?_, ?_, ?_, ?_, ?_, ?_, ?_, ?_, ?_, ?_, ?_, ?_, ?_, ?_, ?_, ?_, ?_⟩, ?_, ?_, ?_, ?_, ?_, ?_, ?_, ?_, ?_, ?_, ?_, ?_, ?_, ?_, ?_, ?_⟩
  all_goals (try simp (disch := decide) only [sc_s, sc_k])
  all_goals (try with_reducible assumption)
theorem iv_ok {n : Nat} {B r : Int} {s m : S2} (hB : B ≤ 4000000 * ((n + 1 : Nat) : Int)) (h : Rg (-1) (-1) B s m) : Iv (n + 1) (if gxc r = 0 then upd2 s 51 0 r else s) m := by
  unfold Iv
  split
  · rw [u2_sc]
    exact R_B hB (R_51 h)
  · exact R_B hB h
theorem iv_th {n : Nat} {r : Int} {c : Int → Int} {s m : S2} (h : Iv n s m) : Iv (n + 1) (if gxc r = 0 then upd2 s 51 0 r else s) (sc m 101 c) := by
  unfold Iv at h
  exact iv_ok (B := 4000000 * (n : Int)) (by omega) (R_101 h)
theorem x_dem {p : Prop} [Decidable p] {σ : S2} (h : p) : FX7_demand (if p then 1 else 0) σ = some (0, σ) := by
  unfold FX7_demand
  rw [if_pos h, gd_pos (by decide), if_pos (by decide)]
theorem x_demN {p : Prop} [Decidable p] {σ : S2} (h : ¬ p) : FX7_demand (if p then 1 else 0) σ = some (-1000000000002, σ) := by
  unfold FX7_demand
  rw [if_neg h, gd_pos (by decide), if_neg (fun z => z rfl)]
theorem x_per {i : Int} {σ : S2} (h : i = 1) : FX7_permit i σ = some (0, σ) := by
  unfold FX7_permit
  rw [h, gd_pos (by decide), if_pos (by decide)]
theorem x_perN {i : Int} {σ : S2} (h : i = 0) : FX7_permit i σ = some (-1000000000003, σ) := by
  unfold FX7_permit
  rw [h, gd_pos (by decide), if_neg (fun z => z rfl)]
theorem x_kn {s : Int} {σ : S2} (hr : -2147483648 ≤ s ∧ s ≤ 2147483647) (h : 0 ≤ s ∧ s ≤ σ 41 0 - 1) (h6 : σ 41 0 ≤ 6) : FX7_known s σ = some (s, σ) := by
  unfold FX7_known
  rw [gd_pos hr, if_neg (by omega)]
theorem x_knN {s : Int} {σ : S2} (hr : -2147483648 ≤ s ∧ s ≤ 2147483647) (h : ¬ (0 ≤ s ∧ s ≤ σ 41 0 - 1)) : FX7_known s σ = some (-1000000000001, σ) := by
  unfold FX7_known
  rw [gd_pos hr, if_pos (by omega)]
theorem x_ca {p : Int} {σ : S2} (h : 0 ≤ p ∧ p ≤ 1) : FX7_cacheOf p σ = some (p, σ) := by
  unfold FX7_cacheOf
  rw [gd_pos (by omega), if_neg (by omega)]
theorem x_caN {p : Int} {σ : S2} (hr : -2147483648 ≤ p ∧ p ≤ 2147483647) (h : ¬ (0 ≤ p ∧ p ≤ 1)) : FX7_cacheOf p σ = some (-1000000000001, σ) := by
  unfold FX7_cacheOf
  rw [gd_pos hr, if_pos (by omega)]
/-- what the reference says of a call -/
def tw (c : Int) (μ : S2) : S2 := sc μ 101 (uc (μ 101) 0 c)
theorem tw_0 {c : Int} {μ : S2} : tw c μ 101 0 = c := by unfold tw; simp (disch := decide) only [sc_s, sc_k, uc_s]
theorem tw_k {c : Int} {μ : S2} {k : Nat} (h : k ≠ 101) : tw c μ k = μ k := sc_k h
theorem R_tw {x y B c : Int} {σ μ : S2} (h : Rg x y B σ μ) : Rg x y B σ (tw c μ) := R_101 h
theorem q_1 {p : Prop} [Decidable p] {μ : S2} (h : p) : FX8_asked (if p then 1 else 0) μ = some (1, tw 0 μ) := by
  unfold FX8_asked tw
  rw [if_pos h]
  refine rgd_eq ?_ (by decide) (by decide)
  rw [gd_pos (by decide)]
  simp only [bn]
  rw [if_pos (by decide), u2_sc]
theorem q_1N {p : Prop} [Decidable p] {μ : S2} (h : ¬ p) : FX8_asked (if p then 1 else 0) μ = some (0, tw 1 μ) := by
  unfold FX8_asked tw
  rw [if_neg h]
  refine rgd_eq ?_ (by decide) (by decide)
  rw [gd_pos (by decide)]
  simp only [bn]
  rw [if_neg (fun z => z rfl), u2_sc]
theorem q_2 {p q : Prop} [Decidable p] [Decidable q] {μ : S2} (h : p) (h2 : q) : FX8_asked_ (if p then 1 else 0) (if q then 1 else 0) μ = some (1, tw 0 μ) := by
  unfold FX8_asked_ tw
  rw [if_pos h, if_pos h2]
  refine rgd_eq ?_ (by decide) (by decide)
  rw [gd_pos (by decide), gd_pos (by decide)]
  simp only [bn]
  rw [if_neg (show ¬ ¬ ((1 : Int) ≠ 0) by decide), if_pos (show (1 : Int) ≠ 0 by decide), u2_sc, sc_s, uc_s]
  rfl
theorem q_2a {p q : Prop} [Decidable p] [Decidable q] {μ : S2} (h : ¬ p) : FX8_asked_ (if p then 1 else 0) (if q then 1 else 0) μ = some (0, tw 1 μ) := by
  unfold FX8_asked_ tw
  rw [if_neg h]
  refine rgd_eq ?_ (by decide) (by decide)
  rw [gd_pos (by decide), gd_pos (by split <;> decide)]
  simp only [bn]
  rw [if_pos (show ¬ ((0 : Int) ≠ 0) by decide), u2_sc, sc_s, uc_s]
  rfl
theorem q_2b {p q : Prop} [Decidable p] [Decidable q] {μ : S2} (h : p) (h2 : ¬ q) : FX8_asked_ (if p then 1 else 0) (if q then 1 else 0) μ = some (0, tw 2 μ) := by
  unfold FX8_asked_ tw
  rw [if_pos h, if_neg h2]
  refine rgd_eq ?_ (by decide) (by decide)
  rw [gd_pos (by decide), gd_pos (by decide)]
  simp only [bn]
  rw [if_neg (show ¬ ¬ ((1 : Int) ≠ 0) by decide), if_neg (show ¬ ((0 : Int) ≠ 0) by decide), u2_sc, sc_s, uc_s]
  rfl
theorem q_3 {p q : Prop} [Decidable p] [Decidable q] {i : Int} {μ : S2} (h : p) (h2 : q) (h3 : i = 1) : FX8_asked__ (if p then 1 else 0) (if q then 1 else 0) i μ = some (1, tw 0 μ) := by
  unfold FX8_asked__ tw
  rw [if_pos h, if_pos h2, h3]
  refine rgd_eq ?_ (by decide) (by decide)
  rw [gd_pos (by decide), gd_pos (by decide), gd_pos (by decide)]
  simp only [bn]
  rw [if_neg (show ¬ ¬ ((1 : Int) ≠ 0) by decide), if_neg (show ¬ ¬ ((1 : Int) ≠ 0) by decide), if_pos (show (1 : Int) ≠ 0 by decide), u2_sc, sc_s, uc_s]
  rfl
theorem q_3a {p q : Prop} [Decidable p] [Decidable q] {i : Int} {μ : S2} (h : ¬ p) (hi : 0 ≤ i ∧ i ≤ 1) : FX8_asked__ (if p then 1 else 0) (if q then 1 else 0) i μ = some (0, tw 1 μ) := by
  unfold FX8_asked__ tw
  rw [if_neg h]
  refine rgd_eq ?_ (by decide) (by decide)
  rw [gd_pos (by decide), gd_pos (by split <;> decide), gd_pos hi]
  simp only [bn]
  rw [if_pos (show ¬ ((0 : Int) ≠ 0) by decide), u2_sc, sc_s, uc_s]
  rfl
theorem q_3b {p q : Prop} [Decidable p] [Decidable q] {i : Int} {μ : S2} (h : p) (h2 : ¬ q) (hi : 0 ≤ i ∧ i ≤ 1) : FX8_asked__ (if p then 1 else 0) (if q then 1 else 0) i μ = some (0, tw 2 μ) := by
  unfold FX8_asked__ tw
  rw [if_pos h, if_neg h2]
  refine rgd_eq ?_ (by decide) (by decide)
  rw [gd_pos (by decide), gd_pos (by decide), gd_pos hi]
  simp only [bn]
  rw [if_neg (show ¬ ¬ ((1 : Int) ≠ 0) by decide), if_pos (show ¬ ((0 : Int) ≠ 0) by decide), u2_sc, sc_s, uc_s]
  rfl
theorem q_3c {p q : Prop} [Decidable p] [Decidable q] {i : Int} {μ : S2} (h : p) (h2 : q) (h3 : i = 0) : FX8_asked__ (if p then 1 else 0) (if q then 1 else 0) i μ = some (0, tw 3 μ) := by
  unfold FX8_asked__ tw
  rw [if_pos h, if_pos h2, h3]
  refine rgd_eq ?_ (by decide) (by decide)
  rw [gd_pos (by decide), gd_pos (by decide), gd_pos (by decide)]
  simp only [bn]
  rw [if_neg (show ¬ ¬ ((1 : Int) ≠ 0) by decide), if_neg (show ¬ ¬ ((1 : Int) ≠ 0) by decide), if_neg (show ¬ ((0 : Int) ≠ 0) by decide), u2_sc, sc_s, uc_s]
  rfl
