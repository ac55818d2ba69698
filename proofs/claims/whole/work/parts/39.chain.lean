/-! loops on both sides at once -/
theorem chain {J : Nat → S2 → S2 → Prop} {T : Nat → S2 → S2 → S2 → S2 → Prop} : ∀ (N : Nat), (∀ j σ μ, j < N → J j σ μ → ∃ σ' μ', T j σ μ σ' μ' ∧ J (j + 1) σ' μ') → ∀ (σ μ : S2), J 0 σ μ → ∃ S M : Nat → S2, S 0 = σ ∧ M 0 = μ ∧ (∀ j, j ≤ N → J j (S j) (M j)) ∧ ∀ j, j < N → T j (S j) (M j) (S (j + 1)) (M (j + 1))
  | 0, _, σ, μ, h0 => ⟨fun _ => σ, fun _ => μ, rfl, rfl, fun j hj => by
      have : j = 0 := by omega
      rw [this]; exact h0, fun j hj => absurd hj (Nat.not_lt_zero _)⟩
  | N + 1, h, σ, μ, h0 => by
    obtain ⟨S, M, a1, a2, a3, a4⟩ := chain N (fun j s m hj => h j s m (by omega)) σ μ h0
    obtain ⟨s', m', b1, b2⟩ := h N (S N) (M N) (by omega) (a3 N (Nat.le_refl _))
    refine ⟨fun j => if j ≤ N then S j else s', fun j => if j ≤ N then M j else m', ?_, ?_, ?_, ?_⟩
    · show (if 0 ≤ N then S 0 else s') = σ
      rw [if_pos (Nat.zero_le _)]; exact a1
    · show (if 0 ≤ N then M 0 else m') = μ
      rw [if_pos (Nat.zero_le _)]; exact a2
    · intro j hj
      show J j (if j ≤ N then S j else s') (if j ≤ N then M j else m')
      by_cases hjN : j ≤ N
      · rw [if_pos hjN, if_pos hjN]; exact a3 j hjN
      · rw [if_neg hjN, if_neg hjN]
        have : j = N + 1 := by omega
        rw [this]; exact b2
    · intro j hj
      show T j (if j ≤ N then S j else s') (if j ≤ N then M j else m') (if j + 1 ≤ N then S (j + 1) else s') (if j + 1 ≤ N then M (j + 1) else m')
      rw [if_pos (by omega), if_pos (by omega)]
      by_cases hjN : j + 1 ≤ N
      · rw [if_pos hjN, if_pos hjN]; exact a4 j (by omega)
      · rw [if_neg hjN, if_neg hjN]
        have : j = N := by omega
        rw [this]; exact b1
theorem run1 {β : Type} {f : (Int → S2 → Option β) → Int → S2 → Option β} {M : Nat → S2} {N : Nat} {x0 : Int} {Z : Option β} (hN : N ≤ 900) (hs : ∀ k (j : Nat), j < N → f k (x0 + j) (M j) = k (x0 + j + 1) (M (j + 1))) (he : ∀ k, f k (x0 + N) (M N) = Z) : gl1 1000 f x0 (M 0) = Z := by
  refine glw1 N (fun j x s => j ≤ N ∧ x = x0 + j ∧ s = M j) (fun o => o = Z) ?_ 1000 0 x0 (M 0) (by omega) (Nat.zero_le _) ⟨Nat.zero_le _, by omega, rfl⟩
  rintro k j x s ⟨hj, rfl, rfl⟩ ih
  by_cases hjN : j < N
  · rw [hs k j hjN]
    exact ih hjN _ _ ⟨hjN, by omega, rfl⟩
  · have : j = N := by omega
    subst this
    exact he k
/-- the class goes through all spaces' entries -/
theorem runN {β : Type} {f : (Int → S2 → Option β) → Int → S2 → Option β} {g : (Int → S2 → Option β) → Int → (Int → S2 → Option β) → Int → S2 → Option β} {S : Nat → S2} {Z : Option β}
    (ho : ∀ k (s : Nat) σ, s < 6 → f k s σ = gl1 1000 (g k s) 0 σ) (hi : ∀ k (s i : Nat) k2, s < 6 → i < 32 → g k s k2 i (S (32 * s + i)) = k2 ((i : Int) + 1) (S (32 * s + i + 1))) (hie : ∀ k (s : Nat) k2 σ, s < 6 → g k s k2 32 σ = k ((s : Int) + 1) σ) (he : ∀ k, f k 6 (S 192) = Z) : gl1 1000 f 0 (S 0) = Z := by
  refine glw1 6 (fun s x σ => s ≤ 6 ∧ x = s ∧ σ = S (32 * s)) (fun o => o = Z) ?_ 1000 0 0 (S 0) (by omega) (Nat.zero_le _) ⟨Nat.zero_le _, rfl, rfl⟩
  rintro k s x σ ⟨hs, rfl, rfl⟩ ih
  by_cases hs6 : s < 6
  · rw [ho k s _ hs6]
    have h1 := run1 (f := g k s) (M := fun i => S (32 * s + i)) (N := 32) (x0 := 0) (Z := k ((s : Int) + 1) (S (32 * s + 32))) (by decide) (fun k2 i hi2 => by
      rw [Int.zero_add]; exact hi k s i k2 hs6 hi2) (fun k2 => by rw [Int.zero_add]; exact hie k s k2 _ hs6)
    refine h1.trans ?_
    exact ih hs6 _ _ ⟨hs6, by omega, rfl⟩
  · have : s = 6 := by omega
    subst this
    exact he k
