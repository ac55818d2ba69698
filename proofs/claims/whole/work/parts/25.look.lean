/-! loops that look: what they find -/
/-- the first of n that holds P, else -1 -/
def fstI (P : Int → Prop) [DecidablePred P] : Nat → Int
  | 0 => -1
  | n + 1 => if fstI P n ≠ -1 then fstI P n else if P (n : Int) then (n : Int) else -1
theorem fstI_n {P : Int → Prop} [DecidablePred P] : ∀ {n : Nat}, (∀ i : Int, 0 ≤ i → i < n → ¬ P i) → fstI P n = -1
  | 0, _ => rfl
  | n + 1, h => by
    have h1 := fstI_n (P := P) (n := n) fun i h0 h1 => h i h0 (by omega)
    unfold fstI
    rw [if_neg (fun q => q h1), if_neg (h n (by omega) (by omega))]
theorem fstI_y {P : Int → Prop} [DecidablePred P] : ∀ {n j : Nat}, j < n → P (j : Int) → (∀ i : Int, 0 ≤ i → i < j → ¬ P i) → fstI P n = j
  | 0, j, h, _, _ => absurd h (Nat.not_lt_zero _)
  | n + 1, j, h, hp, hn => by
    unfold fstI
    by_cases hj : j = n
    · subst hj
      rw [if_neg (fun q => q (fstI_n hn)), if_pos hp]
    · have h1 := fstI_y (P := P) (n := n) (j := j) (by omega) hp hn
      rw [if_pos (by omega), h1]
theorem fstI_cases (P : Int → Prop) [DecidablePred P] : ∀ n : Nat, (fstI P n = -1 ∧ ∀ i : Int, 0 ≤ i → i < n → ¬ P i) ∨ (0 ≤ fstI P n ∧ fstI P n < n ∧ P (fstI P n) ∧ ∀ i : Int, 0 ≤ i → i < fstI P n → ¬ P i)
  | 0 => Or.inl ⟨rfl, fun i h0 h1 => by omega⟩
  | n + 1 => by
    rcases fstI_cases P n with ⟨h1, h2⟩ | ⟨h1, h2, h3, h4⟩
    · by_cases hp : P (n : Int)
      · have h5 : fstI P (n + 1) = (n : Int) := by
          show (if fstI P n ≠ -1 then fstI P n else if P (n : Int) then (n : Int) else -1) = n
          rw [if_neg (fun q => q h1), if_pos hp]
        right
        rw [h5]
        exact ⟨by omega, by omega, hp, fun i a b => h2 i a b⟩
      · left
        refine ⟨?_, fun i a b => ?_⟩
        · show (if fstI P n ≠ -1 then fstI P n else if P (n : Int) then (n : Int) else -1) = -1
          rw [if_neg (fun q => q h1), if_neg hp]
        · by_cases hi : i = n
          · rw [hi]; exact hp
          · exact h2 i a (by omega)
    · have h5 : fstI P (n + 1) = fstI P n := by
        show (if fstI P n ≠ -1 then fstI P n else if P (n : Int) then (n : Int) else -1) = fstI P n
        rw [if_pos (by omega)]
      right
      rw [h5]
      exact ⟨h1, by omega, h3, h4⟩
theorem fstI_r {P : Int → Prop} [DecidablePred P] {n : Nat} : -1 ≤ fstI P n ∧ fstI P n < n := by
  rcases fstI_cases P n with ⟨h1, h2⟩ | ⟨h1, h2, h3, h4⟩ <;> omega
theorem fstI_cg {P Q : Int → Prop} [DecidablePred P] [DecidablePred Q] : ∀ {n : Nat}, (∀ i : Int, 0 ≤ i → i < n → (P i ↔ Q i)) → fstI P n = fstI Q n
  | 0, _ => rfl
  | n + 1, h => by
    have h1 := fstI_cg (n := n) fun i h0 h1 => h i h0 (by omega)
    have h2 := h n (by omega) (by omega)
    unfold fstI
    rw [h1]
    by_cases hp : P (n : Int)
    · rw [if_pos hp, if_pos (h2.mp hp)]
    · rw [if_neg hp, if_neg (fun q => hp (h2.mpr q))]
/-- the best of n: the first that no later one beats -/
def bstI (P : Int → Prop) [DecidablePred P] (lt : Int → Int → Prop) [DecidableRel lt] : Nat → Int
  | 0 => -1
  | n + 1 => if P (n : Int) ∧ (bstI P lt n = -1 ∨ lt (n : Int) (bstI P lt n)) then (n : Int) else bstI P lt n
theorem bstI_r (P : Int → Prop) [DecidablePred P] (lt : Int → Int → Prop) [DecidableRel lt] : ∀ n : Nat, (bstI P lt n = -1 ∧ ∀ i : Int, 0 ≤ i → i < n → ¬ P i) ∨ (0 ≤ bstI P lt n ∧ bstI P lt n < n ∧ P (bstI P lt n))
  | 0 => Or.inl ⟨rfl, fun i h0 h1 => by omega⟩
  | n + 1 => by
    have ih := bstI_r P lt n
    by_cases h : P (n : Int) ∧ (bstI P lt n = -1 ∨ lt (n : Int) (bstI P lt n))
    · right
      have h5 : bstI P lt (n + 1) = (n : Int) := if_pos h
      rw [h5]
      exact ⟨by omega, by omega, h.1⟩
    · have h5 : bstI P lt (n + 1) = bstI P lt n := if_neg h
      rw [h5]
      rcases ih with ⟨h1, h2⟩ | ⟨h1, h2, h3⟩
      · left
        refine ⟨h1, fun i a b hp => ?_⟩
        by_cases hi : i = n
        · rw [hi] at hp
          exact h ⟨hp, Or.inl h1⟩
        · exact h2 i a (by omega) hp
      · right
        exact ⟨h1, by omega, h3⟩
theorem bstI_cg {P Q : Int → Prop} [DecidablePred P] [DecidablePred Q] {lt gt : Int → Int → Prop} [DecidableRel lt] [DecidableRel gt] : ∀ {n : Nat}, (∀ i : Int, 0 ≤ i → i < n → (P i ↔ Q i)) → (∀ i j : Int, 0 ≤ i → i < n → 0 ≤ j → j < n → P i → P j → (lt i j ↔ gt i j)) → bstI P lt n = bstI Q gt n
  | 0, _, _ => rfl
  | n + 1, h, g => by
    have h1 := bstI_cg (n := n) (fun i h0 h1 => h i h0 (by omega)) fun i j a b c d => g i j a (by omega) c (by omega)
    have h2 := h n (by omega) (by omega)
    unfold bstI
    rw [← h1]
    have h3 : (P (n : Int) ∧ (bstI P lt n = -1 ∨ lt (n : Int) (bstI P lt n))) ↔ (Q (n : Int) ∧ (bstI P lt n = -1 ∨ gt (n : Int) (bstI P lt n))) := by
      rcases bstI_r P lt n with ⟨h4, h5⟩ | ⟨h4, h5, h6⟩
      · constructor
        · exact fun q => ⟨h2.mp q.1, Or.inl h4⟩
        · exact fun q => ⟨h2.mpr q.1, Or.inl h4⟩
      · constructor
        · rintro ⟨q1, q2⟩
          exact ⟨h2.mp q1, q2.imp id (g n _ (by omega) (by omega) h4 (by omega) q1 h6).mp⟩
        · rintro ⟨q1, q2⟩
          exact ⟨h2.mpr q1, q2.imp id (g n _ (by omega) (by omega) h4 (by omega) (h2.mpr q1) h6).mpr⟩
    by_cases hp : P (n : Int) ∧ (bstI P lt n = -1 ∨ lt (n : Int) (bstI P lt n))
    · rw [if_pos hp, if_pos (h3.mp hp)]
    · rw [if_neg hp, if_neg (fun q => hp (h3.mpr q))]
/-- where the order is one of numbers that differ, the best is the least -/
theorem bstI_min {P : Int → Prop} [DecidablePred P] {t : Int → Int} {lt : Int → Int → Prop} [DecidableRel lt] : ∀ {n : Nat}, (∀ i j : Int, 0 ≤ i → i < n → 0 ≤ j → j < n → (lt i j ↔ t i < t j)) → bstI P lt n ≠ -1 → ∀ i : Int, 0 ≤ i → i < n → P i → t (bstI P lt n) ≤ t i
  | 0, _, _, i, h0, h1, _ => by omega
  | n + 1, g, hb, i, h0, h1, hp => by
    have ih := bstI_min (P := P) (t := t) (lt := lt) (n := n) fun i j a b c d => g i j a (by omega) c (by omega)
    by_cases h : P (n : Int) ∧ (bstI P lt n = -1 ∨ lt (n : Int) (bstI P lt n))
    · have h5 : bstI P lt (n + 1) = (n : Int) := if_pos h
      rw [h5]
      by_cases hi : i = n
      · rw [hi]; exact Int.le_refl _
      · rcases bstI_r P lt n with ⟨h6, h7⟩ | ⟨h6, h7, h8⟩
        · exact absurd hp (h7 i h0 (by omega))
        · have h9 := ih (by omega) i h0 (by omega) hp
          rcases h.2 with q | q
          · omega
          · have := (g n _ (by omega) (by omega) h6 (by omega)).mp q
            omega
    · have h5 : bstI P lt (n + 1) = bstI P lt n := if_neg h
      rw [h5] at hb ⊢
      by_cases hi : i = n
      · rcases bstI_r P lt n with ⟨h6, h7⟩ | ⟨h6, h7, h8⟩
        · exact absurd h6 hb
        · rw [hi] at hp ⊢
          have : ¬ lt (n : Int) (bstI P lt n) := fun q => h ⟨hp, Or.inr q⟩
          exact Int.not_lt.mp (fun q => this ((g n _ (by omega) (by omega) h6 (by omega)).mpr q))
      · exact ih hb i h0 (by omega) hp
theorem gl1_fst {β : Type} {P : Int → Prop} [DecidablePred P] {m : S2} {N : Nat} {f : (Int → S2 → Option β) → Int → S2 → Option β} {A : Int → Option β} {Z : Option β} (hN : N ≤ 900)
    (hs : ∀ k (j : Nat), j < N → f k j m = if P (j : Int) then A (j : Int) else k ((j : Int) + 1) m) (he : ∀ k, f k N m = Z) : gl1 1000 f 0 m = if fstI P N = -1 then Z else A (fstI P N) := by
  refine glw1 N (fun j x s => j ≤ N ∧ x = j ∧ s = m ∧ ∀ i : Int, 0 ≤ i → i < j → ¬ P i) (fun o => o = _) ?_ 1000 0 0 m (by omega) (Nat.zero_le _) ⟨Nat.zero_le _, rfl, rfl, fun i a b => by omega⟩
  rintro k j x s ⟨hj, rfl, rfl, hn⟩ ih
  by_cases hjN : j < N
  · rw [hs k j hjN]
    by_cases hp : P (j : Int)
    · rw [if_pos hp, fstI_y hjN hp hn, if_neg (by omega)]
    · rw [if_neg hp]
      refine ih hjN _ _ ⟨hjN, by omega, rfl, fun i a b => ?_⟩
      by_cases hi : i = j
      · rw [hi]; exact hp
      · exact hn i a (by omega)
  · have : j = N := by omega
    subst this
    rw [he, fstI_n hn, if_pos rfl]
theorem gl2_bst {β : Type} {P : Int → Prop} [DecidablePred P] {lt : Int → Int → Prop} [DecidableRel lt] {m : S2} {N : Nat} {f : (Int → Int → S2 → Option β) → Int → Int → S2 → Option β} {Z : Int → Option β} (hN : N ≤ 900)
    (hs : ∀ k (j : Nat) (b : Int), j < N → (b = -1 ∨ 0 ≤ b ∧ b < j ∧ P b) → f k b j m = k (if P (j : Int) ∧ (b = -1 ∨ lt (j : Int) b) then (j : Int) else b) ((j : Int) + 1) m) (he : ∀ k b, f k b N m = Z b) : gl2 1000 f (-1) 0 m = Z (bstI P lt N) := by
  refine glw2 N (fun j b x s => j ≤ N ∧ b = bstI P lt j ∧ x = j ∧ s = m) (fun o => o = _) ?_ 1000 0 (-1) 0 m (by omega) (Nat.zero_le _) ⟨Nat.zero_le _, rfl, rfl, rfl⟩
  rintro k j b x s ⟨hj, rfl, rfl, rfl⟩ ih
  by_cases hjN : j < N
  · rw [hs k j _ hjN ((bstI_r P lt j).imp (fun q => q.1) id)]
    exact ih hjN _ _ _ ⟨hjN, rfl, by omega, rfl⟩
  · have : j = N := by omega
    subst this
    exact he k _
/-- a loop that counts, from anywhere, and goes on -/
theorem gl2_cntg {β : Type} {p : Int → Prop} [DecidablePred p] {m : S2} {N : Nat} {x0 a0 : Int} {f : (Int → Int → S2 → Option β) → Int → Int → S2 → Option β} {Z : Int → Option β} (hN : N ≤ 900)
    (hs : ∀ k (j : Nat) (a : Int), j < N → a0 ≤ a → a ≤ a0 + j → f k a (x0 + j) m = k (a + (if p (j : Int) then 1 else 0)) (x0 + j + 1) m)
    (he : ∀ k a, f k a (x0 + N) m = Z a) : gl2 1000 f a0 x0 m = Z (a0 + cntI p N) := by
  refine glw2 N (fun j a x s => j ≤ N ∧ a = a0 + cntI p j ∧ x = x0 + j ∧ s = m) (fun o => o = _) ?_ 1000 0 a0 x0 m (by omega) (Nat.zero_le _) ⟨Nat.zero_le _, ?_, ?_, rfl⟩
  · rintro k j a x s ⟨hj, rfl, rfl, rfl⟩ ih
    have hr := cntI_r p j
    by_cases hjN : j < N
    · rw [hs k j _ hjN (by omega) (by omega)]
      refine ih hjN _ _ _ ⟨hjN, ?_, by omega, rfl⟩
      show _ = a0 + (cntI p j + if p (j : Int) then 1 else 0)
      omega
    · have : j = N := by omega
      subst this
      exact he k _
  · show a0 = a0 + 0
    omega
  · show x0 = x0 + 0
    omega
/-- a loop that sums -/
theorem gl2_sum {β : Type} {g : Int → Int} {m : S2} {N : Nat} {f : (Int → Int → S2 → Option β) → Int → Int → S2 → Option β} {Z : Int → Option β} (hN : N ≤ 900)
    (hs : ∀ k (j : Nat), j < N → f k (sumI g j) j m = k (sumI g j + g (j : Int)) ((j : Int) + 1) m)
    (he : ∀ k a, f k a N m = Z a) : gl2 1000 f 0 0 m = Z (sumI g N) := by
  refine glw2 N (fun j a x s => j ≤ N ∧ a = sumI g j ∧ x = j ∧ s = m) (fun o => o = _) ?_ 1000 0 0 0 m (by omega) (Nat.zero_le _) ⟨Nat.zero_le _, rfl, rfl, rfl⟩
  rintro k j a x s ⟨hj, rfl, rfl, rfl⟩ ih
  by_cases hjN : j < N
  · rw [hs k j hjN]
    exact ih hjN _ _ _ ⟨hjN, rfl, by omega, rfl⟩
  · have : j = N := by omega
    subst this
    exact he k _
/-- a column is changed from off on -/
def mp (off n : Int) (g c : Int → Int) : Int → Int := fun t => if off ≤ t ∧ t < off + n then g t else c t
theorem gl1_map {β : Type} {f : (Int → S2 → Option β) → Int → S2 → Option β} {σ : S2} {k : Nat} {g : Int → Int} {off x0 : Int} {N : Nat} {y : Option β} (hN : N ≤ 900)
    (h : ∀ K (j : Nat) (c : Int → Int), j < N → (∀ t, off + j ≤ t → c t = σ k t) → f K (x0 + j) (sc σ k c) = K (x0 + j + 1) (sc σ k (uc c (off + j) (g (off + j)))))
    (he : ∀ K, f K (x0 + N) (sc σ k (mp off N g (σ k))) = y) : gl1 1000 f x0 σ = y := by
  refine glw1 N (fun j x s => j ≤ N ∧ x = x0 + j ∧ s = sc σ k (mp off j g (σ k))) (fun o => o = y) ?_ 1000 0 x0 σ (by omega) (Nat.zero_le _) ⟨Nat.zero_le _, ?_, ?_⟩
  · rintro K j x s ⟨hj, rfl, rfl⟩ ih
    by_cases hjN : j < N
    · rw [h K j (mp off (j : Int) g (σ k)) hjN (fun t ht => if_neg (by omega))]
      refine ih hjN _ _ ⟨hjN, by omega, ?_⟩
      congr 1
      funext t
      unfold uc mp
      by_cases h1 : t = off + j
      · rw [if_pos h1, if_pos (by omega), h1]
      · rw [if_neg h1]
        by_cases h2 : off ≤ t ∧ t < off + j
        · rw [if_pos h2, if_pos (by omega)]
        · rw [if_neg h2, if_neg (by omega)]
    · have : j = N := by omega
      subst this
      exact he K
  · show x0 = x0 + 0
    omega
  · funext k'
    unfold sc
    by_cases h1 : k' = k
    · rw [if_pos h1]
      funext t
      unfold mp
      rw [if_neg (by omega), h1]
    · rw [if_neg h1]
