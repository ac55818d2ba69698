/-! what the reference's looking methods find -/
/-- whether all of the first n hold P -/
def allI (P : Int → Prop) [DecidablePred P] : Nat → Int
  | 0 => 1
  | n + 1 => if P (n : Int) then allI P n else 0
theorem allI_r (P : Int → Prop) [DecidablePred P] : ∀ n : Nat, 0 ≤ allI P n ∧ allI P n ≤ 1
  | 0 => ⟨Int.zero_le_ofNat 1, Int.le_refl _⟩
  | n + 1 => by
    have h := allI_r P n
    unfold allI
    split <;> omega
theorem allI_iff {P : Int → Prop} [DecidablePred P] : ∀ {n : Nat}, allI P n ≠ 0 ↔ ∀ i : Int, 0 ≤ i → i < n → P i
  | 0 => ⟨fun _ i h0 h1 => by omega, fun _ q => by cases q⟩
  | n + 1 => by
    have h1 := allI_iff (P := P) (n := n)
    unfold allI
    by_cases hp : P (n : Int)
    · rw [if_pos hp, h1]
      constructor
      · intro h i a b
        by_cases hi : i = n
        · rw [hi]; exact hp
        · exact h i a (by omega)
      · intro h i a b
        exact h i a (by omega)
    · rw [if_neg hp]
      exact ⟨fun q => absurd rfl q, fun q => absurd (q n (by omega) (by omega)) hp⟩
theorem gl2_all {β : Type} {P : Int → Prop} [DecidablePred P] {m : S2} {N : Nat} {f : (Int → Int → S2 → Option β) → Int → Int → S2 → Option β} {Z : Int → Option β} (hN : N ≤ 900)
    (hs : ∀ k (j : Nat) (a : Int), j < N → f k a j m = k (gAnd a (if P (j : Int) then 1 else 0)) ((j : Int) + 1) m)
    (he : ∀ k a, f k a N m = Z a) : gl2 1000 f 1 0 m = Z (allI P N) := by
  refine glw2 N (fun j a x s => j ≤ N ∧ a = allI P j ∧ x = j ∧ s = m) (fun o => o = _) ?_ 1000 0 1 0 m (by omega) (Nat.zero_le _) ⟨Nat.zero_le _, rfl, rfl, rfl⟩
  rintro k j a x s ⟨hj, rfl, rfl, rfl⟩ ih
  by_cases hjN : j < N
  · rw [hs k j _ hjN]
    refine ih hjN _ _ _ ⟨hjN, ?_, by omega, rfl⟩
    exact zand1 _ (allI_r P j)
  · have : j = N := by omega
    subst this
    exact he k _
theorem e8_freePlace {μ : S2} : FX8_freePlace μ = some (fstI (fun p => allI (fun r => μ 132 r ≠ p) 18 ≠ 0) 10, μ) := by
  unfold FX8_freePlace
  have hr := fstI_r (P := fun p => allI (fun r => μ 132 r ≠ p) 18 ≠ 0) (n := 10)
  refine rgd_eq ?_ hr.1 (by omega)
  refine gl1_fi (by decide) (fun k j hj => ?_) (fun k => if_neg (by decide))
  rw [if_pos (by omega)]
  exact gl2_all (P := fun r => μ 132 r ≠ j) (N := 18) (Z := fun a => if a ≠ 0 then some ((j : Int), μ) else k ((j : Int) + 1) μ) (by decide) (fun k a b hj => if_pos (by omega)) (fun k a => if_neg (by decide))
theorem e8_oldest {μ : S2} (h : ∀ r, 0 ≤ r → r ≤ 17 → μ 132 r = 10 → -2147483648 ≤ μ 134 r ∧ μ 134 r ≤ 2147483647) : FX8_oldest μ = some (bstI (fun r => μ 132 r = 10) (fun a b => μ 134 a < μ 134 b) 18, μ) := by
  unfold FX8_oldest
  have hr := bstI_r (fun r => μ 132 r = 10) (fun a b => μ 134 a < μ 134 b) 18
  refine rgd_eq ?_ (by omega) (by omega)
  refine gl2_bst (P := fun r => μ 132 r = 10) (lt := fun a b => μ 134 a < μ 134 b) (N := 18) (Z := fun b => some (b, μ)) (by decide) ?_ (fun k b => if_neg (by decide))
  intro k j b hj hb
  rw [if_pos (by omega), gd_pos (by omega), gd_pos (fun q => h j (by omega) (by omega) q.1), gd_pos (fun q => by
    rcases hb with w | w
    · exact absurd w q.2
    · exact h b w.1 (by omega) w.2.2), gd_pos (by split <;> omega)]
theorem sumI_2 {g : Int → Int} (h : ∀ i : Int, 0 ≤ g i ∧ g i ≤ 2) : ∀ n : Nat, 0 ≤ sumI g n ∧ sumI g n ≤ 2 * n
  | 0 => ⟨Int.le_refl _, Int.le_refl _⟩
  | n + 1 => by
    have h1 := sumI_2 h n
    have h2 := h n
    unfold sumI
    omega
theorem e8_used {μ : S2} : FX8_used μ = some (sumI (fun r => if μ 132 r = 10 then (if μ 133 r < 100 then 1 else 2) else 0) 18, μ) := by
  unfold FX8_used
  have h0 : ∀ i : Int, 0 ≤ (if μ 132 i = 10 then (if μ 133 i < 100 then 1 else 2) else 0 : Int) ∧ (if μ 132 i = 10 then (if μ 133 i < 100 then 1 else 2) else 0 : Int) ≤ 2 := fun i => by (repeat' split) <;> omega
  have hr := sumI_2 h0 18
  refine rgd_eq ?_ hr.1 hr.2
  refine gl2_sum (g := fun r => if μ 132 r = 10 then (if μ 133 r < 100 then 1 else 2) else 0) (N := 18) (Z := fun a => some (a, μ)) (by decide) (fun k j hj => ?_) (fun k a => if_neg (by decide))
  have h1 := sumI_2 h0 j
  have h2 := h0 j
  rw [if_pos (by omega), gd_pos (by omega)]
theorem e8_listed {g l : Int} {μ : S2} (hg : -1 ≤ g ∧ g ≤ 2) (hl : 0 ≤ l ∧ l ≤ 1) {N : Nat} (hN : μ 129 l = N) (hN2 : N ≤ 24) : FX8_listed g l μ = some (cntI (fun k => (μ 121 (μ 128 (24 * l + k)) ≠ 0) ∧ ((g = -1) ∨ (μ 125 (μ 128 (24 * l + k)) = g))) N, μ) := by
  unfold FX8_listed
  have hr := cntI_r (fun k => (μ 121 (μ 128 (24 * l + k)) ≠ 0) ∧ ((g = -1) ∨ (μ 125 (μ 128 (24 * l + k)) = g))) N
  refine rgd_eq ?_ hr.1 (by omega)
  rw [gd_pos hg, gd_pos hl]
  exact gl2_cnt (by omega) (fun k j hj => if_pos (by omega)) (fun k => if_neg (by omega))
theorem e8_firstOf {g l : Int} {μ : S2} (hg : -1 ≤ g ∧ g ≤ 2) (hl : 0 ≤ l ∧ l ≤ 1) {N : Nat} (hN : μ 129 l = N) (hN2 : N ≤ 24) (hrow : ∀ k : Int, 0 ≤ k → k < N → 0 ≤ μ 128 (24 * l + k) ∧ μ 128 (24 * l + k) ≤ 23) : FX8_firstOf g l μ = some (if fstI (fun k => (μ 121 (μ 128 (24 * l + k)) ≠ 0) ∧ ((g = -1) ∨ (μ 125 (μ 128 (24 * l + k)) = g))) N = -1 then -1 else μ 128 (24 * l + fstI (fun k => (μ 121 (μ 128 (24 * l + k)) ≠ 0) ∧ ((g = -1) ∨ (μ 125 (μ 128 (24 * l + k)) = g))) N), μ) := by
  unfold FX8_firstOf
  have hr := fstI_r (P := fun k => (μ 121 (μ 128 (24 * l + k)) ≠ 0) ∧ ((g = -1) ∨ (μ 125 (μ 128 (24 * l + k)) = g))) (n := N)
  refine rgd_eq ?_ ?_ ?_
  · rw [gd_pos hg, gd_pos hl]
    refine (gl1_fst (P := fun k => (μ 121 (μ 128 (24 * l + k)) ≠ 0) ∧ ((g = -1) ∨ (μ 125 (μ 128 (24 * l + k)) = g))) (A := fun j => some (μ 128 (24 * l + j), μ)) (Z := some (-1, μ)) (N := N) (by omega) (fun k j hj => if_pos (by omega)) (fun k => if_neg (by omega))).trans ?_
    split <;> rfl
  · split
    · omega
    · have h5 := hrow (fstI (fun k => (μ 121 (μ 128 (24 * l + k)) ≠ 0) ∧ ((g = -1) ∨ (μ 125 (μ 128 (24 * l + k)) = g))) N) (by omega) (by omega)
      omega
  · split
    · omega
    · have h5 := hrow (fstI (fun k => (μ 121 (μ 128 (24 * l + k)) ≠ 0) ∧ ((g = -1) ∨ (μ 125 (μ 128 (24 * l + k)) = g))) N) (by omega) (by omega)
      omega
theorem e8_lingers {f : Int} {μ : S2} (hf : 0 ≤ f ∧ f ≤ 23) : FX8_lingers f μ = some (if μ 121 f = 0 then anyI (fun t => (t % 4 < μ 135 (t / 4)) ∧ (μ 137 t = f)) 8 else 0, μ) := by
  unfold FX8_lingers
  have hr := anyI_r (fun t => (t % 4 < μ 135 (t / 4)) ∧ (μ 137 t = f)) 8
  refine rgd_eq ?_ (by split <;> omega) (by split <;> omega)
  rw [gd_pos hf]
  by_cases h0 : μ 121 f = 0
  · rw [if_pos h0]
    exact gl2_any (P := fun t => (t % 4 < μ 135 (t / 4)) ∧ (μ 137 t = f)) (N := 8) (Z := fun a => some (a, μ)) (by decide) (fun k j a hj => if_pos ⟨by omega, h0⟩) (fun k a => if_neg (fun q => absurd q.1 (by decide)))
  · rw [if_neg h0]
    show (if ((0 : Int) < 8) ∧ (μ 121 f = 0) then _ else some ((0 : Int), μ)) = _
    rw [if_neg (fun q => h0 q.2)]
theorem e8_scoreOf {s : Int} {μ : S2} (hs : 0 ≤ s ∧ s ≤ 5) (h : -50 ≤ μ 108 s ∧ μ 108 s ≤ 50) : FX8_scoreOf s μ = some (μ 108 s + cntI (fun a => (0 < μ 111 (32 * s + a)) ∧ (μ 116 (32 * s + a) ≠ 0)) 32, μ) := by
  unfold FX8_scoreOf
  have hr := cntI_r (fun a => (0 < μ 111 (32 * s + a)) ∧ (μ 116 (32 * s + a) ≠ 0)) 32
  refine rgd_eq ?_ (by omega) (by omega)
  rw [gd_pos hs]
  refine gl2_cntg (p := fun a => (0 < μ 111 (32 * s + a)) ∧ (μ 116 (32 * s + a) ≠ 0)) (N := 32) (x0 := 0) (a0 := μ 108 s) (Z := fun a => some (a, μ)) (by decide) (fun k j a hj h1 h2 => ?_) (fun k a => if_neg (by decide))
  rw [Int.zero_add, if_pos (by omega), gd_pos (by split <;> omega)]
theorem e8_inState {s st : Int} {μ : S2} (hs : 0 ≤ s ∧ s ≤ 5) (ht : 0 ≤ st ∧ st ≤ 2) : FX8_inState s st μ = some (cntI (fun a => (0 < μ 111 (32 * s + a)) ∧ (μ 116 (32 * s + a) = st)) 32, μ) := by
  unfold FX8_inState
  have hr := cntI_r (fun a => (0 < μ 111 (32 * s + a)) ∧ (μ 116 (32 * s + a) = st)) 32
  refine rgd_eq ?_ hr.1 hr.2
  rw [gd_pos hs, gd_pos ht, gd_pos (by omega)]
  refine (gl2_cntg (p := fun a => (0 < μ 111 (32 * s + a)) ∧ (μ 116 (32 * s + a) = st)) (N := 32) (x0 := 32 * s) (a0 := 0) (Z := fun a => some (a, μ)) (by decide) (fun k j a hj h1 h2 => ?_) (fun k a => if_neg (by omega))).trans ?_
  · rw [if_pos (by omega), gd_pos (by omega), gd_pos (by split <;> omega)]
  · rw [Int.zero_add]
theorem e8_areMapped {s a n al : Int} {μ : S2} (hs : 0 ≤ s ∧ s ≤ 5) (ha : 0 ≤ a ∧ a ≤ 31) {N : Nat} (hN : n = N) (hn : 1 ≤ n ∧ n ≤ 32) (h32 : a + n ≤ 32) (hal : 0 ≤ al ∧ al ≤ 1) : FX8_areMapped s a n al μ = some (if cntI (fun k => 0 < μ 111 (32 * s + a + k)) N = (if al ≠ 0 then n else 0) then 1 else 0, μ) := by
  unfold FX8_areMapped
  have hr := cntI_r (fun k => 0 < μ 111 (32 * s + a + k)) N
  refine rgd_eq ?_ (by split <;> omega) (by split <;> omega)
  rw [gd_pos hs, gd_pos ha, gd_pos hn, gd_pos hal]
  refine (gl2_cntg (p := fun k => 0 < μ 111 (32 * s + a + k)) (N := N) (x0 := 0) (a0 := 0) (Z := fun x => some (if x = (if al ≠ 0 then n else 0) then 1 else 0, μ)) (by omega) (fun k j b hj h1 h2 => ?_) (fun k b => ?_)).trans ?_
  · rw [Int.zero_add, if_pos (by omega), gd_pos (by omega), gd_pos (by split <;> omega)]
  · exact if_neg (by omega)
  · rw [Int.zero_add]
theorem e7_mapped {s a n : Int} {σ : S2} (hs : 0 ≤ s ∧ s ≤ 5) (ha : 0 ≤ a ∧ a ≤ 31) {N : Nat} (hN : n = N) (hn : 1 ≤ n ∧ n ≤ 32) (h32 : a + n ≤ 32) : FX5_mapped s a n σ = some (cntI (fun k => σ 2 (32 * s + (a + k)) ≠ 0) N, σ) := by
  unfold FX5_mapped
  have hr := cntI_r (fun k => σ 2 (32 * s + (a + k)) ≠ 0) N
  refine rgd_eq ?_ (by omega) (by omega)
  rw [gd_pos hs, gd_pos ha, gd_pos hn]
  refine (gl2_cntg (p := fun k => σ 2 (32 * s + (a + k)) ≠ 0) (N := N) (x0 := a) (a0 := 0) (Z := fun x => some (x, σ)) (by omega) (fun k j b hj h1 h2 => ?_) (fun k b => ?_)).trans ?_
  · rw [if_pos (by omega), gd_pos (by split <;> omega)]
  · exact if_neg (by omega)
  · rw [Int.zero_add]
theorem e8_translationOf {p e : Int} {μ : S2} (hp : 0 ≤ p ∧ p ≤ 1) (he : 0 ≤ e ∧ e ≤ 191) {N : Nat} (hN : μ 135 p = N) (hN2 : N ≤ 4) : FX8_translationOf p e μ = some (if fstI (fun i => μ 136 (4 * p + i) = e) N = -1 then -1 else 4 * p + fstI (fun i => μ 136 (4 * p + i) = e) N, μ) := by
  unfold FX8_translationOf
  have hr := fstI_r (P := fun i => μ 136 (4 * p + i) = e) (n := N)
  refine rgd_eq ?_ (by split <;> omega) (by split <;> omega)
  rw [gd_pos hp, gd_pos he, gd_pos (by omega)]
  refine glw1 N (fun j x s => j ≤ N ∧ x = 4 * p + j ∧ s = μ ∧ ∀ i : Int, 0 ≤ i → i < j → ¬ (μ 136 (4 * p + i) = e)) (fun o => o = _) ?_ 1000 0 (4 * p) μ (by omega) (Nat.zero_le _) ⟨Nat.zero_le _, by omega, rfl, fun i a b => by omega⟩
  rintro k j x s ⟨hj, rfl, rfl, hn⟩ ih
  by_cases hjN : j < N
  · rw [if_pos (by omega), gd_pos (by omega)]
    by_cases h1 : s 136 (4 * p + j) = e
    · rw [if_pos h1, fstI_y (P := fun i => s 136 (4 * p + i) = e) hjN h1 hn, if_neg (by omega)]
    · rw [if_neg h1]
      refine ih hjN _ _ ⟨hjN, by omega, rfl, fun i a b => ?_⟩
      by_cases hi : i = j
      · rw [hi]; exact h1
      · exact hn i a (by omega)
  · have : j = N := by omega
    subst this
    rw [if_neg (by omega), fstI_n hn, if_pos rfl]
