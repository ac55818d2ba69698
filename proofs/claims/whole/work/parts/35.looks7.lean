/-! what the class's looking methods find -/
theorem gl1_fi {P : Int → Prop} [DecidablePred P] {m : S2} {N : Nat} {f : (Int → S2 → Option (Int × S2)) → Int → S2 → Option (Int × S2)} (hN : N ≤ 900)
    (hs : ∀ k (j : Nat), j < N → f k j m = if P (j : Int) then some ((j : Int), m) else k ((j : Int) + 1) m) (he : ∀ k, f k N m = some (-1, m)) : gl1 1000 f 0 m = some (fstI P N, m) := by
  refine (gl1_fst (P := P) (A := fun j => some (j, m)) (Z := some (-1, m)) hN hs he).trans ?_
  split
  · rename_i q; rw [q]
  · rfl
theorem e7_freePlace {σ : S2} : FX4_freePlace σ = some (fstI (fun p => ¬ (σ 49 p ≠ 0)) 10, σ) := by
  unfold FX4_freePlace
  have hr := fstI_r (P := fun p => ¬ (σ 49 p ≠ 0)) (n := 10)
  refine rgd_eq ?_ hr.1 (by omega)
  exact gl1_fi (by decide) (fun k j hj => if_pos (by omega)) (fun k => if_neg (by decide))
theorem e7_unused {σ : S2} : FX4_unused σ = some (fstI (fun r => σ 30 r = 0) 18, σ) := by
  unfold FX4_unused
  have hr := fstI_r (P := fun r => σ 30 r = 0) (n := 18)
  refine rgd_eq ?_ hr.1 (by omega)
  exact gl1_fi (by decide) (fun k j hj => if_pos (by omega)) (fun k => if_neg (by decide))
theorem e7_oldest {σ : S2} (h : ∀ r, 0 ≤ r → r ≤ 17 → 0 < σ 30 r → σ 28 r = 10 → -2147483648 ≤ σ 29 r ∧ σ 29 r ≤ 2147483647) : FX4_oldestStored σ = some (bstI (fun r => (0 < σ 30 r) ∧ (σ 28 r = 10)) (fun a b => σ 29 a < σ 29 b) 18, σ) := by
  unfold FX4_oldestStored
  have hr := bstI_r (fun r => (0 < σ 30 r) ∧ (σ 28 r = 10)) (fun a b => σ 29 a < σ 29 b) 18
  refine rgd_eq ?_ (by omega) (by omega)
  refine gl2_bst (P := fun r => (0 < σ 30 r) ∧ (σ 28 r = 10)) (lt := fun a b => σ 29 a < σ 29 b) (N := 18) (Z := fun b => some (b, σ)) (by decide) ?_ (fun k b => if_neg (by decide))
  intro k j b hj hb
  rw [if_pos (by omega)]
  simp only [bn]
  have e1 : (b < 0) ↔ b = -1 := by omega
  rw [gd_pos (fun q => h j (by omega) (by omega) q.1.1 q.1.2), gd_pos (fun q => by
    rcases hb with w | w
    · omega
    · exact h b w.1 (by omega) w.2.2.1 w.2.2.2)]
  simp only [e1]
  split <;> rfl
/-- whether a frame is in a list, of a group -/
abbrev isM (σ : S2) (l g f : Int) : Prop := ((σ 15 f ≠ 0) ∧ (σ 17 f = l)) ∧ ((g = -1) ∨ (σ 21 f = g))
theorem e7_members {l g : Int} {σ : S2} (hl : 0 ≤ l ∧ l ≤ 1) (hg : -1 ≤ g ∧ g ≤ 2) : FX7_members l g σ = some (cntI (isM σ l g) 24, σ) := by
  unfold FX7_members
  have hr := cntI_r (isM σ l g) 24
  refine rgd_eq ?_ hr.1 hr.2
  rw [gd_pos hl, gd_pos hg]
  exact gl2_cnt (by decide) (fun k j hj => if_pos (by omega)) (fun k => if_neg (by decide))
theorem e7_pagesOf {g : Int} {σ : S2} (hg : -1 ≤ g ∧ g ≤ 2) : FX7_pagesOf g σ = some (cntI (isM σ 0 g) 24 + cntI (isM σ 1 g) 24, σ) := by
  unfold FX7_pagesOf
  have h0 := cntI_r (isM σ 0 g) 24
  have h1 := cntI_r (isM σ 1 g) 24
  refine rgd_eq ?_ (by omega) (by omega)
  rw [gd_pos hg, cb_e (e7_members (by decide) hg), cb_e (e7_members (by decide) hg)]
theorem e7_firstMember {l g : Int} {σ : S2} (hl : 0 ≤ l ∧ l ≤ 1) (hg : -1 ≤ g ∧ g ≤ 2) (h : ∀ f, 0 ≤ f → f ≤ 23 → σ 15 f ≠ 0 → -2147483648 ≤ σ 18 f ∧ σ 18 f ≤ 2147483647) : FX7_firstMember l g σ = some (bstI (isM σ l g) (fun a b => σ 18 a < σ 18 b) 24, σ) := by
  unfold FX7_firstMember
  have hr := bstI_r (isM σ l g) (fun a b => σ 18 a < σ 18 b) 24
  refine rgd_eq ?_ (by omega) (by omega)
  rw [gd_pos hl, gd_pos hg]
  refine gl2_bst (P := isM σ l g) (lt := fun a b => σ 18 a < σ 18 b) (N := 24) (Z := fun b => some (b, σ)) (by decide) ?_ (fun k b => if_neg (by decide))
  intro k j b hj hb
  rw [if_pos (by omega)]
  simp only [bn]
  have e1 : (b < 0) ↔ b = -1 := by omega
  rw [gd_pos (fun q => h j (by omega) (by omega) q.1.1.1), gd_pos (fun q => by
    rcases hb with w | w
    · omega
    · exact h b w.1 (by omega) w.2.2.1.1)]
  simp only [e1]
  split <;> rfl
theorem e7_membersAhead {f : Int} {σ : S2} (hf : 0 ≤ f ∧ f ≤ 23) (hk : σ 15 f ≠ 0) (h : ∀ f, 0 ≤ f → f ≤ 23 → σ 15 f ≠ 0 → -2147483648 ≤ σ 18 f ∧ σ 18 f ≤ 2147483647) : FX7_membersAhead f σ = some (cntI (fun d => (((σ 15 d ≠ 0) ∧ (σ 17 d = σ 17 f)) ∧ (((-1 : Int) = (-1)) ∨ (σ 21 d = (-1)))) ∧ (σ 18 d < σ 18 f)) 24, σ) := by
  unfold FX7_membersAhead
  have hr := cntI_r (fun d => (((σ 15 d ≠ 0) ∧ (σ 17 d = σ 17 f)) ∧ (((-1 : Int) = (-1)) ∨ (σ 21 d = (-1)))) ∧ (σ 18 d < σ 18 f)) 24
  refine rgd_eq ?_ hr.1 hr.2
  rw [gd_pos hf]
  refine gl2_cnt (by decide) (fun k j hj => ?_) (fun k => if_neg (by decide))
  rw [if_pos (by omega), gd_pos (fun q => h j (by omega) (by omega) q.1.1), gd_pos (fun q => h f hf.1 hf.2 hk)]
theorem e7_frameAt {l a : Int} {σ : S2} (hl : 0 ≤ l ∧ l ≤ 1) (ha : -2147483648 ≤ a ∧ a ≤ 2147483647) (h : ∀ f, 0 ≤ f → f ≤ 23 → σ 15 f ≠ 0 → -2147483648 ≤ σ 18 f ∧ σ 18 f ≤ 2147483647) : FX7_frameAt l a σ = some (fstI (fun f => ((σ 15 f ≠ 0) ∧ (σ 17 f = l)) ∧ cntI (fun d => (((σ 15 d ≠ 0) ∧ (σ 17 d = σ 17 f)) ∧ (((-1 : Int) = (-1)) ∨ (σ 21 d = (-1)))) ∧ (σ 18 d < σ 18 f)) 24 = a) 24, σ) := by
  unfold FX7_frameAt
  have hr := fstI_r (P := fun f => ((σ 15 f ≠ 0) ∧ (σ 17 f = l)) ∧ cntI (fun d => (((σ 15 d ≠ 0) ∧ (σ 17 d = σ 17 f)) ∧ (((-1 : Int) = (-1)) ∨ (σ 21 d = (-1)))) ∧ (σ 18 d < σ 18 f)) 24 = a) (n := 24)
  refine rgd_eq ?_ hr.1 (by omega)
  rw [gd_pos hl, gd_pos ha]
  refine gl1_fi (by decide) (fun k j hj => ?_) (fun k => if_neg (by decide))
  rw [if_pos (by omega)]
  show (if ((σ 15 j ≠ 0) ∧ (σ 17 j = l)) ∧ (((-1 : Int) = (-1)) ∨ (σ 21 j = (-1))) then cb (FX7_membersAhead (j : Int) σ) (fun r1 s4 => if r1 = a then some ((j : Int), s4) else k ((j : Int) + 1) s4) else k ((j : Int) + 1) σ) = _
  by_cases h1 : (σ 15 j ≠ 0) ∧ (σ 17 j = l)
  · rw [if_pos ⟨h1, Or.inl rfl⟩, cb_e (e7_membersAhead (by omega) h1.1 h)]
    by_cases h2 : cntI (fun d => (((σ 15 d ≠ 0) ∧ (σ 17 d = σ 17 j)) ∧ (((-1 : Int) = (-1)) ∨ (σ 21 d = (-1)))) ∧ (σ 18 d < σ 18 j)) 24 = a
    · rw [if_pos h2, if_pos ⟨h1, h2⟩]
    · rw [if_neg h2, if_neg (fun q => h2 q.2)]
  · rw [if_neg (fun q => h1 q.1), if_neg (fun q => h1 q.1)]
theorem e7_mergedTwin {f : Int} {σ : S2} (hf : 0 ≤ f ∧ f ≤ 23) : FX7_mergedTwin f σ = some (fstI (fun d => ((σ 15 d = 1) ∧ (σ 22 d ≠ 0)) ∧ (σ 16 d = σ 16 f)) 24, σ) := by
  unfold FX7_mergedTwin
  have hr := fstI_r (P := fun d => ((σ 15 d = 1) ∧ (σ 22 d ≠ 0)) ∧ (σ 16 d = σ 16 f)) (n := 24)
  refine rgd_eq ?_ hr.1 (by omega)
  rw [gd_pos hf]
  exact gl1_fi (by decide) (fun k j hj => if_pos (by omega)) (fun k => if_neg (by decide))
theorem fst_any {P : Int → Prop} [DecidablePred P] {n : Nat} : (if fstI P n = -1 then (0 : Int) else 1) = anyI P n := by
  rcases fstI_cases P n with ⟨h1, h2⟩ | ⟨h1, h2, h3, h4⟩
  · rw [if_pos h1]
    apply Classical.byContradiction
    intro q
    obtain ⟨i, a, b, c⟩ := anyI_iff.mp (fun w => q w.symm)
    exact h2 i a b c
  · rw [if_neg (by omega)]
    have h5 : anyI P n ≠ 0 := anyI_iff.mpr ⟨_, h1, h2, h3⟩
    have := anyI_r P n
    omega
theorem gl1_an {P : Int → Prop} [DecidablePred P] {m : S2} {N : Nat} {f : (Int → S2 → Option (Int × S2)) → Int → S2 → Option (Int × S2)} (hN : N ≤ 900)
    (hs : ∀ k (j : Nat), j < N → f k j m = if P (j : Int) then some (1, m) else k ((j : Int) + 1) m) (he : ∀ k, f k N m = some (0, m)) : gl1 1000 f 0 m = some (anyI P N, m) := by
  refine (gl1_fst (P := P) (A := fun j => some (1, m)) (Z := some (0, m)) hN hs he).trans ?_
  rw [← fst_any]
  split <;> rfl
theorem e7_isSome {σ : S2} : FX7_isSomeToMerge σ = some (anyI (fun s => (σ 35 s ≠ 0) ∧ (σ 36 s ≠ 0)) 6, σ) := by
  unfold FX7_isSomeToMerge
  have hr := anyI_r (fun s => (σ 35 s ≠ 0) ∧ (σ 36 s ≠ 0)) 6
  refine rgd_eq ?_ hr.1 hr.2
  exact gl1_an (by decide) (fun k j hj => if_pos (by omega)) (fun k => if_neg (by decide))
theorem e7_holds {p f : Int} {σ : S2} (hp : 0 ≤ p ∧ p ≤ 1) (hf : 0 ≤ f ∧ f ≤ 23) (h1 : 0 ≤ σ 1 p ∧ σ 1 p ≤ 4) : FX0_holds p f σ = some (anyI (fun i => (i < σ 1 p) ∧ σ 38 (σ 50 (4 * p + i)) = f) 4, σ) := by
  unfold FX0_holds
  have hr := anyI_r (fun i => (i < σ 1 p) ∧ σ 38 (σ 50 (4 * p + i)) = f) 4
  refine rgd_eq ?_ hr.1 hr.2
  rw [gd_pos hp, gd_pos hf]
  obtain ⟨N, hN⟩ := Int.eq_ofNat_of_zero_le h1.1
  have e1 : anyI (fun i => (i < σ 1 p) ∧ σ 38 (σ 50 (4 * p + i)) = f) 4 = anyI (fun i => σ 38 (σ 50 (4 * p + i)) = f) N := by
    have a1 := anyI_r (fun i => (i < σ 1 p) ∧ σ 38 (σ 50 (4 * p + i)) = f) 4
    have a2 := anyI_r (fun i => σ 38 (σ 50 (4 * p + i)) = f) N
    have a3 : anyI (fun i => (i < σ 1 p) ∧ σ 38 (σ 50 (4 * p + i)) = f) 4 ≠ 0 ↔ anyI (fun i => σ 38 (σ 50 (4 * p + i)) = f) N ≠ 0 := by
      rw [anyI_iff, anyI_iff]
      exact ⟨fun ⟨i, a, b, c, d⟩ => ⟨i, a, by omega, d⟩, fun ⟨i, a, b, d⟩ => ⟨i, a, by omega, by omega, d⟩⟩
    omega
  rw [e1]
  exact gl1_an (by omega) (fun k j hj => if_pos (by omega)) (fun k => if_neg (by omega))
theorem anyI_or {P Q R : Int → Prop} [DecidablePred P] [DecidablePred Q] [DecidablePred R] {a b c : Nat} (h : (∃ i : Int, 0 ≤ i ∧ i < c ∧ R i) ↔ (∃ i : Int, 0 ≤ i ∧ i < a ∧ P i) ∨ ∃ i : Int, 0 ≤ i ∧ i < b ∧ Q i) : anyI R c ≠ 0 ↔ anyI P a ≠ 0 ∨ anyI Q b ≠ 0 := by
  rw [anyI_iff, anyI_iff, anyI_iff]; exact h
theorem anyI_cg {P Q : Int → Prop} [DecidablePred P] [DecidablePred Q] {a b : Nat} (h : (∃ i : Int, 0 ≤ i ∧ i < a ∧ P i) ↔ ∃ i : Int, 0 ≤ i ∧ i < b ∧ Q i) : anyI P a = anyI Q b := by
  have h1 := anyI_r P a
  have h2 := anyI_r Q b
  have h3 : anyI P a ≠ 0 ↔ anyI Q b ≠ 0 := by rw [anyI_iff, anyI_iff]; exact h
  omega
theorem e7_isTr {f : Int} {σ : S2} (hf : 0 ≤ f ∧ f ≤ 23) (h1 : ∀ p, 0 ≤ p → p ≤ 1 → 0 ≤ σ 1 p ∧ σ 1 p ≤ 4) : FX7_isTranslated f σ = some (anyI (fun p => anyI (fun i => (i < σ 1 p) ∧ σ 38 (σ 50 (4 * p + i)) = f) 4 ≠ 0) 2, σ) := by
  unfold FX7_isTranslated
  have hr := anyI_r (fun p => anyI (fun i => (i < σ 1 p) ∧ σ 38 (σ 50 (4 * p + i)) = f) 4 ≠ 0) 2
  refine rgd_eq ?_ hr.1 hr.2
  rw [gd_pos hf]
  refine gl1_an (by decide) (fun k j hj => ?_) (fun k => if_neg (by decide))
  rw [if_pos (by omega), cb_e (e7_holds (by omega) hf (h1 j (by omega) (by omega)))]
theorem e7_lowest {b : Int} {σ : S2} (hb : 0 ≤ b ∧ b ≤ 1) (h1 : ∀ p, 0 ≤ p → p ≤ 1 → 0 ≤ σ 1 p ∧ σ 1 p ≤ 4) : FX7_lowestWithoutPage b σ = some (fstI (fun f => σ 15 f = 0 ∧ anyI (fun p => anyI (fun i => (i < σ 1 p) ∧ σ 38 (σ 50 (4 * p + i)) = f) 4 ≠ 0) 2 = b) 24, σ) := by
  unfold FX7_lowestWithoutPage
  have hr := fstI_r (P := fun f => σ 15 f = 0 ∧ anyI (fun p => anyI (fun i => (i < σ 1 p) ∧ σ 38 (σ 50 (4 * p + i)) = f) 4 ≠ 0) 2 = b) (n := 24)
  refine rgd_eq ?_ hr.1 (by omega)
  rw [gd_pos hb]
  refine gl1_fi (by decide) (fun k j hj => ?_) (fun k => if_neg (by decide))
  rw [if_pos (by omega)]
  simp only [bn]
  by_cases h2 : σ 15 j = 0
  · rw [if_pos h2, cb_e (e7_isTr (by omega) h1)]
    by_cases h3 : anyI (fun p => anyI (fun i => (i < σ 1 p) ∧ σ 38 (σ 50 (4 * p + i)) = (j : Int)) 4 ≠ 0) 2 = b
    · rw [if_pos h3, if_pos ⟨h2, h3⟩]
    · rw [if_neg h3, if_neg (fun q => h3 q.2)]
  · rw [if_neg h2, if_neg (fun q => h2 q.1)]
theorem e7_having {s st : Int} {σ : S2} (hs : 0 ≤ s ∧ s ≤ 5) (ht : 0 ≤ st ∧ st ≤ 2) : FX5_having s st σ = some (cntI (fun a => (σ 2 (32 * s + a) ≠ 0) ∧ (σ 8 (32 * s + a) = st)) 32, σ) := by
  unfold FX5_having
  have hr := cntI_r (fun a => (σ 2 (32 * s + a) ≠ 0) ∧ (σ 8 (32 * s + a) = st)) 32
  refine rgd_eq ?_ hr.1 hr.2
  rw [gd_pos hs, gd_pos ht]
  refine gl2_cnt (by decide) (fun k j hj => ?_) (fun k => if_neg (by decide))
  rw [if_pos (by omega), gd_pos (by omega)]
theorem e7_score {s : Int} {σ : S2} (hs : 0 ≤ s ∧ s ≤ 5) (h : -50 ≤ σ 34 s ∧ σ 34 s ≤ 50) : FX5_score s σ = some (cntI (fun a => (σ 2 (32 * s + a) ≠ 0) ∧ (σ 8 (32 * s + a) = 1)) 32 + cntI (fun a => (σ 2 (32 * s + a) ≠ 0) ∧ (σ 8 (32 * s + a) = 2)) 32 + σ 34 s, σ) := by
  unfold FX5_score
  have h0 := cntI_r (fun a => (σ 2 (32 * s + a) ≠ 0) ∧ (σ 8 (32 * s + a) = 1)) 32
  have h1 := cntI_r (fun a => (σ 2 (32 * s + a) ≠ 0) ∧ (σ 8 (32 * s + a) = 2)) 32
  refine rgd_eq ?_ (by omega) (by omega)
  rw [gd_pos hs, cb_e (e7_having hs (by decide)), cb_e (e7_having hs (by decide))]
theorem e7_placesTaken {σ : S2} : FX4_placesTaken σ = some (cntI (fun q => σ 49 q ≠ 0) 10, σ) := by
  unfold FX4_placesTaken
  have hr := cntI_r (fun q => σ 49 q ≠ 0) 10
  refine rgd_eq ?_ hr.1 hr.2
  exact gl2_cnt (by decide) (fun k j hj => if_pos (by omega)) (fun k => if_neg (by decide))
