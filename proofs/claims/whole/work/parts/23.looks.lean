/-! the reference's functions that only look -/
/-- a loop that counts: the printed shape -/
theorem gl2_cnt {p : Int → Prop} [DecidablePred p] {m : S2} {N : Nat} {f : (Int → Int → S2 → Option (Int × S2)) → Int → Int → S2 → Option (Int × S2)} (hN : N ≤ 900)
    (hs : ∀ k (j : Nat), j < N → f k (cntI p j) j m = gd (-2147483648 ≤ cntI p j + (if p j then 1 else 0) ∧ cntI p j + (if p j then 1 else 0) ≤ 2147483647) (k (cntI p j + (if p j then 1 else 0)) ((j : Int) + 1) m))
    (he : ∀ k, f k (cntI p N) N m = some (cntI p N, m)) : gl2 1000 f 0 0 m = some (cntI p N, m) := by
  refine glw2 N (fun j x e s => j ≤ N ∧ x = cntI p j ∧ e = j ∧ s = m) (fun o => o = some (_, m)) ?_ 1000 0 0 0 m (by omega) (Nat.zero_le _) ⟨Nat.zero_le _, rfl, rfl, rfl⟩
  rintro k j x e s ⟨hj, rfl, rfl, rfl⟩ ih
  by_cases hjN : j < N
  · show f k _ _ _ = _
    rw [hs k j hjN, gd_pos (by have := cntI_r p j; split <;> omega)]
    exact ih hjN _ _ _ ⟨hjN, rfl, by omega, rfl⟩
  · have : j = N := by omega
    subst this
    exact he k
theorem e8_entriesOf {f : Int} {m : S2} (hf : 0 ≤ f ∧ f ≤ 23) : FX8_entriesOf f m = some (cntI (fun e => ((0 < m 111 e) ∧ (m 116 e = 1)) ∧ (m 117 e = f)) 192, m) := by
  unfold FX8_entriesOf
  have hr := cntI_r (fun e => ((0 < m 111 e) ∧ (m 116 e = 1)) ∧ (m 117 e = f)) 192
  refine rgd_eq ?_ hr.1 hr.2
  rw [gd_pos hf]
  exact gl2_cnt (by decide) (fun k j hj => if_pos (by omega)) (fun k => if_neg (by decide))
theorem e8_pagesOf {g : Int} {m : S2} (hg : -1 ≤ g ∧ g ≤ 2) : FX8_pagesOf g m = some (cntI (fun f => (m 121 f ≠ 0) ∧ ((g = -1) ∨ (m 125 f = g))) 24, m) := by
  unfold FX8_pagesOf
  have hr := cntI_r (fun f => (m 121 f ≠ 0) ∧ ((g = -1) ∨ (m 125 f = g))) 24
  refine rgd_eq ?_ hr.1 hr.2
  rw [gd_pos hg]
  exact gl2_cnt (by decide) (fun k j hj => if_pos (by omega)) (fun k => if_neg (by decide))
