/-! the reference's functions that only look -/
def hasP (m : S2) (f e : Int) : Prop := ((0 < m 111 e) ∧ (m 116 e = 1)) ∧ (m 117 e = f)
theorem e8_entriesOf {f : Int} {m : S2} (hf : 0 ≤ f ∧ f ≤ 23) : FX8_entriesOf f m = some (cntI (fun e => ((0 < m 111 e) ∧ (m 116 e = 1)) ∧ (m 117 e = f)) 192, m) := by
  unfold FX8_entriesOf
  have hr := cntI_r (fun e => ((0 < m 111 e) ∧ (m 116 e = 1)) ∧ (m 117 e = f)) 192
  refine rgd_eq ?_ hr.1 hr.2
  rw [gd_pos hf]
  refine glw2 192 (fun j x e s => x = cntI (fun e => ((0 < m 111 e) ∧ (m 116 e = 1)) ∧ (m 117 e = f)) j ∧ e = j ∧ s = m) (fun o => o = some (_, m)) ?_ 1000 0 0 0 m (by decide) (by decide) ⟨rfl, rfl, rfl⟩
  rintro k j x e s ⟨rfl, rfl, rfl⟩ ih
  sorry
