/-! the relation holds when all is made -/
theorem Iv_0 : Iv 0 s0 m0 := by
  unfold Iv Rg
  refine ⟨⟨rfl, rfl, rfl, rfl, rfl, rfl, rfl, rfl, rfl, rfl, rfl, rfl, rfl, rfl, rfl, rfl, rfl⟩, ?_, ?_, ?_, ?_, ?_, ?_, ?_, ?_, ?_, ?_, ?_, ?_, ?_, ?_, ?_, ?_⟩
  · show rSp (fun _ => 0) (fun _ => 0) (fun _ => 0) (fun _ => 0) (fun _ => 0) (fun _ => -1) (fun _ => 0)
    simp [rSp]
  · show rMp (fun _ => 0) (fun _ => 0) (fun _ => -1) (fun _ => 0) (fun _ => 0) (fun _ => 0) (fun _ => 0) (fun _ => 0) (fun _ => 0) (fun _ => 0)
    simp [rMp]
  · show rPr (fun _ => 0) (fun _ => 0) (fun _ => -1) (fun _ => 0) (fun _ => -1) (fun _ => 0) (fun _ => 0) (fun _ => 0)
    simp [rPr]
  · show rHd (-1) (fun _ => -1) (fun _ => 0) (fun _ => 0)
    intro f h0 h1
    refine ⟨Int.le_refl 0, (by decide : (0 : Int) ≤ 2), fun _ => cC_0.mpr fun i _ _ h => ?_, fun _ h => absurd rfl h, fun _ h => by have h : (0 : Int) = 1 := h; omega⟩
    have h : (-1 : Int) = f := h
    omega
  · show rFr (fun _ => 0) (fun _ => 0) (fun _ => 0) (fun _ => 0) (fun _ => 0) (fun _ => 0) (fun _ => 0) (fun _ => 0) (fun _ => 0) (fun _ => 0) (fun _ => 0)
    simp [rFr]
  · refine ⟨fun _ => 0, ?_⟩
    show rLp (fun _ => 0) (fun _ => 0) (fun _ => 0) (fun _ => 0) (fun _ => 0) (fun _ => 0) (fun _ => 0)
    refine ⟨fun _ _ _ => Int.le_refl 0, fun f _ _ h => absurd rfl h, fun l k _ _ h1 (h2 : k < 0) => absurd h2 (by omega), fun f g _ _ _ _ h => absurd rfl h⟩
  · show rBl (fun _ => 0) (fun _ => 0) (fun _ => 0) (fun _ => -1) (fun _ => 0) (fun _ => 0)
    simp [rBl]
  · show rWr (fun _ => 0) (fun _ => -1) (fun _ => 0) (fun _ => 0)
    simp [rWr]
  · show rC1 (fun _ => 0) (fun i => if 0 ≤ i ∧ i ≤ 7 then i else 0) (fun _ => -1) (fun _ => 0) (fun _ => 0) (fun _ => 0) (fun _ => 0) (fun _ => 0)
    refine ⟨fun _ _ _ => ⟨Int.le_refl 0, (by decide : (0 : Int) ≤ 4)⟩, fun p t h0 h1 h2 h3 => ?_, fun t u h0 h1 h2 h3 h4 => ?_, fun p t h0 h1 h2 (h3 : t < 4 * p + 0) => absurd h3 (by omega), fun p t u h0 h1 h2 (h3 : t < 4 * p + 0) => absurd h3 (by omega)⟩
    · show 4 * p ≤ (if 0 ≤ t ∧ t ≤ 7 then t else 0) ∧ (if 0 ≤ t ∧ t ≤ 7 then t else 0) ≤ 4 * p + 3
      rw [if_pos (by omega)]
      omega
    · have h5 : (if 0 ≤ t ∧ t ≤ 7 then t else 0) = (if 0 ≤ u ∧ u ≤ 7 then u else 0) := h4
      rw [if_pos (by omega), if_pos (by omega)] at h5
      exact h5
  · show rC2 (fun _ => 0) (fun _ => 0) (fun _ => 0) (fun _ => 0)
    exact ⟨fun _ _ _ => ⟨Int.le_refl 0, (by decide : (0 : Int) ≤ 3)⟩, fun _ _ _ => ⟨Int.le_refl 0, (by decide : (0 : Int) ≤ 1)⟩, fun p t h0 h1 h2 (h3 : t < 4 * p + 0) => absurd h3 (by omega)⟩
  · show rC3 (fun _ => 0) (fun _ => 0) (fun _ => 0) (fun _ => 0) (fun _ => 0) (fun _ => -1)
    exact fun p t h0 h1 h2 (h3 : t < 4 * p + 0) => absurd h3 (by omega)
  · show rRc (-1) (fun _ => -1) (fun _ => 0) (fun _ => 0) (fun _ => 0) (fun _ => 0) (fun _ => 0) (fun _ => 0) (fun _ => -1) (fun _ => 0) (fun _ => 0)
    intro r h0 h1
    refine ⟨(cC_0.mpr fun i _ _ h => ?_).symm, ⟨fun _ => ⟨rfl, by omega⟩, fun _ => rfl⟩, fun h => absurd rfl h⟩
    have h : (-1 : Int) = r := h
    omega
  · show rRo (fun _ => 0) (fun _ => 0) (fun _ => -1) (fun _ => 0)
    refine ⟨by decide +kernel, (by decide : (0 : Int) ≤ 8), fun a b _ _ _ _ _ (h : (0 : Int) ≤ -1) => absurd h (by decide), fun q h0 _ => ⟨Int.le_refl 0, (by decide : (0 : Int) ≤ 1), fun h => absurd rfl h, fun ⟨r, _, _, (h : (-1 : Int) = q)⟩ => absurd h (by omega)⟩⟩
  · show rSc (fun _ => 0) (fun _ => 0) (fun _ => 0) (fun _ => 0) (fun _ => 0) (fun _ => 0) (fun _ => 0)
    refine ⟨Int.le_refl 0, (by decide : (0 : Int) ≤ 5), Int.le_refl 0, (by decide : (0 : Int) ≤ 31), rfl, Int.le_refl 0, Int.le_refl 0, fun k h0 (h1 : k < 0) => absurd h1 (by omega), fun j k h0 h1 (h2 : k < 0) => absurd h2 (by omega), fun e _ _ => ⟨Int.le_refl 0, (by decide : (0 : Int) ≤ 1), ⟨fun h => absurd rfl h, fun ⟨k, h1, (h2 : k < 0), _⟩ => absurd h2 (by omega)⟩, fun h => absurd rfl h⟩⟩
  · show rSt (fun _ => -1) (fun _ => 0) (fun _ => 0)
    exact fun i _ _ => Or.inl ⟨rfl, rfl⟩
  · show rBd _ (fun _ => 0) (fun _ => 0) (fun _ => 0)
    simp [rBd]
/-! the classes' and the arrays' names in the tables -/
theorem kty_p {s : State} {args : Array Value} {ty : FieldType} (h : (Cond.arrayClass ty).before args s = true) : ∃ cA : ClassId, ArrOfT s cA ty ∧ s.vm.findClass ("[" ++ ty.toString) = some cA := by
  obtain ⟨cA, kA, comp, h1, h2, h3⟩ := Cond.arrayClass_spec h
  exact ⟨cA, fun n z => ⟨fun k h => (by cases h), kA, h2, comp, h3⟩, h1⟩
theorem kty_q {s : State} {args : Array Value} {C : String} (h : (Cond.arrayOver (.object C)).before args s = true) : ∃ cA : ClassId, ArrOfT s cA (.object C) ∧ va_RA s cA (.object C) := by
  obtain ⟨comp, cA, kA, h1, -, h3, h4, h5⟩ := Cond.arrayOver_spec h
  exact ⟨cA, fun n z => ⟨fun k h => (by cases h), kA, h3, comp, h4⟩, kA, comp, h3, h4, h1, h5⟩
def kTL : List FieldType := [.object "Pagewright$Space", .object "Pagewright$Page", .object "Pagewright$Cache", .int, .int, .boolean, .int, .int, .object "Pagewright$Entry", .object "Pagewright$Record", .boolean, .object "Pagewright$Translation", .boolean, .int, .int, .boolean, .int, .int, .int, .int, .boolean, .boolean, .int, .int, .boolean, .int, .boolean, .int, .int, .int, .boolean, .int, .boolean, .int, .int, .int, .int, .int, .int, .int, .int, .int, .int, .int, .boolean, .boolean, .int, .int, .long]
theorem kTL_eq (w : gW) : gTys w = (List.range 49).map (fun i => (w.2.2 (i + 9), kTL.getD i .int)) := rfl
theorem kTL_in : ∀ i, i < 49 → kTL.getD i .int ∈ [FieldType.int, .boolean, .long] ∨ ∃ C ∈ kObj, kTL.getD i .int = .object C := by
  have h : (List.range 49).all (fun i => decide (kTL.getD i .int ∈ [FieldType.int, .boolean, .long]) || kObj.any (fun C => decide (kTL.getD i .int = .object C))) = true := by decide +kernel
  intro i hi
  have h2 := List.all_eq_true.mp h i (List.mem_range.mpr hi)
  rcases Bool.or_eq_true_iff.mp h2 with h3 | h3
  · exact Or.inl (of_decide_eq_true h3)
  · obtain ⟨C, hC, h4⟩ := List.any_eq_true.mp h3
    exact Or.inr ⟨C, hC, of_decide_eq_true h4⟩
theorem k_all {α : Type} [DecidableEq α] {l : List α} {L : List Cond} {g : α → Cond} (h : l.all (fun q => decide (g q ∈ L)) = true) : ∀ q ∈ l, g q ∈ L := fun q hq => of_decide_eq_true (List.all_eq_true.mp h q hq)
theorem kw_over : ∀ C ∈ kObj, Cond.arrayOver (.object C) ∈ lw_tbl := k_all (by decide +kernel)
theorem kw_nest : ∀ q ∈ gNests, Cond.methodLinkNest q.1 q.2.1 q.2.2.1 q.2.2.2 ∈ lw_tbl := k_all (g := fun q : String × Nat × MethodName × String => Cond.methodLinkNest q.1 q.2.1 q.2.2.1 q.2.2.2) (by decide +kernel)
theorem kw_decl : ∀ q ∈ gDecls, Cond.declares q ∈ lw_tbl := k_all (by decide +kernel)
theorem kw_cast : ∀ q ∈ gCasts, Cond.castable q.1 q.2 ∈ lw_tbl := k_all (g := fun q : String × String => Cond.castable q.1 q.2) (by decide +kernel)
theorem kw_strs : ∀ q ∈ gStrs, Cond.stringRef q.1 q.2.1 q.2.2 ∈ lw_tbl := k_all (g := fun q : String × Nat × String => Cond.stringRef q.1 q.2.1 q.2.2) (by decide +kernel)
theorem kw_nots : ∀ q ∈ gNots, Cond.not (.castable q.1 q.2) ∈ flatC (Jvm.Cond.and given_1 narrow_1) := k_all (g := fun q : String × String => Cond.not (.castable q.1 q.2)) (by decide +kernel)
theorem kw_inst : ∀ q ∈ ([("Pagewright$Cache", 3), ("Pagewright$Entry", 13), ("Pagewright$Page", 12), ("Pagewright$Record", 5), ("Pagewright$Records", 4), ("Pagewright$Space", 6), ("Pagewright$Translation", 3), ("Pagewright", 13), ("PagewrightModel", 41)] : List (String × Nat)), Cond.instantiable q.1 q.2 ∈ lw_tbl := k_all (g := fun q : String × Nat => Cond.instantiable q.1 q.2) (by decide +kernel)
theorem kw_prim : ∀ t ∈ [FieldType.int, .boolean, .long], Cond.arrayClass t ∈ lw_tbl := k_all (by decide +kernel)
