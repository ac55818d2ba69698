/-! bits of the two processors -/
theorem b4 {a : Int} (h : 0 ≤ a ∧ a ≤ 3) : a = 0 ∨ a = 1 ∨ a = 2 ∨ a = 3 := by omega
theorem b2 {a : Int} (h : 0 ≤ a ∧ a ≤ 1) : a = 0 ∨ a = 1 := by omega
theorem bt_or {a b p : Int} (ha : 0 ≤ a ∧ a ≤ 3) (hb : 0 ≤ b ∧ b ≤ 3) (hp : 0 ≤ p ∧ p ≤ 1) : gAnd (gOr a b) (p + 1) ≠ 0 ↔ gAnd a (p + 1) ≠ 0 ∨ gAnd b (p + 1) ≠ 0 := by
  rcases b4 ha with rfl | rfl | rfl | rfl <;> rcases b4 hb with rfl | rfl | rfl | rfl <;> rcases b2 hp with rfl | rfl <;> decide +kernel
theorem bt_clr {a p q : Int} (ha : 0 ≤ a ∧ a ≤ 3) (hp : 0 ≤ p ∧ p ≤ 1) (hq : 0 ≤ q ∧ q ≤ 1) : gAnd (gAnd a (gXor (p + 1) (-1))) (q + 1) ≠ 0 ↔ gAnd a (q + 1) ≠ 0 ∧ q ≠ p := by
  rcases b4 ha with rfl | rfl | rfl | rfl <;> rcases b2 hp with rfl | rfl <;> rcases b2 hq with rfl | rfl <;> decide +kernel
theorem bt_set {a p q : Int} (ha : 0 ≤ a ∧ a ≤ 3) (hp : 0 ≤ p ∧ p ≤ 1) (hq : 0 ≤ q ∧ q ≤ 1) : gAnd (gOr a (p + 1)) (q + 1) ≠ 0 ↔ gAnd a (q + 1) ≠ 0 ∨ q = p := by
  rcases b4 ha with rfl | rfl | rfl | rfl <;> rcases b2 hp with rfl | rfl <;> rcases b2 hq with rfl | rfl <;> decide +kernel
theorem gOr_r {a b : Int} (ha : 0 ≤ a ∧ a ≤ 3) (hb : 0 ≤ b ∧ b ≤ 3) : 0 ≤ gOr a b ∧ gOr a b ≤ 3 := by
  rcases b4 ha with rfl | rfl | rfl | rfl <;> rcases b4 hb with rfl | rfl | rfl | rfl <;> decide +kernel
theorem clr_r {a p : Int} (ha : 0 ≤ a ∧ a ≤ 3) (hp : 0 ≤ p ∧ p ≤ 1) : 0 ≤ gAnd a (gXor (p + 1) (-1)) ∧ gAnd a (gXor (p + 1) (-1)) ≤ 3 := by
  rcases b4 ha with rfl | rfl | rfl | rfl <;> rcases b2 hp with rfl | rfl <;> decide +kernel
theorem gor1 {w : Int} (c : Prop) [Decidable c] (hw : 0 ≤ w ∧ w ≤ 1) : gOr w (if c then 1 else 0) = if c then 1 else w := by
  by_cases h : c
  · rw [if_pos h, if_pos h]; rcases b2 hw with rfl | rfl <;> decide +kernel
  · rw [if_neg h, if_neg h]; rcases b2 hw with rfl | rfl <;> decide +kernel
theorem gand1 {a b : Int} (ha : 0 ≤ a ∧ a ≤ 1) (hb : 0 ≤ b ∧ b ≤ 1) : gAnd a b ≠ 0 ↔ a ≠ 0 ∧ b ≠ 0 := by
  rcases b2 ha with rfl | rfl <;> rcases b2 hb with rfl | rfl <;> decide +kernel
theorem gand1_r {a b : Int} (ha : 0 ≤ a ∧ a ≤ 1) (hb : 0 ≤ b ∧ b ≤ 1) : 0 ≤ gAnd a b ∧ gAnd a b ≤ 1 := by
  rcases b2 ha with rfl | rfl <;> rcases b2 hb with rfl | rfl <;> decide +kernel
/-! columns -/
theorem uc_id {c : Int → Int} {i v : Int} (h : c i = v) : uc c i v = c := by
  funext j
  unfold uc
  split
  · rename_i q; rw [q, h]
  · rfl
theorem uc_uc {c : Int → Int} {i v w : Int} : uc (uc c i v) i w = uc c i w := by
  funext j
  unfold uc
  split <;> rfl
theorem uc_comm {c : Int → Int} {i j v w : Int} (h : i ≠ j) : uc (uc c i v) j w = uc (uc c j w) i v := by
  funext k
  unfold uc
  by_cases h1 : k = i
  · rw [if_pos h1, if_neg (fun q => h (h1.symm.trans q)), if_pos h1]
  · rw [if_neg h1, if_neg h1]
theorem sc_nop {σ : S2} {k : Nat} {c : Int → Int} (h : c = σ k) : sc σ k c = σ := by
  funext k'
  unfold sc
  split
  · rename_i q; rw [q, h]
  · rfl
theorem sc_comm {σ : S2} {k l : Nat} {c d : Int → Int} (h : k ≠ l) : sc (sc σ k c) l d = sc (sc σ l d) k c := by
  funext j
  unfold sc
  by_cases h1 : j = l
  · rw [if_pos h1, if_neg (fun q => h (q.symm.trans h1)), if_pos h1]
  · rw [if_neg h1, if_neg h1]
theorem cb_e {β : Type} {x : Option (Int × S2)} {k : Int → S2 → Option β} {r : Int} {s : S2} (h : x = some (r, s)) : cb x k = k r s := cb_eq h
