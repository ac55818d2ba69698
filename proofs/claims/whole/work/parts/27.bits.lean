/-! bits of the two processors -/
theorem zb4 {a : Int} (h : 0 ≤ a ∧ a ≤ 3) : a = 0 ∨ a = 1 ∨ a = 2 ∨ a = 3 := by omega
theorem zb2 {a : Int} (h : 0 ≤ a ∧ a ≤ 1) : a = 0 ∨ a = 1 := by omega
theorem zm4 {a : Int} (h : 0 ≤ a ∧ a ≤ 3) : a ∈ ([0, 1, 2, 3] : List Int) := by rcases zb4 h with rfl | rfl | rfl | rfl <;> simp
theorem zm2 {a : Int} (h : 0 ≤ a ∧ a ≤ 1) : a ∈ ([0, 1] : List Int) := by rcases zb2 h with rfl | rfl <;> simp
theorem zb_or0 : ∀ a ∈ ([0, 1, 2, 3] : List Int), ∀ b ∈ ([0, 1, 2, 3] : List Int), ∀ p ∈ ([0, 1] : List Int), gAnd (gOr a b) (p + 1) ≠ 0 ↔ gAnd a (p + 1) ≠ 0 ∨ gAnd b (p + 1) ≠ 0 := by decide +kernel
theorem zb_or {a b p : Int} (ha : 0 ≤ a ∧ a ≤ 3) (hb : 0 ≤ b ∧ b ≤ 3) (hp : 0 ≤ p ∧ p ≤ 1) : gAnd (gOr a b) (p + 1) ≠ 0 ↔ gAnd a (p + 1) ≠ 0 ∨ gAnd b (p + 1) ≠ 0 := zb_or0 a (zm4 ha) b (zm4 hb) p (zm2 hp)
theorem zb_clr0 : ∀ a ∈ ([0, 1, 2, 3] : List Int), ∀ p ∈ ([0, 1] : List Int), ∀ q ∈ ([0, 1] : List Int), gAnd (gAnd a (gXor (p + 1) (-1))) (q + 1) ≠ 0 ↔ gAnd a (q + 1) ≠ 0 ∧ q ≠ p := by decide +kernel
theorem zb_clr {a p q : Int} (ha : 0 ≤ a ∧ a ≤ 3) (hp : 0 ≤ p ∧ p ≤ 1) (hq : 0 ≤ q ∧ q ≤ 1) : gAnd (gAnd a (gXor (p + 1) (-1))) (q + 1) ≠ 0 ↔ gAnd a (q + 1) ≠ 0 ∧ q ≠ p := zb_clr0 a (zm4 ha) p (zm2 hp) q (zm2 hq)
theorem zb_set0 : ∀ a ∈ ([0, 1, 2, 3] : List Int), ∀ p ∈ ([0, 1] : List Int), ∀ q ∈ ([0, 1] : List Int), gAnd (gOr a (p + 1)) (q + 1) ≠ 0 ↔ gAnd a (q + 1) ≠ 0 ∨ q = p := by decide +kernel
theorem zb_set {a p q : Int} (ha : 0 ≤ a ∧ a ≤ 3) (hp : 0 ≤ p ∧ p ≤ 1) (hq : 0 ≤ q ∧ q ≤ 1) : gAnd (gOr a (p + 1)) (q + 1) ≠ 0 ↔ gAnd a (q + 1) ≠ 0 ∨ q = p := zb_set0 a (zm4 ha) p (zm2 hp) q (zm2 hq)
theorem zOr_r0 : ∀ a ∈ ([0, 1, 2, 3] : List Int), ∀ b ∈ ([0, 1, 2, 3] : List Int), 0 ≤ gOr a b ∧ gOr a b ≤ 3 := by decide +kernel
theorem zOr_r {a b : Int} (ha : 0 ≤ a ∧ a ≤ 3) (hb : 0 ≤ b ∧ b ≤ 3) : 0 ≤ gOr a b ∧ gOr a b ≤ 3 := zOr_r0 a (zm4 ha) b (zm4 hb)
theorem zclr_r0 : ∀ a ∈ ([0, 1, 2, 3] : List Int), ∀ p ∈ ([0, 1] : List Int), 0 ≤ gAnd a (gXor (p + 1) (-1)) ∧ gAnd a (gXor (p + 1) (-1)) ≤ 3 := by decide +kernel
theorem zclr_r {a p : Int} (ha : 0 ≤ a ∧ a ≤ 3) (hp : 0 ≤ p ∧ p ≤ 1) : 0 ≤ gAnd a (gXor (p + 1) (-1)) ∧ gAnd a (gXor (p + 1) (-1)) ≤ 3 := zclr_r0 a (zm4 ha) p (zm2 hp)
theorem zor0 : ∀ w ∈ ([0, 1] : List Int), gOr w 1 = 1 ∧ gOr w 0 = w ∧ gAnd w 1 = w ∧ gAnd w 0 = 0 := by decide +kernel
theorem zor1 {w : Int} (c : Prop) [Decidable c] (hw : 0 ≤ w ∧ w ≤ 1) : gOr w (if c then 1 else 0) = if c then 1 else w := by
  have h0 := zor0 w (zm2 hw)
  by_cases h : c
  · rw [if_pos h, if_pos h]; exact h0.1
  · rw [if_neg h, if_neg h]; exact h0.2.1
theorem zand1 {w : Int} (c : Prop) [Decidable c] (hw : 0 ≤ w ∧ w ≤ 1) : gAnd w (if c then 1 else 0) = if c then w else 0 := by
  have h0 := zor0 w (zm2 hw)
  by_cases h : c
  · rw [if_pos h, if_pos h]; exact h0.2.2.1
  · rw [if_neg h, if_neg h]; exact h0.2.2.2
/-! columns -/
theorem uc_id {c : Int → Int} {i v : Int} (h : c i = v) : uc c i v = c := by
  funext j
  unfold uc
  split
  · rename_i q; rw [q, h]
  · rfl
theorem uc_uc {c : Int → Int} {i v w : Int} : uc (uc c i v) i w = uc c i w := by
  funext j
  unfold uc
  split <;> rfl
theorem uc_comm {c : Int → Int} {i j v w : Int} (h : i ≠ j) : uc (uc c i v) j w = uc (uc c j w) i v := by
  funext k
  unfold uc
  by_cases h1 : k = i
  · rw [if_pos h1, if_neg (fun q => h (h1.symm.trans q)), if_pos h1]
  · rw [if_neg h1, if_neg h1]
theorem sc_nop {σ : S2} {k : Nat} {c : Int → Int} (h : c = σ k) : sc σ k c = σ := by
  funext k'
  unfold sc
  split
  · rename_i q; rw [q, h]
  · rfl
theorem sc_comm {σ : S2} {k l : Nat} {c d : Int → Int} (h : k ≠ l) : sc (sc σ k c) l d = sc (sc σ l d) k c := by
  funext j
  unfold sc
  by_cases h1 : j = l
  · rw [if_pos h1, if_neg (fun q => h (q.symm.trans h1)), if_pos h1]
  · rw [if_neg h1, if_neg h1]
theorem cb_e {β : Type} {x : Option (Int × S2)} {k : Int → S2 → Option β} {r : Int} {s : S2} (h : x = some (r, s)) : cb x k = k r s := cb_eq h
