/-! the rows are the frames in the lists -/
theorem cnt_rows {pos c15 c17 c18 m128 m129 c40 : Int → Int} (h : rLp pos c15 c17 c18 m128 m129 c40) {l : Int} (hl : 0 ≤ l ∧ l ≤ 1) (P : Int → Prop) [DecidablePred P] : ∀ n : Nat, (n : Int) ≤ m129 l → cntI (fun k => P (m128 (24 * l + k))) n = cntI (fun f => (c15 f ≠ 0 ∧ c17 f = l) ∧ pos f < n ∧ P f) 24
  | 0, _ => by
    refine Eq.symm (cntI_0.mpr ?_)
    rintro f h0 h1 ⟨⟨h2, _⟩, h3, _⟩
    have := h.2.1 f h0 (by omega) h2
    omega
  | n + 1, hn => by
    have ih := cnt_rows h hl P n (by omega)
    have hr := h.2.2.1 l n hl.1 hl.2 (by omega) (by omega)
    have e1 := cntI_one (p := fun f => (c15 f ≠ 0 ∧ c17 f = l) ∧ pos f < ((n + 1 : Nat) : Int) ∧ P f) (q := fun f => (c15 f ≠ 0 ∧ c17 f = l) ∧ pos f < (n : Int) ∧ P f) (a := m128 (24 * l + n)) (n := 24) hr.1 (by omega) (by
      intro i h0 h1 h2
      constructor
      · rintro ⟨⟨a, b⟩, c, d⟩
        refine ⟨⟨a, b⟩, ?_, d⟩
        have h3 := h.2.1 i h0 (by omega) a
        by_cases hi : pos i = n
        · exact absurd (by rw [← hi, ← b]; exact h3.2.2.2.2.1.symm) h2
        · omega
      · rintro ⟨a, c, d⟩
        exact ⟨a, by omega, d⟩)
    have e0 : cntI (fun k => P (m128 (24 * l + k))) (n + 1) = cntI (fun k => P (m128 (24 * l + k))) n + if P (m128 (24 * l + n)) then 1 else 0 := rfl
    rw [e1, ← ih, e0]
    have e2 : (if (c15 (m128 (24 * l + n)) ≠ 0 ∧ c17 (m128 (24 * l + n)) = l) ∧ pos (m128 (24 * l + n)) < (n : Int) ∧ P (m128 (24 * l + n)) then (1 : Int) else 0) = 0 := if_neg (fun q => by have := hr.2.2.2.2; omega)
    rw [e2]
    have e3 : ((c15 (m128 (24 * l + n)) ≠ 0 ∧ c17 (m128 (24 * l + n)) = l) ∧ pos (m128 (24 * l + n)) < ((n + 1 : Nat) : Int) ∧ P (m128 (24 * l + n))) ↔ P (m128 (24 * l + n)) := ⟨fun q => q.2.2, fun q => ⟨⟨hr.2.2.1, hr.2.2.2.1⟩, by have := hr.2.2.2.2; omega, q⟩⟩
    by_cases hp : P (m128 (24 * l + n))
    · rw [if_pos hp, if_pos (e3.mpr hp)]; omega
    · rw [if_neg hp, if_neg (fun q => hp (e3.mp q))]; omega
theorem cntI_le {p q : Int → Prop} [DecidablePred p] [DecidablePred q] : ∀ {n : Nat}, (∀ i : Int, 0 ≤ i → i < n → p i → q i) → cntI p n ≤ cntI q n
  | 0, _ => Int.le_refl _
  | n + 1, h => by
    have h1 := cntI_le (p := p) (q := q) (n := n) fun i a b => h i a (by omega)
    have e0 : cntI p (n + 1) = cntI p n + if p (n : Int) then 1 else 0 := rfl
    have e1 : cntI q (n + 1) = cntI q n + if q (n : Int) then 1 else 0 := rfl
    rw [e0, e1]
    by_cases hp : p (n : Int)
    · rw [if_pos hp, if_pos (h n (by omega) (by omega) hp)]; omega
    · rw [if_neg hp]; split <;> omega
theorem cntI_lt {p : Int → Prop} [DecidablePred p] {n : Nat} {a : Int} (h0 : 0 ≤ a) (h1 : a < n) (h : ¬ p a) : cntI p n + 1 ≤ n := by
  have e := cntI_one (p := fun _ => True) (q := fun i => i ≠ a) (a := a) (n := n) h0 h1 (fun i _ _ hi => ⟨fun _ => hi, fun _ => trivial⟩)
  rw [if_pos trivial, if_neg (fun q => q rfl)] at e
  have e2 := cntI_le (p := p) (q := fun i => i ≠ a) (n := n) (fun i _ _ hp q => h (q ▸ hp))
  have e3 := cntI_r (fun _ : Int => True) n
  omega
theorem m_Ls_24 {pos c15 c17 c18 m128 m129 c40 : Int → Int} (h : rLp pos c15 c17 c18 m128 m129 c40) {l : Int} (hl : 0 ≤ l ∧ l ≤ 1) : m129 l ≤ 24 := by
  obtain ⟨N, hN⟩ := Int.eq_ofNat_of_zero_le (h.1 l hl.1 hl.2)
  have h1 := cnt_rows h hl (fun _ => True) N (by omega)
  have h2 := cntI_r (fun f => (c15 f ≠ 0 ∧ c17 f = l) ∧ pos f < N ∧ True) 24
  have h3 : ∀ n : Nat, cntI (fun _ => True) n = n := fun n => by
    induction n with
    | zero => rfl
    | succ n ih => rw [show cntI (fun _ => True) (n + 1) = cntI (fun _ => True) n + if True then 1 else 0 from rfl, ih, if_pos trivial]; omega
  rw [h3] at h1
  omega
theorem m_Ls_23 {pos c15 c17 c18 m128 m129 c40 : Int → Int} (h : rLp pos c15 c17 c18 m128 m129 c40) {l f : Int} (hl : 0 ≤ l ∧ l ≤ 1) (hf : 0 ≤ f ∧ f ≤ 23) (hk : c15 f = 0 ∨ c17 f ≠ l) : m129 l ≤ 23 := by
  obtain ⟨N, hN⟩ := Int.eq_ofNat_of_zero_le (h.1 l hl.1 hl.2)
  have h1 := cnt_rows h hl (fun _ => True) N (by omega)
  have h2 := cntI_lt (p := fun f => (c15 f ≠ 0 ∧ c17 f = l) ∧ pos f < N ∧ True) (n := 24) (a := f) hf.1 (by omega) (by rintro ⟨⟨a, b⟩, _⟩; rcases hk with q | q; exact a q; exact q b)
  have h3 : ∀ n : Nat, cntI (fun _ => True) n = n := fun n => by
    induction n with
    | zero => rfl
    | succ n ih => rw [show cntI (fun _ => True) (n + 1) = cntI (fun _ => True) n + if True then 1 else 0 from rfl, ih, if_pos trivial]; omega
  rw [h3] at h1
  omega
theorem m_row {pos c15 c17 c18 m128 m129 c40 : Int → Int} (h : rLp pos c15 c17 c18 m128 m129 c40) {p : Int} (hp : 0 ≤ p ∧ p ≤ 23) (hk : c15 p ≠ 0) : ∀ j, 0 ≤ j → j < m129 (c17 p) → (m128 (24 * c17 p + j) = p ↔ j = pos p) := by
  intro j h0 h1
  have h2 := h.2.1 p hp.1 hp.2 hk
  have h3 := h.2.2.1 (c17 p) j h2.1 h2.2.1 h0 h1
  constructor
  · intro q; rw [q] at h3; exact h3.2.2.2.2.symm
  · intro q; rw [q]; exact h2.2.2.2.2.1
