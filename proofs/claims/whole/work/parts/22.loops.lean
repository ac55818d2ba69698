/-! loops of the printed functions: what holds of their answer -/
theorem glw0 {β : Type} {f : (S2 → Option β) → S2 → Option β} (N : Nat) (I : Nat → S2 → Prop) (Post : Option β → Prop)
    (h : ∀ (k : (S2 → Option β)) (j : Nat) (s : S2), I j s → (j < N → ∀ (t : S2), I (j + 1) t → Post (k t)) → Post (f k s)) :
    ∀ (fuel j : Nat) (s : S2), N - j < fuel → j ≤ N → I j s → Post (gl0 fuel f s)
  | 0, j, s, hf, _, _ => absurd hf (Nat.not_lt_zero _)
  | fuel + 1, j, s, hf, hj, hI => h (gl0 fuel f) j s hI (fun hjN t hI2 => glw0 N I Post h fuel (j + 1) t (by omega) hjN hI2)
theorem glw1 {β : Type} {f : (Int → S2 → Option β) → Int → S2 → Option β} (N : Nat) (I : Nat → Int → S2 → Prop) (Post : Option β → Prop)
    (h : ∀ (k : (Int → S2 → Option β)) (j : Nat) (x0 : Int) (s : S2), I j x0 s → (j < N → ∀ (y0 : Int) (t : S2), I (j + 1) y0 t → Post (k y0 t)) → Post (f k x0 s)) :
    ∀ (fuel j : Nat) (x0 : Int) (s : S2), N - j < fuel → j ≤ N → I j x0 s → Post (gl1 fuel f x0 s)
  | 0, j, x0, s, hf, _, _ => absurd hf (Nat.not_lt_zero _)
  | fuel + 1, j, x0, s, hf, hj, hI => h (gl1 fuel f) j x0 s hI (fun hjN y0 t hI2 => glw1 N I Post h fuel (j + 1) y0 t (by omega) hjN hI2)
theorem glw2 {β : Type} {f : (Int → Int → S2 → Option β) → Int → Int → S2 → Option β} (N : Nat) (I : Nat → Int → Int → S2 → Prop) (Post : Option β → Prop)
    (h : ∀ (k : (Int → Int → S2 → Option β)) (j : Nat) (x0 x1 : Int) (s : S2), I j x0 x1 s → (j < N → ∀ (y0 y1 : Int) (t : S2), I (j + 1) y0 y1 t → Post (k y0 y1 t)) → Post (f k x0 x1 s)) :
    ∀ (fuel j : Nat) (x0 x1 : Int) (s : S2), N - j < fuel → j ≤ N → I j x0 x1 s → Post (gl2 fuel f x0 x1 s)
  | 0, j, x0, x1, s, hf, _, _ => absurd hf (Nat.not_lt_zero _)
  | fuel + 1, j, x0, x1, s, hf, hj, hI => h (gl2 fuel f) j x0 x1 s hI (fun hjN y0 y1 t hI2 => glw2 N I Post h fuel (j + 1) y0 y1 t (by omega) hjN hI2)
theorem glw3 {β : Type} {f : (Int → Int → Int → S2 → Option β) → Int → Int → Int → S2 → Option β} (N : Nat) (I : Nat → Int → Int → Int → S2 → Prop) (Post : Option β → Prop)
    (h : ∀ (k : (Int → Int → Int → S2 → Option β)) (j : Nat) (x0 x1 x2 : Int) (s : S2), I j x0 x1 x2 s → (j < N → ∀ (y0 y1 y2 : Int) (t : S2), I (j + 1) y0 y1 y2 t → Post (k y0 y1 y2 t)) → Post (f k x0 x1 x2 s)) :
    ∀ (fuel j : Nat) (x0 x1 x2 : Int) (s : S2), N - j < fuel → j ≤ N → I j x0 x1 x2 s → Post (gl3 fuel f x0 x1 x2 s)
  | 0, j, x0, x1, x2, s, hf, _, _ => absurd hf (Nat.not_lt_zero _)
  | fuel + 1, j, x0, x1, x2, s, hf, hj, hI => h (gl3 fuel f) j x0 x1 x2 s hI (fun hjN y0 y1 y2 t hI2 => glw3 N I Post h fuel (j + 1) y0 y1 y2 t (by omega) hjN hI2)
theorem glw4 {β : Type} {f : (Int → Int → Int → Int → S2 → Option β) → Int → Int → Int → Int → S2 → Option β} (N : Nat) (I : Nat → Int → Int → Int → Int → S2 → Prop) (Post : Option β → Prop)
    (h : ∀ (k : (Int → Int → Int → Int → S2 → Option β)) (j : Nat) (x0 x1 x2 x3 : Int) (s : S2), I j x0 x1 x2 x3 s → (j < N → ∀ (y0 y1 y2 y3 : Int) (t : S2), I (j + 1) y0 y1 y2 y3 t → Post (k y0 y1 y2 y3 t)) → Post (f k x0 x1 x2 x3 s)) :
    ∀ (fuel j : Nat) (x0 x1 x2 x3 : Int) (s : S2), N - j < fuel → j ≤ N → I j x0 x1 x2 x3 s → Post (gl4 fuel f x0 x1 x2 x3 s)
  | 0, j, x0, x1, x2, x3, s, hf, _, _ => absurd hf (Nat.not_lt_zero _)
  | fuel + 1, j, x0, x1, x2, x3, s, hf, hj, hI => h (gl4 fuel f) j x0 x1 x2 x3 s hI (fun hjN y0 y1 y2 y3 t hI2 => glw4 N I Post h fuel (j + 1) y0 y1 y2 y3 t (by omega) hjN hI2)
theorem glw5 {β : Type} {f : (Int → Int → Int → Int → Int → S2 → Option β) → Int → Int → Int → Int → Int → S2 → Option β} (N : Nat) (I : Nat → Int → Int → Int → Int → Int → S2 → Prop) (Post : Option β → Prop)
    (h : ∀ (k : (Int → Int → Int → Int → Int → S2 → Option β)) (j : Nat) (x0 x1 x2 x3 x4 : Int) (s : S2), I j x0 x1 x2 x3 x4 s → (j < N → ∀ (y0 y1 y2 y3 y4 : Int) (t : S2), I (j + 1) y0 y1 y2 y3 y4 t → Post (k y0 y1 y2 y3 y4 t)) → Post (f k x0 x1 x2 x3 x4 s)) :
    ∀ (fuel j : Nat) (x0 x1 x2 x3 x4 : Int) (s : S2), N - j < fuel → j ≤ N → I j x0 x1 x2 x3 x4 s → Post (gl5 fuel f x0 x1 x2 x3 x4 s)
  | 0, j, x0, x1, x2, x3, x4, s, hf, _, _ => absurd hf (Nat.not_lt_zero _)
  | fuel + 1, j, x0, x1, x2, x3, x4, s, hf, hj, hI => h (gl5 fuel f) j x0 x1 x2 x3 x4 s hI (fun hjN y0 y1 y2 y3 y4 t hI2 => glw5 N I Post h fuel (j + 1) y0 y1 y2 y3 y4 t (by omega) hjN hI2)
theorem glw6 {β : Type} {f : (Int → Int → Int → Int → Int → Int → S2 → Option β) → Int → Int → Int → Int → Int → Int → S2 → Option β} (N : Nat) (I : Nat → Int → Int → Int → Int → Int → Int → S2 → Prop) (Post : Option β → Prop)
    (h : ∀ (k : (Int → Int → Int → Int → Int → Int → S2 → Option β)) (j : Nat) (x0 x1 x2 x3 x4 x5 : Int) (s : S2), I j x0 x1 x2 x3 x4 x5 s → (j < N → ∀ (y0 y1 y2 y3 y4 y5 : Int) (t : S2), I (j + 1) y0 y1 y2 y3 y4 y5 t → Post (k y0 y1 y2 y3 y4 y5 t)) → Post (f k x0 x1 x2 x3 x4 x5 s)) :
    ∀ (fuel j : Nat) (x0 x1 x2 x3 x4 x5 : Int) (s : S2), N - j < fuel → j ≤ N → I j x0 x1 x2 x3 x4 x5 s → Post (gl6 fuel f x0 x1 x2 x3 x4 x5 s)
  | 0, j, x0, x1, x2, x3, x4, x5, s, hf, _, _ => absurd hf (Nat.not_lt_zero _)
  | fuel + 1, j, x0, x1, x2, x3, x4, x5, s, hf, hj, hI => h (gl6 fuel f) j x0 x1 x2 x3 x4 x5 s hI (fun hjN y0 y1 y2 y3 y4 y5 t hI2 => glw6 N I Post h fuel (j + 1) y0 y1 y2 y3 y4 y5 t (by omega) hjN hI2)
theorem glw7 {β : Type} {f : (Int → Int → Int → Int → Int → Int → Int → S2 → Option β) → Int → Int → Int → Int → Int → Int → Int → S2 → Option β} (N : Nat) (I : Nat → Int → Int → Int → Int → Int → Int → Int → S2 → Prop) (Post : Option β → Prop)
    (h : ∀ (k : (Int → Int → Int → Int → Int → Int → Int → S2 → Option β)) (j : Nat) (x0 x1 x2 x3 x4 x5 x6 : Int) (s : S2), I j x0 x1 x2 x3 x4 x5 x6 s → (j < N → ∀ (y0 y1 y2 y3 y4 y5 y6 : Int) (t : S2), I (j + 1) y0 y1 y2 y3 y4 y5 y6 t → Post (k y0 y1 y2 y3 y4 y5 y6 t)) → Post (f k x0 x1 x2 x3 x4 x5 x6 s)) :
    ∀ (fuel j : Nat) (x0 x1 x2 x3 x4 x5 x6 : Int) (s : S2), N - j < fuel → j ≤ N → I j x0 x1 x2 x3 x4 x5 x6 s → Post (gl7 fuel f x0 x1 x2 x3 x4 x5 x6 s)
  | 0, j, x0, x1, x2, x3, x4, x5, x6, s, hf, _, _ => absurd hf (Nat.not_lt_zero _)
  | fuel + 1, j, x0, x1, x2, x3, x4, x5, x6, s, hf, hj, hI => h (gl7 fuel f) j x0 x1 x2 x3 x4 x5 x6 s hI (fun hjN y0 y1 y2 y3 y4 y5 y6 t hI2 => glw7 N I Post h fuel (j + 1) y0 y1 y2 y3 y4 y5 y6 t (by omega) hjN hI2)
/-- how many of the first n hold p -/
def cntI (p : Int → Prop) [DecidablePred p] : Nat → Int
  | 0 => 0
  | n + 1 => cntI p n + if p (n : Int) then 1 else 0
theorem cntI_r (p : Int → Prop) [DecidablePred p] : ∀ n : Nat, 0 ≤ cntI p n ∧ cntI p n ≤ n
  | 0 => ⟨Int.le_refl _, Int.le_refl _⟩
  | n + 1 => by
    have h := cntI_r p n
    unfold cntI
    split <;> omega
theorem cntI_congr {p q : Int → Prop} [DecidablePred p] [DecidablePred q] : ∀ {n : Nat}, (∀ i : Int, 0 ≤ i → i < n → (p i ↔ q i)) → cntI p n = cntI q n
  | 0, _ => rfl
  | n + 1, h => by
    have h1 := cntI_congr (n := n) fun i h0 h1 => h i h0 (by omega)
    have h2 := h n (by omega) (by omega)
    unfold cntI
    rw [h1]
    by_cases hp : p (n : Int)
    · rw [if_pos hp, if_pos (h2.mp hp)]
    · rw [if_neg hp, if_neg (fun q => hp (h2.mpr q))]
theorem cntI_0 {p : Int → Prop} [DecidablePred p] : ∀ {n : Nat}, cntI p n = 0 ↔ ∀ i : Int, 0 ≤ i → i < n → ¬ p i
  | 0 => ⟨fun _ i h0 h1 => by omega, fun _ => rfl⟩
  | n + 1 => by
    have h1 := cntI_0 (p := p) (n := n)
    have h2 := cntI_r p n
    unfold cntI
    constructor
    · intro h i h0 hi
      split at h
      · omega
      · rename_i hp
        by_cases hin : i = n
        · rw [hin]; exact hp
        · exact h1.mp (by omega) i h0 (by omega)
    · intro h
      rw [if_neg (h n (by omega) (by omega)), h1.mpr fun i h0 hi => h i h0 (by omega)]
      rfl
/-- one element is changed -/
theorem cntI_one {p q : Int → Prop} [DecidablePred p] [DecidablePred q] {a : Int} : ∀ {n : Nat}, 0 ≤ a → a < n → (∀ i : Int, 0 ≤ i → i < n → i ≠ a → (p i ↔ q i)) → cntI p n = cntI q n + (if p a then 1 else 0) - (if q a then 1 else 0)
  | 0, h0, h1, _ => by omega
  | n + 1, h0, h1, h => by
    by_cases ha : a = n
    · have e := cntI_congr (n := n) (p := p) (q := q) fun i h2 h3 => h i h2 (by omega) (by omega)
      unfold cntI
      rw [e, ha]
      omega
    · have e := cntI_one (n := n) (a := a) (p := p) (q := q) h0 (by omega) fun i h2 h3 h4 => h i h2 (by omega) h4
      have e2 := h n (by omega) (by omega) (fun q => ha q.symm)
      have e3 : (if p (n : Int) then (1 : Int) else 0) = if q (n : Int) then 1 else 0 := by
        by_cases hp : p (n : Int)
        · rw [if_pos hp, if_pos (e2.mp hp)]
        · rw [if_neg hp, if_neg (fun z => hp (e2.mpr z))]
      unfold cntI
      rw [e, e3]
      omega
theorem cb_some2 {β : Type} {x : Option (Int × S2)} {k : Int → S2 → Option β} {r : Int} {s : S2} (P : Option β → Prop) (h : x = some (r, s)) (hp : P (k r s)) : P (cb x k) := by rw [cb_eq h]; exact hp
theorem gd_p {β : Type} {p : Prop} [Decidable p] {x : Option β} (P : Option β → Prop) (h : p) (hp : P x) : P (gd p x) := by rw [gd_pos h]; exact hp

