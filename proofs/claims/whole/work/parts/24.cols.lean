/-! columns of the stores -/
def uc (c : Int → Int) (i v : Int) : Int → Int := fun j => if j = i then v else c j
def sc (σ : S2) (k : Nat) (c : Int → Int) : S2 := fun k' => if k' = k then c else σ k'
theorem uc_s {c : Int → Int} {i v : Int} : uc c i v i = v := if_pos rfl
theorem uc_n {c : Int → Int} {i j v : Int} (h : j ≠ i) : uc c i v j = c j := if_neg h
theorem uc_a {c : Int → Int} {i j v : Int} : uc c i v j = if j = i then v else c j := rfl
theorem u2_s {σ : S2} {k : Nat} {i v : Int} : upd2 σ k i v k = uc (σ k) i v := by funext j; simp [upd2, uc]
theorem u2_k {σ : S2} {k k' : Nat} {i v : Int} (h : k' ≠ k) : upd2 σ k i v k' = σ k' := by funext j; simp [upd2, h]
theorem sc_s {σ : S2} {k : Nat} {c : Int → Int} : sc σ k c k = c := if_pos rfl
theorem sc_k {σ : S2} {k k' : Nat} {c : Int → Int} (h : k' ≠ k) : sc σ k c k' = σ k' := if_neg h
theorem u2_sc {σ : S2} {k : Nat} {i v : Int} : upd2 σ k i v = sc σ k (uc (σ k) i v) := by
  funext k' j
  by_cases h : k' = k <;> simp [upd2, sc, uc, h]
theorem cb_mk {β : Type} {r : Int} {s : S2} {k : Int → S2 → Option β} : cb (some (r, s)) k = k r s := rfl
/-- how many of an object's users have it in a column -/
def cC (c : Int → Int) (n : Nat) (f : Int) : Int := cntI (fun i => c i = f) n
theorem cC_uc {c : Int → Int} {n : Nat} {a v f : Int} (h0 : 0 ≤ a) (h1 : a < n) : cC (uc c a v) n f = cC c n f + (if v = f then 1 else 0) - (if c a = f then 1 else 0) := by
  have h := cntI_one (p := fun i => uc c a v i = f) (q := fun i => c i = f) (a := a) (n := n) h0 h1 (fun i _ _ hi => by rw [uc_n hi])
  simp only [uc_s] at h
  exact h
theorem cC_r {c : Int → Int} {n : Nat} {f : Int} : 0 ≤ cC c n f ∧ cC c n f ≤ n := cntI_r _ n
theorem cC_0 {c : Int → Int} {n : Nat} {f : Int} : cC c n f = 0 ↔ ∀ i : Int, 0 ≤ i → i < n → c i ≠ f := cntI_0
theorem cC_pos {c : Int → Int} {n : Nat} {f a : Int} (h0 : 0 ≤ a) (h1 : a < n) (h : c a = f) : 1 ≤ cC c n f := by
  have h2 := cC_r (c := c) (n := n) (f := f)
  by_cases h3 : cC c n f = 0
  · exact absurd h (cC_0.mp h3 a h0 h1)
  · omega
theorem cC_lt {c : Int → Int} {n : Nat} {f a : Int} (h0 : 0 ≤ a) (h1 : a < n) (h : c a ≠ f) : cC c n f + 1 ≤ n := by
  have h2 := cC_uc (c := c) (n := n) (a := a) (v := f) (f := f) h0 h1
  rw [if_pos rfl, if_neg h] at h2
  have h3 := cC_r (c := uc c a f) (n := n) (f := f)
  omega
theorem cC_two {c : Int → Int} {n : Nat} {f a b : Int} (h0 : 0 ≤ a) (h1 : a < n) (h2 : 0 ≤ b) (h3 : b < n) (ha : c a = f) (hb : c b = f) (hab : a ≠ b) : 2 ≤ cC c n f := by
  have h4 := cC_uc (c := c) (n := n) (a := a) (v := f + 1) (f := f) h0 h1
  rw [if_neg (by omega), if_pos ha] at h4
  have h5 := cC_pos (c := uc c a (f + 1)) (n := n) (f := f) h2 h3 (by rw [uc_n (fun q => hab q.symm)]; exact hb)
  omega
theorem cC_cg {c d : Int → Int} {n : Nat} {f : Int} (h : ∀ i : Int, 0 ≤ i → i < n → (c i = f ↔ d i = f)) : cC c n f = cC d n f := cntI_congr h
/-- a sum over the first n -/
def sumI (g : Int → Int) : Nat → Int
  | 0 => 0
  | n + 1 => sumI g n + g (n : Int)
theorem sumI_cg {g h : Int → Int} : ∀ {n : Nat}, (∀ i : Int, 0 ≤ i → i < n → g i = h i) → sumI g n = sumI h n
  | 0, _ => rfl
  | n + 1, e => by
    unfold sumI
    rw [sumI_cg (n := n) fun i h0 h1 => e i h0 (by omega), e n (by omega) (by omega)]
theorem sumI_one {g h : Int → Int} {a : Int} : ∀ {n : Nat}, 0 ≤ a → a < n → (∀ i : Int, 0 ≤ i → i < n → i ≠ a → g i = h i) → sumI g n = sumI h n + g a - h a
  | 0, h0, h1, _ => by omega
  | n + 1, h0, h1, e => by
    unfold sumI
    by_cases ha : a = n
    · rw [sumI_cg (n := n) (g := g) (h := h) fun i h2 h3 => e i h2 (by omega) (by omega), ha]
      omega
    · rw [sumI_one (n := n) (a := a) (g := g) (h := h) h0 (by omega) fun i h2 h3 h4 => e i h2 (by omega) h4, e n (by omega) (by omega) (fun q => ha q.symm)]
      omega
theorem sumI_le {g h : Int → Int} : ∀ {n : Nat}, (∀ i : Int, 0 ≤ i → i < n → g i ≤ h i) → sumI g n ≤ sumI h n
  | 0, _ => Int.le_refl _
  | n + 1, e => by
    unfold sumI
    have h1 := sumI_le (n := n) fun i h0 h1 => e i h0 (by omega)
    have h2 := e n (by omega) (by omega)
    omega
theorem sumI_0 {g : Int → Int} {n : Nat} (h : ∀ i : Int, 0 ≤ i → i < n → 0 ≤ g i) : 0 ≤ sumI g n := by
  have h1 := sumI_le (g := fun _ => 0) (h := g) (n := n) h
  have h2 : ∀ m : Nat, sumI (fun _ => 0) m = 0 := fun m => by
    induction m with
    | zero => rfl
    | succ m ih => unfold sumI; rw [ih]; rfl
  rw [h2 n] at h1
  exact h1
