/-! the reference's small methods, in closed form -/
/-- whether one of the first n holds P -/
def anyI (P : Int → Prop) [DecidablePred P] : Nat → Int
  | 0 => 0
  | n + 1 => if P (n : Int) then 1 else anyI P n
theorem anyI_r (P : Int → Prop) [DecidablePred P] : ∀ n : Nat, 0 ≤ anyI P n ∧ anyI P n ≤ 1
  | 0 => ⟨Int.le_refl _, Int.zero_le_ofNat 1⟩
  | n + 1 => by
    have h := anyI_r P n
    unfold anyI
    split <;> omega
theorem anyI_iff {P : Int → Prop} [DecidablePred P] : ∀ {n : Nat}, anyI P n ≠ 0 ↔ ∃ i : Int, 0 ≤ i ∧ i < n ∧ P i
  | 0 => ⟨fun h => absurd rfl h, fun ⟨i, h0, h1, _⟩ => by omega⟩
  | n + 1 => by
    have h1 := anyI_iff (P := P) (n := n)
    unfold anyI
    by_cases hp : P (n : Int)
    · rw [if_pos hp]
      exact ⟨fun _ => ⟨n, by omega, by omega, hp⟩, fun _ => by decide⟩
    · rw [if_neg hp, h1]
      constructor
      · rintro ⟨i, a, b, c⟩
        exact ⟨i, a, by omega, c⟩
      · rintro ⟨i, a, b, c⟩
        refine ⟨i, a, ?_, c⟩
        by_cases hi : i = n
        · rw [hi] at c; exact absurd c hp
        · omega
theorem gl2_any {β : Type} {P : Int → Prop} [DecidablePred P] {m : S2} {N : Nat} {f : (Int → Int → S2 → Option β) → Int → Int → S2 → Option β} {Z : Int → Option β} (hN : N ≤ 900)
    (hs : ∀ k (j : Nat) (a : Int), j < N → f k a j m = k (gOr a (if P (j : Int) then 1 else 0)) ((j : Int) + 1) m)
    (he : ∀ k a, f k a N m = Z a) : gl2 1000 f 0 0 m = Z (anyI P N) := by
  refine glw2 N (fun j a x s => j ≤ N ∧ a = anyI P j ∧ x = j ∧ s = m) (fun o => o = _) ?_ 1000 0 0 0 m (by omega) (Nat.zero_le _) ⟨Nat.zero_le _, rfl, rfl, rfl⟩
  rintro k j a x s ⟨hj, rfl, rfl, rfl⟩ ih
  by_cases hjN : j < N
  · rw [hs k j _ hjN, zor1 _ (anyI_r P j)]
    exact ih hjN _ _ _ ⟨hjN, rfl, by omega, rfl⟩
  · have : j = N := by omega
    subst this
    exact he k _
theorem sc_sc {σ : S2} {k : Nat} {c d : Int → Int} : sc (sc σ k c) k d = sc σ k d := by
  funext k'
  unfold sc
  split <;> rfl
theorem e8_tells {e : Int} {μ : S2} (he : 0 ≤ e ∧ e ≤ 191) (hw : ∀ t, 0 ≤ t → t ≤ 7 → 0 ≤ μ 139 t ∧ μ 139 t ≤ 1) : FX8_tells e μ = some (0, sc μ 139 (wt e (μ 135) (μ 136) (μ 139))) := by
  unfold FX8_tells
  rw [gd_pos he]
  refine gl1_map (k := 139) (g := fun t => if t % 4 < μ 135 (t / 4) ∧ μ 136 t = e then 1 else μ 139 t) (off := 0) (x0 := 0) (N := 8) (by decide) ?_ ?_
  · intro K j c hj hc
    have h1 := hc j (by omega)
    have h2 := hw j (by omega) (by omega)
    simp only [Int.zero_add]
    rw [if_pos (by omega)]
    simp (disch := decide) only [bn, u2_sc, sc_s, sc_k, h1]
    rw [zor1 _ h2, sc_sc]
  · intro K
    refine (if_neg (by omega)).trans ?_
    congr 3
    funext t
    unfold mp wt
    by_cases h1 : 0 ≤ t ∧ t < 8
    · rw [if_pos ⟨h1.1, by omega⟩]
      dsimp only
      by_cases h2 : t % 4 < μ 135 (t / 4) ∧ μ 136 t = e
      · rw [if_pos h2, if_pos ⟨h1.1, h1.2, h2⟩]
      · rw [if_neg h2, if_neg (fun q => h2 q.2.2)]
    · rw [if_neg (by omega), if_neg (fun q => h1 ⟨q.1, q.2.1⟩)]
theorem e8_unblocks {e : Int} {μ : S2} (he : 0 ≤ e ∧ e ≤ 191) : FX8_unblocks e μ = some (0, sc μ 120 (ub e (μ 120))) := by
  unfold FX8_unblocks
  rw [gd_pos he]
  refine gl1_map (k := 120) (g := fun _ => 0) (off := e / 4 * 4) (x0 := 0) (N := 4) (by decide) ?_ ?_
  · intro K j c hj hc
    simp only [Int.zero_add]
    rw [if_pos (by omega)]
    simp (disch := decide) only [bn, u2_sc, sc_s, sc_k, sc_sc]
  · intro K
    exact if_neg (by omega)
theorem e8_forgets {e : Int} {μ : S2} (he : 0 ≤ e ∧ e ≤ 191) (hn : 0 ≤ μ 105 0 ∧ μ 105 0 ≤ 192) : FX8_forgets e μ = some (0, sc μ 141 (fg e (μ 105 0) (μ 141))) := by
  unfold FX8_forgets
  rw [gd_pos he]
  obtain ⟨N, hN⟩ := Int.eq_ofNat_of_zero_le hn.1
  refine gl1_map (k := 141) (g := fun t => if μ 141 t = e then -1 else μ 141 t) (off := 0) (x0 := 0) (N := N) (by omega) ?_ ?_
  · intro K j c hj hc
    have h1 := hc j (by omega)
    simp only [Int.zero_add]
    simp (disch := decide) only [sc_s, sc_k, h1]
    rw [if_pos (by omega)]
    simp (disch := decide) only [bn, u2_sc, sc_s, sc_k, sc_sc]
  · intro K
    simp (disch := decide) only [sc_k]
    rw [if_neg (by omega)]
    congr 3
    funext t
    unfold mp fg
    by_cases h1 : 0 ≤ t ∧ t < N
    · rw [if_pos ⟨h1.1, by omega⟩]
      dsimp only
      by_cases h2 : μ 141 t = e
      · rw [if_pos h2, if_pos ⟨h1.1, by omega, h2⟩]
      · rw [if_neg h2, if_neg (fun q => h2 q.2.2)]
    · rw [if_neg (by omega), if_neg (fun q => h1 ⟨q.1, by omega⟩)]
def unM (l k n : Int) (μ : S2) : S2 := sc (sc μ 128 (ur (24 * l) k n (μ 128))) 129 (uc (μ 129) l (n - 1))
theorem e8_unlist {f l n p : Int} {μ : S2} (hf : 0 ≤ f ∧ f ≤ 23) (hl : μ 123 f = l) (hl1 : 0 ≤ l ∧ l ≤ 1) (hn : μ 129 l = n) (hn1 : n ≤ 24) (hp : 0 ≤ p ∧ p < n) (hrow : ∀ k, 0 ≤ k → k < n → (μ 128 (24 * l + k) = f ↔ k = p)) : FX8_unlist f μ = some (0, unM l p n μ) := by
  unfold FX8_unlist
  rw [gd_pos hf, hl]
  obtain ⟨N, hN⟩ := Int.eq_ofNat_of_zero_le (show 0 ≤ n by omega)
  refine glw2 N (fun j a x s => j ≤ N ∧ a = (if (j : Int) ≤ p then (j : Int) else j - 1) ∧ x = j ∧ s = sc μ 128 (mp (24 * l + p) (j - 1 - p) (fun t => μ 128 (t + 1)) (μ 128))) (fun o => o = _) ?_ 1000 0 0 0 μ (by omega) (Nat.zero_le _) ⟨Nat.zero_le _, (if_pos (by omega)).symm, rfl, ?_⟩
  · rintro k j a x s ⟨hj, rfl, rfl, rfl⟩ ih
    by_cases hjN : j < N
    · have hr := hrow j (by omega) (by omega)
      have e1 : (sc μ 128 (mp (24 * l + p) (j - 1 - p) (fun t => μ 128 (t + 1)) (μ 128))) 128 (24 * l + j) = μ 128 (24 * l + j) := by
        rw [sc_s]; exact if_neg (by omega)
      simp (disch := decide) only [sc_k, hn]
      rw [if_pos (by omega), gd_pos (by split <;> omega)]
      simp only [bn, e1]
      rw [gd_pos (by (repeat' split) <;> omega)]
      refine ih hjN _ _ _ ⟨hjN, ?_, by omega, ?_⟩
      · by_cases h1 : (j : Int) = p
        · rw [if_pos (hr.mpr h1), if_pos (by omega), if_neg (by omega)]; omega
        · rw [if_neg (fun q => h1 (hr.mp q))]
          by_cases h2 : (j : Int) ≤ p
          · rw [if_pos h2, if_pos (by omega)]; omega
          · rw [if_neg h2, if_neg (by omega)]; omega
      · rw [u2_sc, sc_sc, sc_s]
        congr 1
        funext t
        unfold uc mp
        by_cases h1 : (j : Int) ≤ p
        · rw [if_pos h1]
          by_cases h2 : t = 24 * l + j
          · rw [if_pos h2, if_neg (by omega), h2]
          · rw [if_neg h2, if_neg (by omega), if_neg (by omega)]
        · rw [if_neg h1]
          by_cases h2 : t = 24 * l + (j - 1)
          · rw [if_pos h2, if_pos (by omega), h2]
            congr 1; omega
          · rw [if_neg h2]
            by_cases h3 : 24 * l + p ≤ t ∧ t < 24 * l + p + (j - 1 - p)
            · rw [if_pos h3, if_pos (by omega)]
            · rw [if_neg h3, if_neg (by omega)]
    · have hjN2 : j = N := by omega
      subst hjN2
      simp (disch := decide) only [sc_k, hn]
      rw [if_neg (by omega), if_neg (by omega), gd_pos (by omega)]
      simp (disch := decide) only [bn, u2_sc, sc_k]
      unfold unM
      have e2 : mp (24 * l + p) ((j : Int) - 1 - p) (fun t => μ 128 (t + 1)) (μ 128) = ur (24 * l) p n (μ 128) := by
        funext t
        unfold mp ur
        by_cases h1 : 24 * l + p ≤ t ∧ t < 24 * l + n - 1
        · rw [if_pos h1, if_pos (by omega)]
        · rw [if_neg h1, if_neg (by omega)]
      rw [e2, hN]
  · have e2 : mp (24 * l + p) (((0 : Nat) : Int) - 1 - p) (fun t => μ 128 (t + 1)) (μ 128) = μ 128 := by
      funext t
      exact if_neg (by omega)
    rw [e2, sc_nop rfl]
def enM (f l n : Int) (μ : S2) : S2 := sc (sc (sc μ 123 (uc (μ 123) f l)) 128 (uc (μ 128) (24 * l + n) f)) 129 (uc (μ 129) l (n + 1))
theorem e8_enlist {f l n : Int} {μ : S2} (hf : 0 ≤ f ∧ f ≤ 23) (hl1 : 0 ≤ l ∧ l ≤ 1) (hn : μ 129 l = n) (hn1 : 0 ≤ n ∧ n ≤ 23) : FX8_enlist f l μ = some (0, enM f l n μ) := by
  unfold FX8_enlist enM
  rw [gd_pos hf, gd_pos hl1]
  simp (disch := decide) only [bn, u2_sc, sc_k, sc_s, hn]
  rw [gd_pos (by omega), gd_pos (by omega)]
def ptM (f k v g l n : Int) (μ : S2) : S2 := enM f l n (sc (sc (sc (sc (sc (sc μ 121 (uc (μ 121) f k)) 122 (uc (μ 122) f v)) 125 (uc (μ 125) f g)) 126 (uc (μ 126) f 0)) 124 (uc (μ 124) f 0)) 127 (uc (μ 127) f (-1)))
theorem e8_puts {f k v g l n : Int} {μ : S2} (hf : 0 ≤ f ∧ f ≤ 23) (hk : 0 ≤ k ∧ k ≤ 2) (hv : 0 ≤ v ∧ v ≤ 99999) (hg : 0 ≤ g ∧ g ≤ 2) (hl1 : 0 ≤ l ∧ l ≤ 1) (hn : μ 129 l = n) (hn1 : 0 ≤ n ∧ n ≤ 23) : FX8_puts f k v g l μ = some (0, ptM f k v g l n μ) := by
  unfold FX8_puts ptM
  rw [gd_pos hf, gd_pos hk, gd_pos hv, gd_pos hg, gd_pos hl1]
  simp (disch := decide) only [bn, u2_sc, sc_k, sc_s]
  rw [cb_e (e8_enlist hf hl1 (n := n) (by simp (disch := decide) only [sc_k]; exact hn) hn1)]
def laM (e r f i h g : Int) (μ : S2) : S2 := sc (sc (sc (sc (sc (sc (sc (sc μ 111 (uc (μ 111) e r)) 112 (uc (μ 112) e f)) 113 (uc (μ 113) e (if f = -1 then 0 else i))) 114 (uc (μ 114) e (if f ≠ -1 ∧ h ≠ 0 then 1 else 0))) 115 (uc (μ 115) e g)) 116 (uc (μ 116) e 0)) 118 (uc (μ 118) e 0)) 120 (uc (μ 120) e 0)
theorem e8_lays {e r f i h g : Int} {μ : S2} (he : 0 ≤ e ∧ e ≤ 191) (hr : 0 ≤ r ∧ r ≤ 3) (hf : -1 ≤ f ∧ f ≤ 2) (hi : f ≠ -1 → 0 ≤ i ∧ i ≤ 7) (hh : 0 ≤ h ∧ h ≤ 1) (hg : 0 ≤ g ∧ g ≤ 1) : FX8_lays e r f i h g μ = some (0, laM e r f i h g μ) := by
  unfold FX8_lays laM
  rw [gd_pos he, gd_pos hr, gd_pos hf, gd_pos hh, gd_pos hg]
  simp (disch := decide) only [bn, u2_sc, sc_s, sc_k]
  rw [gd_pos (by split <;> omega)]
def lbM (e : Int) (μ : S2) : S2 := sc (sc μ 116 (uc (μ 116) e 0)) 120 (ub e (μ 120))
theorem e8_leaves0 {e : Int} {μ : S2} (he : 0 ≤ e ∧ e ≤ 191) (h : μ 116 e ≠ 1) (h2 : μ 116 e ≠ 2) : FX8_leaves e μ = some (0, lbM e μ) := by
  unfold FX8_leaves lbM
  rw [gd_pos he]
  simp (disch := decide) only [bn, u2_sc, sc_s, sc_k, e8_unblocks he, cb_mk]
  rw [if_neg h, if_neg h2]
theorem e8_entriesOfS {f : Int} {m : S2} (hf : 0 ≤ f ∧ f ≤ 23) {c : Int → Int} (h : ∀ d, 0 ≤ d → d ≤ 191 → (((0 < m 111 d) ∧ (m 116 d = 1)) ∧ (m 117 d = f) ↔ c d = f)) : FX8_entriesOf f m = some (cC c 192 f, m) := by
  have e1 : cntI (fun e => ((0 < m 111 e) ∧ (m 116 e = 1)) ∧ (m 117 e = f)) 192 = cC c 192 f := cntI_congr fun i h0 h1 => h i h0 (by omega)
  rw [e8_entriesOf hf, e1]
theorem e8_leaves1 {e p : Int} {μ : S2} {c : Int → Int} (he : 0 ≤ e ∧ e ≤ 191) (h : μ 116 e = 1) (hp : μ 117 e = p) (hp1 : 0 ≤ p ∧ p ≤ 23) (hw : ∀ t, 0 ≤ t → t ≤ 7 → 0 ≤ μ 139 t ∧ μ 139 t ≤ 1) (hc : ∀ d, 0 ≤ d → d ≤ 191 → (((0 < μ 111 d) ∧ (uc (μ 116) e 0 d = 1)) ∧ (μ 117 d = p) ↔ c d = p)) (hk : ¬ (μ 121 p = 1 ∧ cC c 192 p = 0)) : FX8_leaves e μ = some (0, sc (lbM e μ) 139 (wt e (μ 135) (μ 136) (μ 139))) := by
  unfold FX8_leaves lbM
  rw [gd_pos he]
  simp (disch := decide) only [bn, u2_sc, sc_s, sc_k, e8_unblocks he, cb_mk]
  rw [if_pos h, e8_tells he (by simp (disch := decide) only [sc_k]; exact hw)]
  simp (disch := decide) only [cb_mk, sc_s, sc_k, hp]
  by_cases h1 : μ 121 p = 1
  · rw [if_pos h1, e8_entriesOfS hp1 (c := c) (by simp (disch := decide) only [sc_s, sc_k]; exact hc)]
    simp only [cb_mk]
    rw [if_neg (fun q => hk ⟨h1, q⟩)]
  · rw [if_neg h1]
theorem e8_leaves1u {e p l k n : Int} {μ : S2} {c : Int → Int} (he : 0 ≤ e ∧ e ≤ 191) (h : μ 116 e = 1) (hp : μ 117 e = p) (hp1 : 0 ≤ p ∧ p ≤ 23) (hw : ∀ t, 0 ≤ t → t ≤ 7 → 0 ≤ μ 139 t ∧ μ 139 t ≤ 1) (hc : ∀ d, 0 ≤ d → d ≤ 191 → (((0 < μ 111 d) ∧ (uc (μ 116) e 0 d = 1)) ∧ (μ 117 d = p) ↔ c d = p)) (hk : μ 121 p = 1 ∧ cC c 192 p = 0) (hl : μ 123 p = l) (hl1 : 0 ≤ l ∧ l ≤ 1) (hn : μ 129 l = n) (hn1 : n ≤ 24) (hpk : 0 ≤ k ∧ k < n) (hrow : ∀ j, 0 ≤ j → j < n → (μ 128 (24 * l + j) = p ↔ j = k)) : FX8_leaves e μ = some (0, sc (unM l k n (sc (lbM e μ) 139 (wt e (μ 135) (μ 136) (μ 139)))) 121 (uc (μ 121) p 0)) := by
  unfold FX8_leaves lbM
  rw [gd_pos he]
  simp (disch := decide) only [bn, u2_sc, sc_s, sc_k, e8_unblocks he, cb_mk]
  rw [if_pos h, e8_tells he (by simp (disch := decide) only [sc_k]; exact hw)]
  simp (disch := decide) only [cb_mk, sc_s, sc_k, hp]
  rw [if_pos hk.1, e8_entriesOfS hp1 (c := c) (by simp (disch := decide) only [sc_s, sc_k]; exact hc)]
  simp (disch := decide) only [cb_mk, sc_s, sc_k, hp]
  rw [if_pos hk.2, e8_unlist hp1 (l := l) (n := n) (p := k) (by simp (disch := decide) only [sc_k]; exact hl) hl1 (by simp (disch := decide) only [sc_k]; exact hn) hn1 hpk (by simp (disch := decide) only [sc_k]; exact hrow)]
  unfold unM
  simp (disch := decide) only [cb_mk, sc_s, sc_k, hp]
theorem e8_leaves2 {e r : Int} {μ : S2} {c : Int → Int} (he : 0 ≤ e ∧ e ≤ 191) (h : μ 116 e = 2) (hr : μ 119 e = r) (hr1 : 0 ≤ r ∧ r ≤ 17) (hc : ∀ d, 0 ≤ d → d ≤ 191 → (((0 < μ 111 d) ∧ (uc (μ 116) e 0 d = 2)) ∧ (μ 119 d = r) ↔ c d = r)) : FX8_leaves e μ = some (0, sc (lbM e μ) 132 (if cC c 192 r = 0 then uc (μ 132) r (-1) else μ 132)) := by
  unfold FX8_leaves lbM
  rw [gd_pos he]
  simp (disch := decide) only [bn, u2_sc, sc_s, sc_k, e8_unblocks he, cb_mk]
  rw [if_neg (by omega), if_pos h]
  refine (gl2_any (P := fun d => ((0 < μ 111 d) ∧ (uc (μ 116) e 0 d = 2)) ∧ (μ 119 d = r)) (N := 192) (Z := fun a => some (0, sc (sc (sc μ 116 (uc (μ 116) e 0)) 120 (ub e (μ 120))) 132 (uc (μ 132) r (if a ≠ 0 then μ 132 r else -1)))) (by decide) ?_ ?_).trans ?_
  · intro k j a hj
    simp (disch := decide) only [sc_s, sc_k, hr]
    rw [if_pos (by omega)]
  · intro k a
    simp (disch := decide) only [sc_s, sc_k, hr]
    rw [if_neg (by omega), gd_pos hr1]
  · have e1 : uc (μ 132) r (if anyI (fun d => ((0 < μ 111 d) ∧ (uc (μ 116) e 0 d = 2)) ∧ (μ 119 d = r)) 192 ≠ 0 then μ 132 r else -1) = if cC c 192 r = 0 then uc (μ 132) r (-1) else μ 132 := by
      by_cases hz : cC c 192 r = 0
      · rw [if_pos hz, if_neg]
        intro q
        obtain ⟨i, a, b, q⟩ := anyI_iff.mp q
        exact cC_0.mp hz i a b ((hc i a (by omega)).mp q)
      · rw [if_neg hz, if_pos, uc_id rfl]
        refine anyI_iff.mpr ?_
        apply Classical.byContradiction
        intro q
        exact hz (cC_0.mpr fun i a b w => q ⟨i, a, b, (hc i a (by omega)).mpr w⟩)
    rw [e1]
def ulM (e r : Int) (μ : S2) : S2 := sc μ 111 (uc (μ 111) e r)
