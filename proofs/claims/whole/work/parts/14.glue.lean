/-! what the printed walks stand on -/
theorem gRi {z : Int} (h : -2147483648 ≤ z ∧ z ≤ 2147483647) : gR z := h
theorem gR_ite {P : Prop} [Decidable P] : gR (if P then 1 else 0) := by split <;> exact ⟨by decide, by decide⟩
theorem iz_t {P : Prop} [Decidable P] (h : (if P then (1 : Int) else 0) ≠ 0) : P := by
  by_cases hp : P
  · exact hp
  · rw [if_neg hp] at h; exact absurd rfl h
theorem iz_f {P : Prop} [Decidable P] (h : (if P then (1 : Int) else 0) = 0) : ¬ P := fun hp => by rw [if_pos hp] at h; cases h
def gWk : List (Nat × Int) → List (Nat × Int) → Prop
  | [], [] => True
  | a :: l, b :: m => (b.1 = 1 ∨ b = a) ∧ gWk l m
  | _, _ => False
theorem gWk_len : ∀ {l m : List (Nat × Int)}, gWk l m → l.length = m.length
  | [], [], _ => rfl
  | a :: l, b :: m, h => by rw [List.length_cons, List.length_cons, gWk_len h.2]
  | [], _ :: _, h => h.elim
  | _ :: _, [], h => h.elim
theorem gWk_at : ∀ {l m : List (Nat × Int)}, gWk l m → ∀ (i : Nat) (q : Nat × Int), m[i]? = some q → q.1 ≠ 1 → l[i]? = some q
  | [], [], _, i, q, h, _ => by simp at h
  | a :: l, b :: m, hw, i, q, h, hq => by
    cases i with
    | zero =>
      rw [List.getElem?_cons_zero] at h ⊢
      cases h
      rcases hw.1 with h1 | h1
      · exact absurd h1 hq
      · rw [h1]
    | succ i =>
      rw [List.getElem?_cons_succ] at h ⊢
      exact gWk_at hw.2 i q h hq
  | [], _ :: _, h, _, _, _, _ => h.elim
  | _ :: _, [], h, _, _, _, _ => h.elim
theorem G_weak {X : gX} {kc ks pc : Nat} {L L' st : List (Nat × Int)} {S : gS} (hw : gWk L L') (k : G X kc ks pc L' st S) : G X kc ks pc L st S := by
  obtain ⟨p, l, e, R, s, m, args, below, meth, c, Q, w, bs⟩ := X
  intro H locs ls hW hS hL
  exact k H locs ls hW hS ⟨by rw [hL.1, gWk_len hw], hL.2.1, fun i q h hq => hL.2.2 i q (gWk_at hw i q h hq) hq⟩
/-- an answer in a range -/
def rgd (lo hi : Int) (x : Option (Int × S2)) : Option (Int × S2) := x.bind fun q => if lo ≤ q.1 ∧ q.1 ≤ hi then some q else none
theorem rgd_some {lo hi : Int} {x : Option (Int × S2)} {r : Int} {s : S2} (h : rgd lo hi x = some (r, s)) : x = some (r, s) ∧ lo ≤ r ∧ r ≤ hi := by
  unfold rgd at h
  cases hx : x with
  | none => rw [hx] at h; cases h
  | some q =>
    rw [hx] at h
    have h' : (if lo ≤ q.1 ∧ q.1 ≤ hi then some q else none) = some (r, s) := h
    split at h'
    · rename_i hq
      cases h'
      exact ⟨rfl, hq⟩
    · cases h'
theorem rgd_eq {lo hi : Int} {x : Option (Int × S2)} {r : Int} {s : S2} (h : x = some (r, s)) (h1 : lo ≤ r) (h2 : r ≤ hi) : rgd lo hi x = some (r, s) := by
  rw [h]; exact if_pos ⟨h1, h2⟩
/-- what an answer below all ints tells: the number of the exception -/
def gxc (r : Int) : Nat := if r = -1000000000001 then 1 else if r = -1000000000002 then 2 else if r = -1000000000003 then 3 else 0
theorem gxc_0 {r : Int} (h : gR r) : gxc r = 0 := by
  obtain ⟨h1, h2⟩ := h
  unfold gxc
  rw [if_neg (by omega), if_neg (by omega), if_neg (by omega)]
def rgx (x : Option (Int × S2)) : Option (Int × S2) := x.bind fun q => if gxc q.1 ≠ 0 ∨ -2147483648 ≤ q.1 ∧ q.1 ≤ 2147483647 then some q else none
theorem rgx_some {x : Option (Int × S2)} {r : Int} {s : S2} (h : rgx x = some (r, s)) : x = some (r, s) ∧ (gxc r ≠ 0 ∨ -2147483648 ≤ r ∧ r ≤ 2147483647) := by
  unfold rgx at h
  cases hx : x with
  | none => rw [hx] at h; cases h
  | some q =>
    rw [hx] at h
    have h' : (if gxc q.1 ≠ 0 ∨ -2147483648 ≤ q.1 ∧ q.1 ≤ 2147483647 then some q else none) = some (r, s) := h
    split at h'
    · rename_i hq
      cases h'
      exact ⟨rfl, hq⟩
    · cases h'
theorem gOr_03 {a b : Int} (ha : 0 ≤ a ∧ a ≤ 3) (hb : 0 ≤ b ∧ b ≤ 3) : 0 ≤ gOr a b ∧ gOr a b ≤ 3 := by
  rcases (show a = 0 ∨ a = 1 ∨ a = 2 ∨ a = 3 by omega) with rfl | rfl | rfl | rfl <;> rcases (show b = 0 ∨ b = 1 ∨ b = 2 ∨ b = 3 by omega) with rfl | rfl | rfl | rfl <;> decide
theorem gOr_01 {a b : Int} (ha : 0 ≤ a ∧ a ≤ 1) (hb : 0 ≤ b ∧ b ≤ 1) : 0 ≤ gOr a b ∧ gOr a b ≤ 1 := by
  rcases (show a = 0 ∨ a = 1 by omega) with rfl | rfl <;> rcases (show b = 0 ∨ b = 1 by omega) with rfl | rfl <;> decide
theorem gAnd_01 {a b : Int} (ha : 0 ≤ a ∧ a ≤ 1) (hb : 0 ≤ b ∧ b ≤ 1) : 0 ≤ gAnd a b ∧ gAnd a b ≤ 1 := by
  rcases (show a = 0 ∨ a = 1 by omega) with rfl | rfl <;> rcases (show b = 0 ∨ b = 1 by omega) with rfl | rfl <;> decide
theorem gAnd_03 {a b : Int} (ha : 0 ≤ a ∧ a ≤ 3) : 0 ≤ gAnd a b ∧ gAnd a b ≤ 3 := by
  have h1 : (gi a).toBitVec.toNat ≤ 3 := by
    rcases (show a = 0 ∨ a = 1 ∨ a = 2 ∨ a = 3 by omega) with rfl | rfl | rfl | rfl <;> decide
  have h2 : ((gi a).toBitVec &&& (gi b).toBitVec).toNat ≤ 3 := by
    rw [BitVec.toNat_and]
    exact Nat.le_trans Nat.and_le_left h1
  have h3 : gAnd a b = ((gi a).toBitVec &&& (gi b).toBitVec).toInt := rfl
  rw [h3, BitVec.toInt_eq_toNat_of_lt (by omega)]
  omega
section GG
variable {X : gX} {own : String} {cc : ByteArray} {nL lev rc rs kc ks : Nat} {L st : List (Nat × Int)} {S : gS}
theorem g_aload_nq (h : gOk X own cc nL lev rc rs) (pc : Nat) {i : Fin 4} {tg : Nat} {z : Int} (hd : decode cc pc = .ok (.aload_n i, 1)) (h3 : Nat.ble 3 tg = true) (hl : L[(i : Nat)]? = some (tg, z)) (k : G X kc ks (pc + 1) L ((tg, z) :: st) S) : G X kc ks pc L st S := by
  obtain ⟨t, rfl⟩ : ∃ t, tg = t + 3 := ⟨tg - 3, by have := Nat.le_of_ble_eq_true h3; omega⟩
  exact g_aload_n h pc hd hl k
theorem g_aloadq (h : gOk X own cc nL lev rc rs) (pc : Nat) {i : Nat} {tg : Nat} {z : Int} (hd : decode cc pc = .ok (.aload i, 2)) (h3 : Nat.ble 3 tg = true) (hl : L[i]? = some (tg, z)) (k : G X kc ks (pc + 2) L ((tg, z) :: st) S) : G X kc ks pc L st S := by
  obtain ⟨t, rfl⟩ : ∃ t, tg = t + 3 := ⟨tg - 3, by have := Nat.le_of_ble_eq_true h3; omega⟩
  exact g_aload h pc hd hl k
theorem g_nullq (h : gOk X own cc nL lev rc rs) (pc : Nat) (tg : Nat) (h3 : Nat.ble 3 tg = true) (hd : decode cc pc = .ok (.aconst_null, 1)) (k : G X kc ks (pc + 1) L ((tg, -1) :: st) S) : G X kc ks pc L st S := by
  obtain ⟨t, rfl⟩ : ∃ t, tg = t + 3 := ⟨tg - 3, by have := Nat.le_of_ble_eq_true h3; omega⟩
  exact g_null h pc t hd k
theorem g_tsIn (h : gOk X own cc nL lev rc rs) (pc : Nat) {dflt lo hi : Int} {offs : Array Int} {len : Nat} (hd : decode cc pc = .ok (.tableswitch dflt lo hi offs, len)) {z : Int} (c : Int) (tgt : Nat) (hz : z = c) (h1 : lo ≤ c ∧ c ≤ hi) (hr : -2147483648 ≤ c ∧ c ≤ 2147483647) (off : Int) (ho : offs[(c - lo).toNat]? = some off) (ht : (pc : Int) + off = (tgt : Int)) (k : G X kc ks tgt L st S) : G X kc ks pc L ((0, z) :: st) S := by
  obtain ⟨p, l, e, R, s, m, args, below, meth, c', Q, w, bs⟩ := X
  obtain ⟨hx, hb, hml, hown, hts, hlk, hE, hfr, hlo, hrc, hrs, hst⟩ := h
  subst hz
  intro H locs ls hW hS hL
  exact lv_tableIn (x := gi z) hx hb hd (by rw [gi_toInt hr]; omega) (by rw [gi_toInt hr]; omega) (by rw [gi_toInt hr]; exact ho) ht (k H locs ls hW hS hL)
theorem g_tsOut (h : gOk X own cc nL lev rc rs) (pc : Nat) {dflt lo hi : Int} {offs : Array Int} {len : Nat} (hd : decode cc pc = .ok (.tableswitch dflt lo hi offs, len)) {z : Int} (tgt : Nat) (hr : gR z) (hz : z < lo ∨ hi < z) (ht : (pc : Int) + dflt = (tgt : Int)) (k : G X kc ks tgt L st S) : G X kc ks pc L ((0, z) :: st) S := by
  obtain ⟨p, l, e, R, s, m, args, below, meth, c', Q, w, bs⟩ := X
  obtain ⟨hx, hb, hml, hown, hts, hlk, hE, hfr, hlo, hrc, hrs, hst⟩ := h
  intro H locs ls hW hS hL
  exact lv_tableOut (x := gi z) hx hb hd (by rw [gi_toInt hr]; exact hz) ht (k H locs ls hW hS hL)
end GG

theorem glx0 {β : Type} {n : Nat} {f : (S2 → Option β) → S2 → Option β} {s : S2} {y : Option β} (h : gl0 n f s = y) : ∃ g, g = f ∧ gl0 n g s = y := ⟨f, rfl, h⟩
theorem glu0 {β : Type} {n : Nat} {f g : (S2 → Option β) → S2 → Option β} {s : S2} {y : Option β} (h : gl0 (n + 1) f s = y) (e : f = g) : ∃ k, k = gl0 n f ∧ g k s = y := ⟨gl0 n f, rfl, by rw [← e]; exact h⟩
theorem glx1 {β : Type} {n : Nat} {f : (Int → S2 → Option β) → Int → S2 → Option β} {x0 : Int} {s : S2} {y : Option β} (h : gl1 n f x0 s = y) : ∃ g, g = f ∧ gl1 n g x0 s = y := ⟨f, rfl, h⟩
theorem glu1 {β : Type} {n : Nat} {f g : (Int → S2 → Option β) → Int → S2 → Option β} {x0 : Int} {s : S2} {y : Option β} (h : gl1 (n + 1) f x0 s = y) (e : f = g) : ∃ k, k = gl1 n f ∧ g k x0 s = y := ⟨gl1 n f, rfl, by rw [← e]; exact h⟩
theorem glx2 {β : Type} {n : Nat} {f : (Int → Int → S2 → Option β) → Int → Int → S2 → Option β} {x0 x1 : Int} {s : S2} {y : Option β} (h : gl2 n f x0 x1 s = y) : ∃ g, g = f ∧ gl2 n g x0 x1 s = y := ⟨f, rfl, h⟩
theorem glu2 {β : Type} {n : Nat} {f g : (Int → Int → S2 → Option β) → Int → Int → S2 → Option β} {x0 x1 : Int} {s : S2} {y : Option β} (h : gl2 (n + 1) f x0 x1 s = y) (e : f = g) : ∃ k, k = gl2 n f ∧ g k x0 x1 s = y := ⟨gl2 n f, rfl, by rw [← e]; exact h⟩
theorem glx3 {β : Type} {n : Nat} {f : (Int → Int → Int → S2 → Option β) → Int → Int → Int → S2 → Option β} {x0 x1 x2 : Int} {s : S2} {y : Option β} (h : gl3 n f x0 x1 x2 s = y) : ∃ g, g = f ∧ gl3 n g x0 x1 x2 s = y := ⟨f, rfl, h⟩
theorem glu3 {β : Type} {n : Nat} {f g : (Int → Int → Int → S2 → Option β) → Int → Int → Int → S2 → Option β} {x0 x1 x2 : Int} {s : S2} {y : Option β} (h : gl3 (n + 1) f x0 x1 x2 s = y) (e : f = g) : ∃ k, k = gl3 n f ∧ g k x0 x1 x2 s = y := ⟨gl3 n f, rfl, by rw [← e]; exact h⟩
theorem glx4 {β : Type} {n : Nat} {f : (Int → Int → Int → Int → S2 → Option β) → Int → Int → Int → Int → S2 → Option β} {x0 x1 x2 x3 : Int} {s : S2} {y : Option β} (h : gl4 n f x0 x1 x2 x3 s = y) : ∃ g, g = f ∧ gl4 n g x0 x1 x2 x3 s = y := ⟨f, rfl, h⟩
theorem glu4 {β : Type} {n : Nat} {f g : (Int → Int → Int → Int → S2 → Option β) → Int → Int → Int → Int → S2 → Option β} {x0 x1 x2 x3 : Int} {s : S2} {y : Option β} (h : gl4 (n + 1) f x0 x1 x2 x3 s = y) (e : f = g) : ∃ k, k = gl4 n f ∧ g k x0 x1 x2 x3 s = y := ⟨gl4 n f, rfl, by rw [← e]; exact h⟩
theorem glx5 {β : Type} {n : Nat} {f : (Int → Int → Int → Int → Int → S2 → Option β) → Int → Int → Int → Int → Int → S2 → Option β} {x0 x1 x2 x3 x4 : Int} {s : S2} {y : Option β} (h : gl5 n f x0 x1 x2 x3 x4 s = y) : ∃ g, g = f ∧ gl5 n g x0 x1 x2 x3 x4 s = y := ⟨f, rfl, h⟩
theorem glu5 {β : Type} {n : Nat} {f g : (Int → Int → Int → Int → Int → S2 → Option β) → Int → Int → Int → Int → Int → S2 → Option β} {x0 x1 x2 x3 x4 : Int} {s : S2} {y : Option β} (h : gl5 (n + 1) f x0 x1 x2 x3 x4 s = y) (e : f = g) : ∃ k, k = gl5 n f ∧ g k x0 x1 x2 x3 x4 s = y := ⟨gl5 n f, rfl, by rw [← e]; exact h⟩
theorem glx6 {β : Type} {n : Nat} {f : (Int → Int → Int → Int → Int → Int → S2 → Option β) → Int → Int → Int → Int → Int → Int → S2 → Option β} {x0 x1 x2 x3 x4 x5 : Int} {s : S2} {y : Option β} (h : gl6 n f x0 x1 x2 x3 x4 x5 s = y) : ∃ g, g = f ∧ gl6 n g x0 x1 x2 x3 x4 x5 s = y := ⟨f, rfl, h⟩
theorem glu6 {β : Type} {n : Nat} {f g : (Int → Int → Int → Int → Int → Int → S2 → Option β) → Int → Int → Int → Int → Int → Int → S2 → Option β} {x0 x1 x2 x3 x4 x5 : Int} {s : S2} {y : Option β} (h : gl6 (n + 1) f x0 x1 x2 x3 x4 x5 s = y) (e : f = g) : ∃ k, k = gl6 n f ∧ g k x0 x1 x2 x3 x4 x5 s = y := ⟨gl6 n f, rfl, by rw [← e]; exact h⟩
theorem glx7 {β : Type} {n : Nat} {f : (Int → Int → Int → Int → Int → Int → Int → S2 → Option β) → Int → Int → Int → Int → Int → Int → Int → S2 → Option β} {x0 x1 x2 x3 x4 x5 x6 : Int} {s : S2} {y : Option β} (h : gl7 n f x0 x1 x2 x3 x4 x5 x6 s = y) : ∃ g, g = f ∧ gl7 n g x0 x1 x2 x3 x4 x5 x6 s = y := ⟨f, rfl, h⟩
theorem glu7 {β : Type} {n : Nat} {f g : (Int → Int → Int → Int → Int → Int → Int → S2 → Option β) → Int → Int → Int → Int → Int → Int → Int → S2 → Option β} {x0 x1 x2 x3 x4 x5 x6 : Int} {s : S2} {y : Option β} (h : gl7 (n + 1) f x0 x1 x2 x3 x4 x5 x6 s = y) (e : f = g) : ∃ k, k = gl7 n f ∧ g k x0 x1 x2 x3 x4 x5 x6 s = y := ⟨gl7 n f, rfl, by rw [← e]; exact h⟩
