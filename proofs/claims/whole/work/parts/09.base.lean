/-! the store and the world, a judgement over them -/
/-! The store: a cell's number is found by its field (a row of the table below) and its object's number. -/
abbrev S2 : Type := Nat → Int → Int
def upd2 (σ : S2) (k : Nat) (i v : Int) : S2 := fun k' i' => if k' = k ∧ i' = i then v else σ k' i'
theorem upd2_s {σ : S2} {k : Nat} {i v : Int} : upd2 σ k i v k i = v := by simp [upd2]
theorem upd2_k {σ : S2} {k k' : Nat} {i i' v : Int} (h : k' ≠ k) : upd2 σ k i v k' i' = σ k' i' := by simp [upd2, h]
theorem upd2_i {σ : S2} {k k' : Nat} {i i' v : Int} (h : i' ≠ i) : upd2 σ k i v k' i' = σ k' i' := by simp [upd2, h]
/-! ints -/
def gi (z : Int) : Int32 := Int32.ofInt z
def gR (z : Int) : Prop := -2147483648 ≤ z ∧ z ≤ 2147483647
theorem gi_toInt {z : Int} (h : gR z) : (gi z).toInt = z := Int32.toInt_ofInt_of_le (by have := h.1; omega) (by have := h.2; omega)
theorem gi_of (x : Int32) : gi x.toInt = x := Int32.ofInt_toInt x
theorem gR_toInt (x : Int32) : gR x.toInt := ⟨by have := Int32.le_toInt x; omega, by have := Int32.toInt_lt x; omega⟩
theorem gi_add (a b : Int) : gi a + gi b = gi (a + b) := (Int32.ofInt_add a b).symm
theorem gi_sub (a b : Int) : gi a - gi b = gi (a - b) := (Int32.ofInt_sub a b).symm
theorem gi_mul (a b : Int) : gi a * gi b = gi (a * b) := (Int32.ofInt_mul a b).symm
theorem gi_eq {a b : Int} (ha : gR a) (hb : gR b) : gi a = gi b ↔ a = b := ⟨fun h => by rw [← gi_toInt ha, ← gi_toInt hb, h], fun h => by rw [h]⟩
theorem gi_lt {a b : Int} (ha : gR a) (hb : gR b) : gi a < gi b ↔ a < b := by rw [Int32.lt_iff_toInt_lt, gi_toInt ha, gi_toInt hb]
theorem gi_le {a b : Int} (ha : gR a) (hb : gR b) : gi a ≤ gi b ↔ a ≤ b := by rw [Int32.le_iff_toInt_le, gi_toInt ha, gi_toInt hb]
theorem gi_cl {z : Int} (h : gR z) : (gi z).toNatClampNeg = z.toNat := by rw [← Int32.toNat_toInt, gi_toInt h]
theorem gi_in {z : Int} {n : Nat} (h : 0 ≤ z) (h2 : z < n) (hn : n < 2147483648) : vp_in (gi z) n := vp_in_iff.mpr (by rw [gi_toInt ⟨by omega, by omega⟩]; exact ⟨h, h2⟩)
theorem gi_div {a b : Int} (ha : 0 ≤ a) (ha2 : a ≤ 2147483647) (hb : 0 < b) (hb2 : b ≤ 2147483647) : gi a / gi b = gi (a / b) := by
  apply Int32.toInt_inj.mp
  have h1 : gR a := ⟨by omega, ha2⟩
  have h2 : gR b := ⟨by omega, hb2⟩
  have h3 : 0 ≤ a / b := Int.ediv_nonneg ha (by omega)
  have h4 : a / b ≤ a := Int.ediv_le_self _ ha
  rw [Int32.toInt_div_of_ne_right _ _ (by
    intro h
    have := congrArg Int32.toInt h
    rw [gi_toInt h2] at this
    have e : (-1 : Int32).toInt = -1 := by decide
    omega), gi_toInt h1, gi_toInt h2, gi_toInt ⟨by omega, by omega⟩, Int.tdiv_eq_ediv_of_nonneg ha]
theorem gi_rem {a b : Int} (ha : 0 ≤ a) (ha2 : a ≤ 2147483647) (hb : 0 < b) (hb2 : b ≤ 2147483647) : gi a - gi a / gi b * gi b = gi (a % b) := by
  rw [gi_div ha ha2 hb hb2, gi_mul, gi_sub]
  congr 1
  have := Int.emod_def a b
  rw [this, Int.mul_comm]
/-- the bits, as numbers -/
def gAnd (a b : Int) : Int := (gi a &&& gi b).toInt
def gOr (a b : Int) : Int := (gi a ||| gi b).toInt
def gXor (a b : Int) : Int := (gi a ^^^ gi b).toInt
def gShl (a b : Int) : Int := (gi a <<< (gi b &&& 31)).toInt
/-! values: 0 an int, 1 nothing known, 2 a long, k + 3 an object of kind k by its number, null below 0 -/
abbrev gW : Type := va_G × (Nat → Int → Nat) × (Nat → ClassId)
abbrev gS : Type := S2 × S2
def gvl (w : gW) (q : Nat × Int) : Value := match q.1 with
  | 0 => .int (gi q.2)
  | 1 => .null
  | 2 => .long (Int64.ofInt q.2)
  | k + 3 => if q.2 < 0 then .null else .ref (w.2.1 k q.2)
theorem gvl_ref {w : gW} {k : Nat} {z : Int} (h : 0 ≤ z) : gvl w (k + 3, z) = .ref (w.2.1 k z) := by
  show (if z < 0 then Value.null else .ref (w.2.1 k z)) = _
  rw [if_neg (by omega)]
theorem gvl_null {w : gW} {k : Nat} {z : Int} (h : z < 0) : gvl w (k + 3, z) = .null := by
  show (if z < 0 then Value.null else .ref (w.2.1 k z)) = _
  rw [if_pos h]
theorem gvl_c2 (w : gW) (q : Nat × Int) : (gvl w q).category ≤ 2 := by rcases lv_cat (gvl w q) with h | h <;> omega
theorem gvl_c1 (w : gW) {q : Nat × Int} (h : q.1 ≠ 2) : (gvl w q).category = 1 := by
  obtain ⟨k, z⟩ := q
  match k, h with
  | 0, _ => rfl
  | 1, _ => rfl
  | k + 3, _ =>
    show (if z < 0 then Value.null else .ref (w.2.1 k z)).category = 1
    split <;> rfl
theorem gvl_sum (w : gW) : ∀ (st : List (Nat × Int)), ((st.map (gvl w)).map fun v => v.category).sum ≤ 2 * st.length
  | [] => Nat.le_refl _
  | q :: st => by
    have h1 := gvl_sum w st
    have h2 := gvl_c2 w q
    simp only [List.map_cons, List.sum_cons, List.length_cons]
    omega
theorem gvl_rf {w : gW} {k : Nat} {z : Int} : gvl w (k + 3, z) = va_rf (if z < 0 then none else some (w.2.1 k z)) := by
  show (if z < 0 then Value.null else .ref (w.2.1 k z)) = _
  split <;> rfl
/-! locals -/
def gHas (w : gW) (ls : Array Slot) (L : List (Nat × Int)) : Prop := ls.size = L.length ∧ lv_wf ls ∧ ∀ (i : Nat) (q : Nat × Int), L[i]? = some q → q.1 ≠ 1 → ls[i]? = some (.val (gvl w q))
theorem gHas_store {w : gW} {ls : Array Slot} {L : List (Nat × Int)} (h : gHas w ls L) {i : Nat} {q : Nat × Int} (hq : q.1 ≠ 2) (h1 : ∀ p ∈ L, p.1 ≠ 2) (hi : i < L.length) : ∃ ls', storeLocals ls i (gvl w q) = some ls' ∧ gHas w ls' (L.set i q) := by
  obtain ⟨hs, hwf, hl⟩ := h
  obtain ⟨ls', e, h2⟩ := lv_store1 (ls := ls) (nL := L.length) (l := (L.zipIdx.filter fun (p : (Nat × Int) × Nat) => decide (p.1.1 ≠ 1)).map fun (p : (Nat × Int) × Nat) => (p.2, gvl w p.1)) (i := i) (v := gvl w q) ⟨hs, hwf, fun p hp => by
    obtain ⟨⟨⟨t, z⟩, j⟩, h3, rfl⟩ := List.mem_map.mp hp
    obtain ⟨h4, h5⟩ := List.mem_filter.mp h3
    have h6 := List.mem_zipIdx' h4
    refine hl j (t, z) ?_ (by simpa using h5)
    rw [List.getElem?_eq_getElem h6.1]
    exact congrArg some h6.2.symm⟩ hi (gvl_c1 w hq)
  obtain ⟨k1, k2, k3⟩ := h2
  refine ⟨ls', e, by rw [k1, List.length_set], k2, fun j p hj hp => ?_⟩
  by_cases hij : j = i
  · subst hij
    rw [List.getElem?_set_self hi] at hj
    cases hj
    exact k3 (j, gvl w q) List.mem_cons_self
  · rw [List.getElem?_set_ne (Ne.symm hij)] at hj
    refine k3 (j, gvl w p) (List.mem_cons_of_mem _ (List.mem_filter.mpr ⟨List.mem_map.mpr ⟨(p, j), List.mem_filter.mpr ⟨?_, by simpa using hp⟩, rfl⟩, ?_⟩))
    · exact List.mem_zipIdx_iff_getElem?.mpr hj
    · have : (gvl w p).category = 1 := gvl_c1 w (h1 p (List.mem_of_getElem? hj))
      simp [hij, this]
/-- a class's fields: (0, f) an int in the store; (1, c) a constant; (2, k) its own object of kind k; (k + 3, f) an object of kind k in the store -/
def gFT : Nat → List (Nat × Nat) := fun k => match k with
  | 0 => [(1, 2), (2, 20), (0, 1)]
  | 1 => [(1, 1), (0, 2), (0, 3), (0, 4), (0, 5), (0, 6), (0, 7), (0, 8), (5, 9), (0, 10), (6, 11), (0, 12), (0, 14)]
  | 2 => [(1, 0), (0, 15), (0, 16), (0, 17), (0, 18), (0, 19), (0, 20), (0, 21), (0, 22), (0, 23), (0, 24), (0, 25)]
  | 3 => [(0, 26), (0, 27), (0, 28), (0, 29), (0, 30)]
  | 4 => [(2, 18), (2, 19), (0, 31), (0, 32)]
  | 5 => [(1, 0), (2, 17), (0, 33), (0, 34), (0, 35), (0, 36)]
  | 6 => [(4, 37), (0, 38), (0, 39)]
  | 7 => [(2, 9), (2, 10), (2, 11), (2, 4), (2, 12), (2, 13), (2, 14), (2, 15), (2, 16), (0, 40), (0, 41), (0, 42), (0, 43)]
  | 8 => [(0, 101), (0, 102), (2, 21), (2, 22), (2, 23), (2, 24), (2, 25), (2, 26), (2, 27), (2, 28), (2, 29), (2, 30), (2, 31), (2, 32), (2, 33), (2, 34), (2, 35), (2, 36), (2, 37), (2, 38), (2, 39), (2, 40), (2, 41), (2, 42), (2, 43), (2, 44), (2, 45), (2, 46), (2, 47), (2, 48), (2, 49), (0, 103), (2, 50), (2, 51), (2, 52), (2, 53), (2, 54), (2, 55), (0, 104), (0, 105), (2, 56)]
  | _ => []
/-- an array: how many, the tag of its elements, its row of the store (0: none), the objects' step -/
def gAT : Nat → Nat × Nat × Nat × Nat := fun k => match k with
  | 9 => (6, 8, 0, 0)
  | 10 => (24, 5, 0, 0)
  | 11 => (2, 3, 0, 0)
  | 12 => (24, 0, 44, 0)
  | 13 => (24, 0, 45, 0)
  | 14 => (48, 0, 46, 0)
  | 15 => (3, 0, 47, 0)
  | 16 => (8, 0, 48, 0)
  | 17 => (32, 4, 0, 32)
  | 18 => (18, 6, 0, 0)
  | 19 => (10, 0, 49, 0)
  | 20 => (4, 9, 50, 4)
  | 21 => (6, 0, 106, 0)
  | 22 => (6, 0, 107, 0)
  | 23 => (6, 0, 108, 0)
  | 24 => (6, 0, 109, 0)
  | 25 => (3, 0, 110, 0)
  | 26 => (192, 0, 111, 0)
  | 27 => (192, 0, 112, 0)
  | 28 => (192, 0, 113, 0)
  | 29 => (192, 0, 114, 0)
  | 30 => (192, 0, 115, 0)
  | 31 => (192, 0, 116, 0)
  | 32 => (192, 0, 117, 0)
  | 33 => (192, 0, 118, 0)
  | 34 => (192, 0, 119, 0)
  | 35 => (192, 0, 120, 0)
  | 36 => (24, 0, 121, 0)
  | 37 => (24, 0, 122, 0)
  | 38 => (24, 0, 123, 0)
  | 39 => (24, 0, 124, 0)
  | 40 => (24, 0, 125, 0)
  | 41 => (24, 0, 126, 0)
  | 42 => (24, 0, 127, 0)
  | 43 => (48, 0, 128, 0)
  | 44 => (2, 0, 129, 0)
  | 45 => (24, 0, 130, 0)
  | 46 => (24, 0, 131, 0)
  | 47 => (18, 0, 132, 0)
  | 48 => (18, 0, 133, 0)
  | 49 => (18, 0, 134, 0)
  | 50 => (2, 0, 135, 0)
  | 51 => (8, 0, 136, 0)
  | 52 => (8, 0, 137, 0)
  | 53 => (8, 0, 138, 0)
  | 54 => (8, 0, 139, 0)
  | 55 => (8, 0, 140, 0)
  | 56 => (192, 0, 141, 0)
  | 57 => (1, 2, 51, 0)
  | _ => (0, 0, 0, 0)
def gN : Nat → Int := fun k => match k with
  | 0 => 2
  | 1 => 192
  | 2 => 24
  | 3 => 18
  | 4 => 1
  | 5 => 6
  | 6 => 8
  | 7 => 1
  | 8 => 1
  | 9 => 1
  | 10 => 1
  | 11 => 1
  | 12 => 1
  | 13 => 1
  | 14 => 1
  | 15 => 1
  | 16 => 1
  | 17 => 6
  | 18 => 1
  | 19 => 1
  | 20 => 2
  | 21 => 1
  | 22 => 1
  | 23 => 1
  | 24 => 1
  | 25 => 1
  | 26 => 1
  | 27 => 1
  | 28 => 1
  | 29 => 1
  | 30 => 1
  | 31 => 1
  | 32 => 1
  | 33 => 1
  | 34 => 1
  | 35 => 1
  | 36 => 1
  | 37 => 1
  | 38 => 1
  | 39 => 1
  | 40 => 1
  | 41 => 1
  | 42 => 1
  | 43 => 1
  | 44 => 1
  | 45 => 1
  | 46 => 1
  | 47 => 1
  | 48 => 1
  | 49 => 1
  | 50 => 1
  | 51 => 1
  | 52 => 1
  | 53 => 1
  | 54 => 1
  | 55 => 1
  | 56 => 1
  | 57 => 1
  | _ => 0
def gSd : Nat → Bool := fun k => match k with
  | 8 => true
  | 21 => true
  | 22 => true
  | 23 => true
  | 24 => true
  | 25 => true
  | 26 => true
  | 27 => true
  | 28 => true
  | 29 => true
  | 30 => true
  | 31 => true
  | 32 => true
  | 33 => true
  | 34 => true
  | 35 => true
  | 36 => true
  | 37 => true
  | 38 => true
  | 39 => true
  | 40 => true
  | 41 => true
  | 42 => true
  | 43 => true
  | 44 => true
  | 45 => true
  | 46 => true
  | 47 => true
  | 48 => true
  | 49 => true
  | 50 => true
  | 51 => true
  | 52 => true
  | 53 => true
  | 54 => true
  | 55 => true
  | 56 => true
  | _ => false
def gOwn : Nat → Nat := fun f => match f with
  | 1 => 0
  | 2 => 1
  | 3 => 1
  | 4 => 1
  | 5 => 1
  | 6 => 1
  | 7 => 1
  | 8 => 1
  | 9 => 1
  | 10 => 1
  | 11 => 1
  | 12 => 1
  | 14 => 1
  | 15 => 2
  | 16 => 2
  | 17 => 2
  | 18 => 2
  | 19 => 2
  | 20 => 2
  | 21 => 2
  | 22 => 2
  | 23 => 2
  | 24 => 2
  | 25 => 2
  | 26 => 3
  | 27 => 3
  | 28 => 3
  | 29 => 3
  | 30 => 3
  | 31 => 4
  | 32 => 4
  | 33 => 5
  | 34 => 5
  | 35 => 5
  | 36 => 5
  | 37 => 6
  | 38 => 6
  | 39 => 6
  | 40 => 7
  | 41 => 7
  | 42 => 7
  | 43 => 7
  | 44 => 12
  | 45 => 13
  | 46 => 14
  | 47 => 15
  | 48 => 16
  | 49 => 19
  | 50 => 20
  | 51 => 57
  | 101 => 8
  | 102 => 8
  | 103 => 8
  | 104 => 8
  | 105 => 8
  | 106 => 21
  | 107 => 22
  | 108 => 23
  | 109 => 24
  | 110 => 25
  | 111 => 26
  | 112 => 27
  | 113 => 28
  | 114 => 29
  | 115 => 30
  | 116 => 31
  | 117 => 32
  | 118 => 33
  | 119 => 34
  | 120 => 35
  | 121 => 36
  | 122 => 37
  | 123 => 38
  | 124 => 39
  | 125 => 40
  | 126 => 41
  | 127 => 42
  | 128 => 43
  | 129 => 44
  | 130 => 45
  | 131 => 46
  | 132 => 47
  | 133 => 48
  | 134 => 49
  | 135 => 50
  | 136 => 51
  | 137 => 52
  | 138 => 53
  | 139 => 54
  | 140 => 55
  | 141 => 56
  | _ => 1000
def gPos : Nat → Nat := fun f => match f with
  | 1 => 2
  | 2 => 1
  | 3 => 2
  | 4 => 3
  | 5 => 4
  | 6 => 5
  | 7 => 6
  | 8 => 7
  | 9 => 8
  | 10 => 9
  | 11 => 10
  | 12 => 11
  | 14 => 12
  | 15 => 1
  | 16 => 2
  | 17 => 3
  | 18 => 4
  | 19 => 5
  | 20 => 6
  | 21 => 7
  | 22 => 8
  | 23 => 9
  | 24 => 10
  | 25 => 11
  | 26 => 0
  | 27 => 1
  | 28 => 2
  | 29 => 3
  | 30 => 4
  | 31 => 2
  | 32 => 3
  | 33 => 2
  | 34 => 3
  | 35 => 4
  | 36 => 5
  | 37 => 0
  | 38 => 1
  | 39 => 2
  | 40 => 9
  | 41 => 10
  | 42 => 11
  | 43 => 12
  | 44 => 0
  | 45 => 0
  | 46 => 0
  | 47 => 0
  | 48 => 0
  | 49 => 0
  | 50 => 0
  | 51 => 0
  | 101 => 0
  | 102 => 1
  | 103 => 31
  | 104 => 38
  | 105 => 39
  | 106 => 0
  | 107 => 0
  | 108 => 0
  | 109 => 0
  | 110 => 0
  | 111 => 0
  | 112 => 0
  | 113 => 0
  | 114 => 0
  | 115 => 0
  | 116 => 0
  | 117 => 0
  | 118 => 0
  | 119 => 0
  | 120 => 0
  | 121 => 0
  | 122 => 0
  | 123 => 0
  | 124 => 0
  | 125 => 0
  | 126 => 0
  | 127 => 0
  | 128 => 0
  | 129 => 0
  | 130 => 0
  | 131 => 0
  | 132 => 0
  | 133 => 0
  | 134 => 0
  | 135 => 0
  | 136 => 0
  | 137 => 0
  | 138 => 0
  | 139 => 0
  | 140 => 0
  | 141 => 0
  | _ => 1000
/-- what a row of the store may hold -/
def gTy (f : Nat) (v : Int) : Prop := match f with
  | 1 => 0 ≤ v ∧ v ≤ 4
  | 2 => 0 ≤ v ∧ v ≤ 1
  | 3 => 0 ≤ v ∧ v ≤ 3
  | 4 => -1 ≤ v ∧ v ≤ 2
  | 5 => 0 ≤ v ∧ v ≤ 7
  | 6 => 0 ≤ v ∧ v ≤ 1
  | 7 => 0 ≤ v ∧ v ≤ 1
  | 8 => 0 ≤ v ∧ v ≤ 2
  | 9 => -1 ≤ v ∧ v ≤ 23
  | 10 => 0 ≤ v ∧ v ≤ 1
  | 11 => -1 ≤ v ∧ v ≤ 17
  | 12 => 0 ≤ v ∧ v ≤ 1
  | 14 => 0 ≤ v ∧ v ≤ 3
  | 15 => 0 ≤ v ∧ v ≤ 2
  | 16 => 0 ≤ v ∧ v ≤ 99999
  | 17 => 0 ≤ v ∧ v ≤ 1
  | 19 => 0 ≤ v ∧ v ≤ 1
  | 20 => 0 ≤ v ∧ v ≤ 192
  | 21 => 0 ≤ v ∧ v ≤ 2
  | 22 => 0 ≤ v ∧ v ≤ 1
  | 23 => 0 ≤ v ∧ v ≤ 1
  | 24 => 0 ≤ v ∧ v ≤ 2
  | 25 => 0 ≤ v ∧ v ≤ 7
  | 26 => 0 ≤ v ∧ v ≤ 99999
  | 27 => 0 ≤ v ∧ v ≤ 2
  | 28 => 0 ≤ v ∧ v ≤ 10
  | 30 => 0 ≤ v ∧ v ≤ 192
  | 31 => 0 ≤ v ∧ v ≤ 8
  | 33 => 0 ≤ v ∧ v ≤ 2
  | 34 => -50 ≤ v ∧ v ≤ 50
  | 35 => 0 ≤ v ∧ v ≤ 1
  | 36 => 0 ≤ v ∧ v ≤ 1
  | 37 => -1 ≤ v ∧ v ≤ 191
  | 38 => 0 ≤ v ∧ v ≤ 23
  | 39 => 0 ≤ v ∧ v ≤ 1
  | 41 => 0 ≤ v ∧ v ≤ 6
  | 42 => 0 ≤ v ∧ v ≤ 6
  | 43 => 0 ≤ v ∧ v ≤ 32
  | 44 => 0 ≤ v ∧ v ≤ 99999
  | 46 => 0 ≤ v ∧ v ≤ 1
  | 47 => -1 ≤ v ∧ v ≤ 24
  | 49 => 0 ≤ v ∧ v ≤ 1
  | 50 => 0 ≤ v ∧ v ≤ 7
  | 101 => 0 ≤ v ∧ v ≤ 3
  | 102 => 0 ≤ v ∧ v ≤ 6
  | 104 => 0 ≤ v ∧ v ≤ 192
  | 105 => 0 ≤ v ∧ v ≤ 192
  | 106 => 0 ≤ v ∧ v ≤ 1
  | 107 => 0 ≤ v ∧ v ≤ 2
  | 108 => -50 ≤ v ∧ v ≤ 50
  | 109 => 0 ≤ v ∧ v ≤ 1
  | 110 => -1 ≤ v ∧ v ≤ 24
  | 111 => 0 ≤ v ∧ v ≤ 3
  | 112 => -1 ≤ v ∧ v ≤ 2
  | 113 => 0 ≤ v ∧ v ≤ 7
  | 114 => 0 ≤ v ∧ v ≤ 1
  | 115 => 0 ≤ v ∧ v ≤ 1
  | 116 => 0 ≤ v ∧ v ≤ 2
  | 117 => 0 ≤ v ∧ v ≤ 23
  | 118 => 0 ≤ v ∧ v ≤ 1
  | 119 => -1 ≤ v ∧ v ≤ 17
  | 120 => 0 ≤ v ∧ v ≤ 1
  | 121 => 0 ≤ v ∧ v ≤ 2
  | 122 => 0 ≤ v ∧ v ≤ 99999
  | 123 => 0 ≤ v ∧ v ≤ 1
  | 124 => 0 ≤ v ∧ v ≤ 1
  | 125 => 0 ≤ v ∧ v ≤ 2
  | 126 => 0 ≤ v ∧ v ≤ 1
  | 127 => -1 ≤ v ∧ v ≤ 23
  | 128 => 0 ≤ v ∧ v ≤ 23
  | 129 => 0 ≤ v ∧ v ≤ 24
  | 130 => 0 ≤ v ∧ v ≤ 99999
  | 132 => -1 ≤ v ∧ v ≤ 10
  | 133 => 0 ≤ v ∧ v ≤ 99999
  | 135 => 0 ≤ v ∧ v ≤ 4
  | 136 => 0 ≤ v ∧ v ≤ 191
  | 137 => 0 ≤ v ∧ v ≤ 23
  | 138 => 0 ≤ v ∧ v ≤ 1
  | 139 => 0 ≤ v ∧ v ≤ 1
  | 141 => -1 ≤ v ∧ v ≤ 191
  | _ => True
def gTys (w : gW) : List (ClassId × FieldType) := [(w.2.2 9, .object "Pagewright$Space"), (w.2.2 10, .object "Pagewright$Page"), (w.2.2 11, .object "Pagewright$Cache"), (w.2.2 12, .int), (w.2.2 13, .int), (w.2.2 14, .boolean), (w.2.2 15, .int), (w.2.2 16, .int), (w.2.2 17, .object "Pagewright$Entry"), (w.2.2 18, .object "Pagewright$Record"), (w.2.2 19, .boolean), (w.2.2 20, .object "Pagewright$Translation"), (w.2.2 21, .boolean), (w.2.2 22, .int), (w.2.2 23, .int), (w.2.2 24, .boolean), (w.2.2 25, .int), (w.2.2 26, .int), (w.2.2 27, .int), (w.2.2 28, .int), (w.2.2 29, .boolean), (w.2.2 30, .boolean), (w.2.2 31, .int), (w.2.2 32, .int), (w.2.2 33, .boolean), (w.2.2 34, .int), (w.2.2 35, .boolean), (w.2.2 36, .int), (w.2.2 37, .int), (w.2.2 38, .int), (w.2.2 39, .boolean), (w.2.2 40, .int), (w.2.2 41, .boolean), (w.2.2 42, .int), (w.2.2 43, .int), (w.2.2 44, .int), (w.2.2 45, .int), (w.2.2 46, .int), (w.2.2 47, .int), (w.2.2 48, .int), (w.2.2 49, .int), (w.2.2 50, .int), (w.2.2 51, .int), (w.2.2 52, .int), (w.2.2 53, .boolean), (w.2.2 54, .boolean), (w.2.2 55, .int), (w.2.2 56, .int), (w.2.2 57, .long)]
def gStrs : List (String × Nat × String) := [("Pagewright", 274, "out of range"), ("Pagewright", 281, "not as things are"), ("Pagewright", 286, "no such space"), ("Pagewright", 289, "no such processor")]
def gDecls : List MethodName := [⟨"java/lang/Exception", "<init>", "()V"⟩, ⟨"java/lang/Exception", "<init>", "(Ljava/lang/String;)V"⟩, ⟨"java/lang/RuntimeException", "<init>", "()V"⟩, ⟨"java/lang/RuntimeException", "<init>", "(Ljava/lang/String;)V"⟩, ⟨"java/lang/Throwable", "<init>", "()V"⟩, ⟨"java/lang/Throwable", "<init>", "(Ljava/lang/String;)V"⟩]
def gCasts : List (String × String) := [("java/lang/IllegalArgumentException", "java/lang/IllegalArgumentException"), ("java/lang/IllegalStateException", "java/lang/IllegalStateException"), ("java/lang/IndexOutOfBoundsException", "java/lang/IndexOutOfBoundsException")]
def gNots : List (String × String) := [("Pagewright", "java/lang/IllegalArgumentException"), ("Pagewright$Records", "java/lang/IllegalArgumentException"), ("Pagewright$Record", "java/lang/IllegalArgumentException"), ("Pagewright$Space", "java/lang/IllegalArgumentException"), ("Pagewright$Entry", "java/lang/IllegalArgumentException"), ("Pagewright$Page", "java/lang/IllegalArgumentException"), ("Pagewright$Cache", "java/lang/IllegalArgumentException"), ("Pagewright$Translation", "java/lang/IllegalArgumentException"), ("PagewrightModel", "java/lang/IllegalArgumentException"), ("java/lang/IllegalStateException", "java/lang/IllegalArgumentException"), ("java/lang/IndexOutOfBoundsException", "java/lang/IllegalArgumentException"), ("Pagewright", "java/lang/IllegalStateException"), ("Pagewright$Records", "java/lang/IllegalStateException"), ("Pagewright$Record", "java/lang/IllegalStateException"), ("Pagewright$Space", "java/lang/IllegalStateException"), ("Pagewright$Entry", "java/lang/IllegalStateException"), ("Pagewright$Page", "java/lang/IllegalStateException"), ("Pagewright$Cache", "java/lang/IllegalStateException"), ("Pagewright$Translation", "java/lang/IllegalStateException"), ("PagewrightModel", "java/lang/IllegalStateException"), ("java/lang/IllegalArgumentException", "java/lang/IllegalStateException"), ("java/lang/IndexOutOfBoundsException", "java/lang/IllegalStateException"), ("Pagewright", "java/lang/IndexOutOfBoundsException"), ("Pagewright$Records", "java/lang/IndexOutOfBoundsException"), ("Pagewright$Record", "java/lang/IndexOutOfBoundsException"), ("Pagewright$Space", "java/lang/IndexOutOfBoundsException"), ("Pagewright$Entry", "java/lang/IndexOutOfBoundsException"), ("Pagewright$Page", "java/lang/IndexOutOfBoundsException"), ("Pagewright$Cache", "java/lang/IndexOutOfBoundsException"), ("Pagewright$Translation", "java/lang/IndexOutOfBoundsException"), ("PagewrightModel", "java/lang/IndexOutOfBoundsException"), ("java/lang/IllegalArgumentException", "java/lang/IndexOutOfBoundsException"), ("java/lang/IllegalStateException", "java/lang/IndexOutOfBoundsException")]
def gNests : List (String × Nat × MethodName × String) := [("Pagewright$Cache", 19, ⟨"Pagewright$Translation", "<init>", "()V"⟩, "Pagewright"), ("Pagewright$Page", 40, ⟨"Pagewright", "asNumber", "(Z)I"⟩, "Pagewright"), ("Pagewright$Records", 21, ⟨"Pagewright$Record", "<init>", "()V"⟩, "Pagewright")]

theorem gTable1 : ∀ k, k < 9 → ∀ j, j < 45 → ∀ d, (gFT k)[j]? = some d → (d.1 = 0 ∨ 3 ≤ d.1) → gOwn d.2 = k ∧ gPos d.2 = j := by
  have h : (List.range 9).all (fun k => (List.range 45).all (fun j => match (gFT k)[j]? with | none => true | some d => decide ((d.1 = 0 ∨ 3 ≤ d.1) → gOwn d.2 = k ∧ gPos d.2 = j))) = true := by decide +kernel
  intro k hk j hj d hd
  have h2 := List.all_eq_true.mp (List.all_eq_true.mp h k (List.mem_range.mpr hk)) j (List.mem_range.mpr hj)
  rw [hd] at h2
  exact of_decide_eq_true h2
theorem gTable2 : ∀ k, k < 58 → (gAT k).2.2.1 ≠ 0 → gOwn (gAT k).2.2.1 = k := by
  have h : (List.range 58).all (fun k => decide ((gAT k).2.2.1 ≠ 0 → gOwn (gAT k).2.2.1 = k)) = true := by decide +kernel
  intro k hk
  exact of_decide_eq_true (List.all_eq_true.mp h k (List.mem_range.mpr hk))
theorem gTable3 : ∀ k, k < 9 → (gFT k).length ≤ 45 := by
  have h : (List.range 9).all (fun k => decide ((gFT k).length ≤ 45)) = true := by decide +kernel
  intro k hk
  exact of_decide_eq_true (List.all_eq_true.mp h k (List.mem_range.mpr hk))
theorem gTable4 : ∀ k, k < 58 → ((gAT k).2.2.2 = 0 ∧ gN k ≤ 1) ∨ ((gAT k).2.2.2 = (gAT k).1 ∧ 9 ≤ k) ∨ k < 9 := by
  have h : (List.range 58).all (fun k => decide (((gAT k).2.2.2 = 0 ∧ gN k ≤ 1) ∨ ((gAT k).2.2.2 = (gAT k).1 ∧ 9 ≤ k) ∨ k < 9)) = true := by decide +kernel
  intro k hk
  exact of_decide_eq_true (List.all_eq_true.mp h k (List.mem_range.mpr hk))
theorem gTable5 : ∀ k, k < 58 → (gAT k).1 < 1000 := by
  have h : (List.range 58).all (fun k => decide ((gAT k).1 < 1000)) = true := by decide +kernel
  intro k hk
  exact of_decide_eq_true (List.all_eq_true.mp h k (List.mem_range.mpr hk))
def gCf (f : Nat) (z : Int) : Int := match f with
  | 0 => z
  | 1 => z / 4
  | _ => z + 1
def gFA (st : S2) (z : Int) (d : Nat × Nat) : Nat × Int := match d.1 with
  | 0 => (0, st d.2 z)
  | 1 => (0, gCf d.2 z)
  | 2 => (d.2 + 3, z)
  | k + 3 => (k + 3, st d.2 z)
def gIx (m : Nat) (z j : Int) : Int := match m with
  | 0 => j
  | m + 1 => ((m + 1 : Nat) : Int) * z + j
def gAE (st : S2) (k : Nat) (z j : Int) : Int := match (gAT k).2.2.1 with
  | 0 => gIx (gAT k).2.2.2 z j
  | f + 1 => st (f + 1) (gIx (gAT k).2.2.2 z j)
def gSto (k : Nat) (S : gS) : S2 := bif gSd k then S.2 else S.1
def gPut (k : Nat) (S : gS) (f : Nat) (i v : Int) : gS := bif gSd k then (S.1, upd2 S.2 f i v) else (upd2 S.1 f i v, S.2)
def gCon (w : gW) (st : S2) (k : Nat) (z : Int) : vp_A := ((gAT k).1, match (gAT k).2.1 with
  | 0 => .inl fun j => if j < (gAT k).1 then gi (gAE st k z j) else 0
  | 1 => .inl fun _ => 0
  | 2 => .inr (.inl fun j => if j < (gAT k).1 then Int64.ofInt (gAE st k z j) else 0)
  | t + 3 => .inr (.inr (.inr (.inr fun j => if j < (gAT k).1 ∧ ¬ gAE st k z j < 0 then some (w.2.1 t (gAE st k z j)) else none))))
def gCell (w : gW) (S : gS) (k : Nat) (z : Int) : va_E :=
  bif Nat.blt k 9 then .inr (k, (gFT k).map fun d => gvl w (gFA (gSto k S) z d)) else .inl (w.2.2 k, gCon w (gSto k S) k z)
def gIn (k : Nat) (z : Int) : Prop := k < 58 ∧ 0 ≤ z ∧ z < gN k
def gTyp (S : gS) : Prop := (∀ f i, gTy f (S.1 f i)) ∧ ∀ f i, gTy f (S.2 f i)
def gWd (w : gW) (S : gS) (H : Heap) : Prop := (∀ k z, gIn k z → va_at w.1 vwCl (w.2.1 k z, gCell w S k z) H) ∧ gTyp S
/-- what is so of a state and stays: the classes, the addresses, two statics that a throw looks at -/
def gEnv (w : gW) (bs : Nat) (s : State) (H : Heap) : Prop :=
  va_K w.1 vwCl (gTys w) s ∧ (∀ k z k' z', gIn k z → gIn k' z' → w.2.1 k z = w.2.1 k' z' → k = k' ∧ z = z') ∧ (∀ k z, gIn k z → bs ≤ w.2.1 k z) ∧ bs ≤ H.size ∧
  vx_Zq Bundle.tN "UNASSIGNED_STACK" Bundle.steD (fun q => bs ≤ q) s H ∧ vx_Zq Bundle.tN "SUPPRESSED_SENTINEL" Bundle.listD (fun q => bs ≤ q) s H
/-- the texts of the class's exceptions are there -/
def gStr (s : State) : Prop := (∀ q ∈ gStrs, ∃ a, vk_R q.1 q.2.1 q.2.2 a s) ∧ (∀ q ∈ gNests, va_Nw (.methodLinkNest q.1 q.2.1 q.2.2.1 q.2.2.2) s) ∧ (∀ q ∈ gDecls, va_Nw (.declares q) s) ∧ (∀ q ∈ gCasts, va_Nw (.castable q.1 q.2) s) ∧ ∀ q ∈ gNots, va_Nc q.1 q.2 s
theorem gStr.warm {s U : State} (hW : s.WarmedH U.vm) (h : gStr s) : gStr U := ⟨fun q hq => by
  obtain ⟨a, ha⟩ := h.1 q hq
  exact ⟨a, ha.warm hW⟩, fun q hq => (h.2.1 q hq).warmM hW, fun q hq => (h.2.2.1 q hq).warmD hW, fun q hq => (h.2.2.2.1 q hq).warmC hW, fun q hq => (h.2.2.2.2 q hq).moved hW.alike⟩
theorem gStr.same {u U : State} (hv : U.vm = u.vm) (h : gStr u) : gStr U := ⟨fun q hq => by
  obtain ⟨a, ha⟩ := h.1 q hq
  exact ⟨a, ha.same hv⟩, fun q hq => va_tabs rfl hv.symm (h.2.1 q hq), fun q hq => va_tabs rfl hv.symm (h.2.2.1 q hq), fun q hq => va_tabs rfl hv.symm (h.2.2.2.1 q hq), fun q hq => (h.2.2.2.2 q hq).moved (by rw [hv]; exact Vm.Alike.refl u.vm)⟩
theorem gEnv.moved {w : gW} {bs : Nat} {u U : State} {H H1 : Heap} (h : gEnv w bs u H) (hvm : u.vm.Alike U.vm) (hz : H.size ≤ H1.size) (hq : ∀ a : Nat, a < H.size → ¬ bs ≤ a → H1[a]? = H[a]?) : gEnv w bs U H1 :=
  ⟨va_K.moved hvm h.1, h.2.1, h.2.2.1, Nat.le_trans h.2.2.2.1 hz, (h.2.2.2.2.1.moved hvm).kept hq, (h.2.2.2.2.2.moved hvm).kept hq⟩
/-! what a store does to the cells -/
theorem gSto_put {k k' : Nat} {S : gS} {f : Nat} {i v : Int} (h : gSd k' = gSd k) : gSto k' (gPut k S f i v) = upd2 (gSto k' S) f i v := by
  unfold gSto gPut
  rw [h]
  cases gSd k <;> rfl
theorem gSto_put2 {k k' : Nat} {S : gS} {f : Nat} {i v : Int} (h : ¬ gSd k' = gSd k) : gSto k' (gPut k S f i v) = gSto k' S := by
  unfold gSto gPut
  revert h
  cases gSd k <;> cases gSd k' <;> simp
/-- another object's cell stays when field f of object z of kind k is written -/
theorem gCell_obj {w : gW} {S : gS} {k k' f : Nat} {z z' v : Int} (hk : k < 9) (hk' : k' < 58) (hf : gOwn f = k) (hne : ¬ (k' = k ∧ z' = z)) : gCell w (gPut k S f z v) k' z' = gCell w S k' z' := by
  by_cases hs : gSd k' = gSd k
  · unfold gCell
    rw [gSto_put hs]
    by_cases h9 : k' < 9
    · have hb : Nat.blt k' 9 = true := Nat.ble_eq_true_of_le h9
      rw [hb]
      show Sum.inr _ = Sum.inr _
      congr 2
      refine List.map_congr_left fun d hd => ?_
      congr 1
      obtain ⟨j, hj⟩ := List.getElem?_of_mem hd
      have hjl := (List.getElem?_eq_some_iff.mp hj).1
      have ht := gTable1 k' h9 j (Nat.lt_of_lt_of_le hjl (gTable3 k' h9)) d hj
      obtain ⟨t, g⟩ := d
      have key : (t = 0 ∨ 3 ≤ t) → upd2 (gSto k' S) f z v g z' = gSto k' S g z' := by
        intro h0
        obtain ⟨h1, -⟩ := ht h0
        by_cases hg : g = f
        · subst hg
          exact upd2_i fun h => hne ⟨by rw [← h1]; exact hf, h⟩
        · exact upd2_k hg
      match t, key with
      | 0, key => exact congrArg (fun x => (0, x)) (key (Or.inl rfl))
      | 1, _ => rfl
      | 2, _ => rfl
      | t + 3, key => exact congrArg (fun x => (t + 3, x)) (key (Or.inr (by omega)))
    · have hb : Nat.blt k' 9 = false := by
        cases h : Nat.blt k' 9
        · rfl
        · exact absurd (Nat.le_of_ble_eq_true h) h9
      rw [hb]
      show Sum.inl _ = Sum.inl _
      have e : ∀ j : Int, gAE (upd2 (gSto k' S) f z v) k' z' j = gAE (gSto k' S) k' z' j := by
        intro j
        unfold gAE
        have h2 := gTable2 k' hk'
        split
        · rfl
        · rename_i g hg
          refine upd2_k fun h => ?_
          rw [hg] at h2
          have h3 : gOwn (g + 1) = k' := h2 (Nat.succ_ne_zero g)
          rw [h, hf] at h3
          omega
      unfold gCon
      simp only [e]
  · unfold gCell
    rw [gSto_put2 hs]
/-- the written object's own cell -/
theorem gCell_self {w : gW} {S : gS} {k f j t : Nat} {z v : Int} (hk : k < 9) (hj : (gFT k)[j]? = some (t, f)) (ht : t = 0 ∨ 3 ≤ t) :
    gCell w (gPut k S f z v) k z = .inr (k, ((gFT k).map fun d => gvl w (gFA (gSto k S) z d)).set j (gvl w (t, v))) := by
  unfold gCell
  rw [gSto_put rfl]
  have hb : Nat.blt k 9 = true := Nat.ble_eq_true_of_le hk
  rw [hb]
  show Sum.inr _ = Sum.inr _
  congr 2
  have hjl := (List.getElem?_eq_some_iff.mp hj).1
  have h1 := gTable1 k hk j (Nat.lt_of_lt_of_le hjl (gTable3 k hk)) _ hj ht
  refine List.ext_getElem? fun i => ?_
  by_cases hi : i = j
  · subst hi
    rw [List.getElem?_set_self (by rw [List.length_map]; exact hjl), List.getElem?_map, hj]
    show some (gvl w (gFA (upd2 (gSto k S) f z v) z (t, f))) = _
    congr 2
    match t, ht with
    | 0, _ => show (0, upd2 (gSto k S) f z v f z) = (0, v); rw [upd2_s]
    | t + 3, _ => show (t + 3, upd2 (gSto k S) f z v f z) = (t + 3, v); rw [upd2_s]
    | 1, h => omega
    | 2, h => omega
  · rw [List.getElem?_set_ne (Ne.symm hi), List.getElem?_map, List.getElem?_map]
    cases hd : (gFT k)[i]? with
    | none => rfl
    | some d =>
      show some _ = some _
      congr 2
      have hil := (List.getElem?_eq_some_iff.mp hd).1
      have h2 := gTable1 k hk i (Nat.lt_of_lt_of_le hil (gTable3 k hk)) d hd
      obtain ⟨t', g⟩ := d
      have key : (t' = 0 ∨ 3 ≤ t') → upd2 (gSto k S) f z v g z = gSto k S g z := by
        intro h0
        refine upd2_k fun h => hi ?_
        have := (h2 h0).2
        rw [← this, ← h1.2]
        exact congrArg gPos h
      match t', key with
      | 0, key => exact congrArg (fun x => gvl w (0, x)) (key (Or.inl rfl))
      | 1, _ => rfl
      | 2, _ => rfl
      | t' + 3, key => exact congrArg (fun x => gvl w (t' + 3, x)) (key (Or.inr (by omega)))
theorem gIx_ne {k : Nat} {z z' i j : Int} (hk : k < 58) (h9 : 9 ≤ k) (hz : 0 ≤ z ∧ z < gN k) (hz' : 0 ≤ z' ∧ z' < gN k) (hi : 0 ≤ i ∧ i < (gAT k).1) (hj : 0 ≤ j ∧ j < (gAT k).1) (h : gIx (gAT k).2.2.2 z i = gIx (gAT k).2.2.2 z' j) : z = z' ∧ i = j := by
  rcases gTable4 k hk with ⟨h0, h1⟩ | ⟨h0, -⟩ | h0
  · rw [h0] at h
    exact ⟨by omega, h⟩
  · revert h
    rw [h0]
    unfold gIx
    split
    · rename_i e
      rw [e] at hi
      omega
    · rename_i m e
      rw [e] at hi hj
      intro h
      have hm : (0 : Int) < ((m + 1 : Nat) : Int) := by omega
      have e1 : (((m + 1 : Nat) : Int) * z + i) / ((m + 1 : Nat) : Int) = z := by
        rw [Int.add_comm, Int.add_mul_ediv_left _ _ (by omega), Int.ediv_eq_zero_of_lt hi.1 hi.2]; omega
      have e2 : (((m + 1 : Nat) : Int) * z' + j) / ((m + 1 : Nat) : Int) = z' := by
        rw [Int.add_comm, Int.add_mul_ediv_left _ _ (by omega), Int.ediv_eq_zero_of_lt hj.1 hj.2]; omega
      have e3 : z = z' := by rw [← e1, h, e2]
      subst e3
      exact ⟨rfl, by omega⟩
  · omega
/-- another cell stays when place i of array z of kind k is written -/
theorem gCell_arr {w : gW} {S : gS} {k k' f : Nat} {z z' i v : Int} (hk : k < 58) (h9 : 9 ≤ k) (hk' : k' < 58) (hf : (gAT k).2.2.1 = f) (hf0 : f ≠ 0) (hz : 0 ≤ z ∧ z < gN k) (hi : 0 ≤ i ∧ i < (gAT k).1) (hz' : 0 ≤ z' ∧ z' < gN k') (hne : ¬ (k' = k ∧ z' = z)) :
    gCell w (gPut k S f (gIx (gAT k).2.2.2 z i) v) k' z' = gCell w S k' z' := by
  have hown : gOwn f = k := by rw [← hf]; exact gTable2 k hk (by rw [hf]; exact hf0)
  by_cases hs : gSd k' = gSd k
  · unfold gCell
    rw [gSto_put hs]
    by_cases hk9 : k' < 9
    · have hb : Nat.blt k' 9 = true := Nat.ble_eq_true_of_le hk9
      rw [hb]
      show Sum.inr _ = Sum.inr _
      congr 2
      refine List.map_congr_left fun d hd => ?_
      congr 1
      obtain ⟨j, hj⟩ := List.getElem?_of_mem hd
      have hjl := (List.getElem?_eq_some_iff.mp hj).1
      have ht := gTable1 k' hk9 j (Nat.lt_of_lt_of_le hjl (gTable3 k' hk9)) d hj
      obtain ⟨t, g⟩ := d
      have key : (t = 0 ∨ 3 ≤ t) → upd2 (gSto k' S) f (gIx (gAT k).2.2.2 z i) v g z' = gSto k' S g z' := by
        intro h0
        obtain ⟨h1, -⟩ := ht h0
        refine upd2_k fun h => ?_
        have h1' : gOwn g = k' := h1
        rw [h, hown] at h1'
        omega
      match t, key with
      | 0, key => exact congrArg (fun x => (0, x)) (key (Or.inl rfl))
      | 1, _ => rfl
      | 2, _ => rfl
      | t + 3, key => exact congrArg (fun x => (t + 3, x)) (key (Or.inr (by omega)))
    · have hb : Nat.blt k' 9 = false := by
        cases h : Nat.blt k' 9
        · rfl
        · exact absurd (Nat.le_of_ble_eq_true h) hk9
      rw [hb]
      show Sum.inl _ = Sum.inl _
      have e : ∀ j : Nat, j < (gAT k').1 → gAE (upd2 (gSto k' S) f (gIx (gAT k).2.2.2 z i) v) k' z' j = gAE (gSto k' S) k' z' j := by
        intro j hj
        unfold gAE
        have h2 := gTable2 k' hk'
        split
        · rfl
        · rename_i g hg
          by_cases hgf : g + 1 = f
          · refine upd2_i fun h => hne ?_
            rw [hg] at h2
            have hkk : gOwn (g + 1) = k' := h2 (Nat.succ_ne_zero g)
            rw [hgf, hown] at hkk
            subst hkk
            have := gIx_ne hk h9 hz' hz ⟨by omega, by omega⟩ hi h
            exact ⟨rfl, this.1⟩
          · exact upd2_k hgf
      have e2 : gCon w (upd2 (gSto k' S) f (gIx (gAT k).2.2.2 z i) v) k' z' = gCon w (gSto k' S) k' z' := by
        unfold gCon
        congr 1
        split
        · congr 1; funext j; split
          · rw [e j (by assumption)]
          · rfl
        · rfl
        · congr 2; funext j; split
          · rw [e j (by assumption)]
          · rfl
        · congr 5; funext j
          by_cases hj : j < (gAT k').1
          · rw [e j hj]
          · rw [if_neg (fun h => hj h.1), if_neg (fun h => hj h.1)]
      rw [e2]
  · unfold gCell
    rw [gSto_put2 hs]

def gWs (y : MethodName) (cc : ByteArray) (nL : Nat) (ret : Option FieldType) : List Cond := .code y cc nL ret :: gB
abbrev gX : Type := Program × Launch × Env × Room × State × MethodId × Array Value × List Frame × Method × Code × (State → Prop) × gW × Nat
/-- what a body may use -/
def gOk : gX → String → ByteArray → Nat → Nat → Nat → Nat → Prop := fun (p, l, e, R, s, m, args, below, meth, c, Q, w, bs) own cc nL lev rc rs =>
  p.tables.exec = Jvm.exec ∧ c.code = cc ∧ c.maxLocals = nL ∧ s.vm.findClass own = some m.cls ∧ (∀ w ∈ gB, w.before args s = true) ∧ meth.locks = false ∧ gEnv w bs s s.heap ∧ lev ≤ R.frames ∧ 40 * lev ≤ R.locals ∧ R.cells = rc ∧ R.slots = rs ∧ l.stackTraces = false ∧ gStr s
/-- the machine at pc with these locals, this stack, this store comes to the body's end -/
def G : gX → Nat → Nat → Nat → List (Nat × Int) → List (Nat × Int) → gS → Prop := fun (p, l, e, R, s, m, args, below, meth, c, Q, w, bs) kc ks pc L st S =>
  ∀ (H : Heap) (locs : List Loc) (ls : Array Slot), gWd w S H → va_S (fun q => bs ≤ q) s.heap H locs → gHas w ls L → W p l e R s m args below meth c H locs kc ks Q (F0 m pc ls (st.map (gvl w)))
theorem G_typ {X : gX} {kc ks pc : Nat} {L st : List (Nat × Int)} {S : gS} (k : gTyp S → G X kc ks pc L st S) : G X kc ks pc L st S := by
  obtain ⟨p, l, e, R, s, m, args, below, meth, c, Q, w, bs⟩ := X
  intro H locs ls hW hS hL
  exact k hW.2 H locs ls hW hS hL
theorem gR_0 : gR 0 := ⟨by decide, by decide⟩
theorem gi_0 : gi 0 = 0 := by decide
def gNo2 (L : List (Nat × Int)) : Bool := L.all fun p => p.1 != 2
theorem gNo2_of {L : List (Nat × Int)} (h : gNo2 L = true) : ∀ p ∈ L, p.1 ≠ 2 := fun p hp => by simpa using List.all_eq_true.mp h p hp
section GR
variable {X : gX} {own : String} {cc : ByteArray} {nL lev rc rs kc ks : Nat} {L st : List (Nat × Int)} {S : gS}

theorem g_iload_n (h : gOk X own cc nL lev rc rs) (pc : Nat) {i : Fin 4} (hd : decode cc pc = .ok (.iload_n i, 1)) {z : Int} (hl : L[(i : Nat)]? = some (0, z)) (k : G X kc ks (pc + 1) L ((0, z) :: st) S) : G X kc ks pc L st S := by
  obtain ⟨p, l, e, R, s, m, args, below, meth, c, Q, w, bs⟩ := X
  obtain ⟨hx, hb, hml, hown, hts, hlk, hE, hfr, hlo, hrc, hrs, hst⟩ := h
  intro H locs ls hW hS hL
  exact lv_iload_n hx hb hd rfl (hL.2.2 _ _ hl (by show (0 : Nat) ≠ 1; decide)) (k H locs ls hW hS hL)
theorem g_iload (h : gOk X own cc nL lev rc rs) (pc : Nat) {i : Nat} (hd : decode cc pc = .ok (.iload i, 2)) {z : Int} (hl : L[i]? = some (0, z)) (k : G X kc ks (pc + 2) L ((0, z) :: st) S) : G X kc ks pc L st S := by
  obtain ⟨p, l, e, R, s, m, args, below, meth, c, Q, w, bs⟩ := X
  obtain ⟨hx, hb, hml, hown, hts, hlk, hE, hfr, hlo, hrc, hrs, hst⟩ := h
  intro H locs ls hW hS hL
  exact lv_iload hx hb hd (hL.2.2 _ _ hl (by show (0 : Nat) ≠ 1; decide)) (k H locs ls hW hS hL)
theorem g_aload_n (h : gOk X own cc nL lev rc rs) (pc : Nat) {i : Fin 4} (hd : decode cc pc = .ok (.aload_n i, 1)) {t : Nat} {z : Int} (hl : L[(i : Nat)]? = some (t + 3, z)) (k : G X kc ks (pc + 1) L ((t + 3, z) :: st) S) : G X kc ks pc L st S := by
  obtain ⟨p, l, e, R, s, m, args, below, meth, c, Q, w, bs⟩ := X
  obtain ⟨hx, hb, hml, hown, hts, hlk, hE, hfr, hlo, hrc, hrs, hst⟩ := h
  intro H locs ls hW hS hL
  have hv := hL.2.2 _ _ hl (by show t + 3 ≠ 1; omega)
  have kk := k H locs ls hW hS hL
  rw [List.map_cons] at kk
  by_cases hz : z < 0
  · rw [gvl_null hz] at hv kk
    exact lv_aload_nN hx hb hd rfl hv kk
  · rw [gvl_ref (Int.not_lt.mp hz)] at hv kk
    exact lv_aload_n hx hb hd rfl hv kk
theorem g_aload (h : gOk X own cc nL lev rc rs) (pc : Nat) {i : Nat} (hd : decode cc pc = .ok (.aload i, 2)) {t : Nat} {z : Int} (hl : L[i]? = some (t + 3, z)) (k : G X kc ks (pc + 2) L ((t + 3, z) :: st) S) : G X kc ks pc L st S := by
  obtain ⟨p, l, e, R, s, m, args, below, meth, c, Q, w, bs⟩ := X
  obtain ⟨hx, hb, hml, hown, hts, hlk, hE, hfr, hlo, hrc, hrs, hst⟩ := h
  intro H locs ls hW hS hL
  have hv := hL.2.2 _ _ hl (by show t + 3 ≠ 1; omega)
  have kk := k H locs ls hW hS hL
  rw [List.map_cons] at kk
  by_cases hz : z < 0
  · rw [gvl_null hz] at hv kk
    exact lv_aloadN hx hb hd hv kk
  · rw [gvl_ref (Int.not_lt.mp hz)] at hv kk
    exact lv_aload hx hb hd hv kk
theorem g_istore_n (h : gOk X own cc nL lev rc rs) (pc : Nat) {i : Fin 4} {L' : List (Nat × Int)} {z : Int} (hd : decode cc pc = .ok (.istore_n i, 1)) (hn : (i : Nat) < L.length) (h2 : gNo2 L = true) (hl : L.set (i : Nat) (0, z) = L') (k : G X kc ks (pc + 1) L' st S) : G X kc ks pc L ((0, z) :: st) S := by
  obtain ⟨p, l, e, R, s, m, args, below, meth, c, Q, w, bs⟩ := X
  obtain ⟨hx, hb, hml, hown, hts, hlk, hE, hfr, hlo, hrc, hrs, hst⟩ := h
  intro H locs ls hW hS hL
  obtain ⟨ls', e', h'⟩ := gHas_store (q := (0, z)) hL (by show 0 ≠ 2; omega) (gNo2_of h2) hn
  rw [hl] at h'
  have kk := k H locs ls' hW hS h'
  intro T hT X
  obtain ⟨t9, a, b⟩ := kk T hT X
  refine ⟨t9, ?_, b⟩
  jvm_step X.here [X.here.top, ↓top_set X.here.top, hx, hb, hd, List.map_cons, show gvl w (0, z) = .int (gi z) from rfl, show storeLocals ls _ (.int (gi z)) = some ls' from e']
  exact a
theorem g_istore (h : gOk X own cc nL lev rc rs) (pc : Nat) {i : Nat} {L' : List (Nat × Int)} {z : Int} (hd : decode cc pc = .ok (.istore i, 2)) (hn : i < L.length) (h2 : gNo2 L = true) (hl : L.set i (0, z) = L') (k : G X kc ks (pc + 2) L' st S) : G X kc ks pc L ((0, z) :: st) S := by
  obtain ⟨p, l, e, R, s, m, args, below, meth, c, Q, w, bs⟩ := X
  obtain ⟨hx, hb, hml, hown, hts, hlk, hE, hfr, hlo, hrc, hrs, hst⟩ := h
  intro H locs ls hW hS hL
  obtain ⟨ls', e', h'⟩ := gHas_store (q := (0, z)) hL (by show 0 ≠ 2; omega) (gNo2_of h2) hn
  rw [hl] at h'
  have kk := k H locs ls' hW hS h'
  intro T hT X
  obtain ⟨t9, a, b⟩ := kk T hT X
  refine ⟨t9, ?_, b⟩
  jvm_step X.here [X.here.top, ↓top_set X.here.top, hx, hb, hd, List.map_cons, show gvl w (0, z) = .int (gi z) from rfl, show storeLocals ls _ (.int (gi z)) = some ls' from e']
  exact a
theorem g_astore_n (h : gOk X own cc nL lev rc rs) (pc : Nat) {i : Fin 4} {L' : List (Nat × Int)} {z : Int} {t : Nat} (hd : decode cc pc = .ok (.astore_n i, 1)) (hn : (i : Nat) < L.length) (h2 : gNo2 L = true) (hl : L.set (i : Nat) (t + 3, z) = L') (k : G X kc ks (pc + 1) L' st S) : G X kc ks pc L ((t + 3, z) :: st) S := by
  obtain ⟨p, l, e, R, s, m, args, below, meth, c, Q, w, bs⟩ := X
  obtain ⟨hx, hb, hml, hown, hts, hlk, hE, hfr, hlo, hrc, hrs, hst⟩ := h
  intro H locs ls hW hS hL
  obtain ⟨ls', e', h'⟩ := gHas_store (q := (t + 3, z)) hL (by show t + 3 ≠ 2; omega) (gNo2_of h2) hn
  rw [hl] at h'
  have kk := k H locs ls' hW hS h'
  intro T hT X
  obtain ⟨t9, a, b⟩ := kk T hT X
  refine ⟨t9, ?_, b⟩
  rw [List.map_cons]
  by_cases hz : z < 0
  · rw [gvl_null hz] at e' ⊢
    jvm_step X.here [X.here.top, ↓top_set X.here.top, hx, hb, hd, e', Value.isRef]
    exact a
  · rw [gvl_ref (Int.not_lt.mp hz)] at e' ⊢
    jvm_step X.here [X.here.top, ↓top_set X.here.top, hx, hb, hd, e', Value.isRef]
    exact a
theorem g_astore (h : gOk X own cc nL lev rc rs) (pc : Nat) {i : Nat} {L' : List (Nat × Int)} {z : Int} {t : Nat} (hd : decode cc pc = .ok (.astore i, 2)) (hn : i < L.length) (h2 : gNo2 L = true) (hl : L.set i (t + 3, z) = L') (k : G X kc ks (pc + 2) L' st S) : G X kc ks pc L ((t + 3, z) :: st) S := by
  obtain ⟨p, l, e, R, s, m, args, below, meth, c, Q, w, bs⟩ := X
  obtain ⟨hx, hb, hml, hown, hts, hlk, hE, hfr, hlo, hrc, hrs, hst⟩ := h
  intro H locs ls hW hS hL
  obtain ⟨ls', e', h'⟩ := gHas_store (q := (t + 3, z)) hL (by show t + 3 ≠ 2; omega) (gNo2_of h2) hn
  rw [hl] at h'
  have kk := k H locs ls' hW hS h'
  intro T hT X
  obtain ⟨t9, a, b⟩ := kk T hT X
  refine ⟨t9, ?_, b⟩
  rw [List.map_cons]
  by_cases hz : z < 0
  · rw [gvl_null hz] at e' ⊢
    jvm_step X.here [X.here.top, ↓top_set X.here.top, hx, hb, hd, e', Value.isRef]
    exact a
  · rw [gvl_ref (Int.not_lt.mp hz)] at e' ⊢
    jvm_step X.here [X.here.top, ↓top_set X.here.top, hx, hb, hd, e', Value.isRef]
    exact a
theorem g_iinc (h : gOk X own cc nL lev rc rs) (pc : Nat) {i : Nat} {n z : Int} {L' : List (Nat × Int)} (hd : decode cc pc = .ok (.iinc i n, 3)) (hg : L[i]? = some (0, z)) (h2 : gNo2 L = true) (hl : L.set i (0, z + n) = L') (k : G X kc ks (pc + 3) L' st S) : G X kc ks pc L st S := by
  obtain ⟨p, l, e, R, s, m, args, below, meth, c, Q, w, bs⟩ := X
  obtain ⟨hx, hb, hml, hown, hts, hlk, hE, hfr, hlo, hrc, hrs, hst⟩ := h
  intro H locs ls hW hS hL
  obtain ⟨ls', e', h'⟩ := gHas_store (q := (0, z + n)) hL (by show (0 : Nat) ≠ 2; decide) (gNo2_of h2) ((List.getElem?_eq_some_iff.mp hg).1)
  rw [hl] at h'
  have hv := hL.2.2 _ _ hg (by show (0 : Nat) ≠ 1; decide)
  have kk := k H locs ls' hW hS h'
  have e2 : storeLocals ls i (.int (gi z + Int32.ofInt n)) = some ls' := by
    have : gi z + Int32.ofInt n = gi (z + n) := gi_add z n
    rw [this]
    exact e'
  have hv2 : ls[i]? = some (.val (.int (gi z))) := hv
  intro T hT X
  obtain ⟨t9, a, b⟩ := kk T hT X
  refine ⟨t9, ?_, b⟩
  jvm_step X.here [X.here.top, ↓top_set X.here.top, hx, hb, hd, hv2, e2]
  exact a
theorem g_iconst (h : gOk X own cc nL lev rc rs) (pc : Nat) {n : Int} (hd : decode cc pc = .ok (.iconst n, 1)) (k : G X kc ks (pc + 1) L ((0, n) :: st) S) : G X kc ks pc L st S := by
  obtain ⟨p, l, e, R, s, m, args, below, meth, c, Q, w, bs⟩ := X
  obtain ⟨hx, hb, hml, hown, hts, hlk, hE, hfr, hlo, hrc, hrs, hst⟩ := h
  intro H locs ls hW hS hL
  exact lv_iconst hx hb hd rfl (k H locs ls hW hS hL)
theorem g_bipush (h : gOk X own cc nL lev rc rs) (pc : Nat) {n : Int} (hd : decode cc pc = .ok (.bipush n, 2)) (hn : (Int8.ofInt n).toInt32 = gi n) (k : G X kc ks (pc + 2) L ((0, n) :: st) S) : G X kc ks pc L st S := by
  obtain ⟨p, l, e, R, s, m, args, below, meth, c, Q, w, bs⟩ := X
  obtain ⟨hx, hb, hml, hown, hts, hlk, hE, hfr, hlo, hrc, hrs, hst⟩ := h
  intro H locs ls hW hS hL
  exact lv_bipush hx hb hd hn (k H locs ls hW hS hL)
theorem g_sipush (h : gOk X own cc nL lev rc rs) (pc : Nat) {n : Int} (hd : decode cc pc = .ok (.sipush n, 3)) (hn : (Int16.ofInt n).toInt32 = gi n) (k : G X kc ks (pc + 3) L ((0, n) :: st) S) : G X kc ks pc L st S := by
  obtain ⟨p, l, e, R, s, m, args, below, meth, c, Q, w, bs⟩ := X
  obtain ⟨hx, hb, hml, hown, hts, hlk, hE, hfr, hlo, hrc, hrs, hst⟩ := h
  intro H locs ls hW hS hL
  exact lv_sipush hx hb hd hn (k H locs ls hW hS hL)
theorem g_ldc (h : gOk X own cc nL lev rc rs) (pc : Nat) {idx : Nat} {v : Int32} {n : Int} (hd : decode cc pc = .ok (.ldc idx, 2)) (hw : Cond.constant own idx v ∈ gB) (hv : v = gi n) (k : G X kc ks (pc + 2) L ((0, n) :: st) S) : G X kc ks pc L st S := by
  obtain ⟨p, l, e, R, s, m, args, below, meth, c, Q, w, bs⟩ := X
  obtain ⟨hx, hb, hml, hown, hts, hlk, hE, hfr, hlo, hrc, hrs, hst⟩ := h
  intro H locs ls hW hS hL
  subst hv
  exact lv_ldc hx hb hown (hts _ hw) hd (k H locs ls hW hS hL)
theorem g_ldcw (h : gOk X own cc nL lev rc rs) (pc : Nat) {idx : Nat} {v : Int32} {n : Int} (hd : decode cc pc = .ok (.ldc_w idx, 3)) (hw : Cond.constant own idx v ∈ gB) (hv : v = gi n) (k : G X kc ks (pc + 3) L ((0, n) :: st) S) : G X kc ks pc L st S := by
  obtain ⟨p, l, e, R, s, m, args, below, meth, c, Q, w, bs⟩ := X
  obtain ⟨hx, hb, hml, hown, hts, hlk, hE, hfr, hlo, hrc, hrs, hst⟩ := h
  intro H locs ls hW hS hL
  subst hv
  exact lv_ldcw hx hb hown (hts _ hw) hd (k H locs ls hW hS hL)
theorem g_null (h : gOk X own cc nL lev rc rs) (pc : Nat) (t : Nat) (hd : decode cc pc = .ok (.aconst_null, 1)) (k : G X kc ks (pc + 1) L ((t + 3, -1) :: st) S) : G X kc ks pc L st S := by
  obtain ⟨p, l, e, R, s, m, args, below, meth, c, Q, w, bs⟩ := X
  obtain ⟨hx, hb, hml, hown, hts, hlk, hE, hfr, hlo, hrc, hrs, hst⟩ := h
  intro H locs ls hW hS hL
  refine lv_null hx hb hd ?_
  have kk := k H locs ls hW hS hL
  rw [List.map_cons, gvl_null (by decide)] at kk
  exact kk
theorem g_iadd (h : gOk X own cc nL lev rc rs) (pc : Nat) {a b : Int} (hd : decode cc pc = .ok (.iadd, 1)) (k : G X kc ks (pc + 1) L ((0, a + b) :: st) S) : G X kc ks pc L ((0, b) :: (0, a) :: st) S := by
  obtain ⟨p, l, e, R, s, m, args, below, meth, c, Q, w, bs⟩ := X
  obtain ⟨hx, hb, hml, hown, hts, hlk, hE, hfr, hlo, hrc, hrs, hst⟩ := h
  intro H locs ls hW hS hL
  refine lv_iadd hx hb hd ?_
  rw [gi_add]
  exact k H locs ls hW hS hL
theorem g_isub (h : gOk X own cc nL lev rc rs) (pc : Nat) {a b : Int} (hd : decode cc pc = .ok (.isub, 1)) (k : G X kc ks (pc + 1) L ((0, a - b) :: st) S) : G X kc ks pc L ((0, b) :: (0, a) :: st) S := by
  obtain ⟨p, l, e, R, s, m, args, below, meth, c, Q, w, bs⟩ := X
  obtain ⟨hx, hb, hml, hown, hts, hlk, hE, hfr, hlo, hrc, hrs, hst⟩ := h
  intro H locs ls hW hS hL
  refine lv_isub hx hb hd ?_
  rw [gi_sub]
  exact k H locs ls hW hS hL
theorem g_imul (h : gOk X own cc nL lev rc rs) (pc : Nat) {a b : Int} (hd : decode cc pc = .ok (.imul, 1)) (k : G X kc ks (pc + 1) L ((0, a * b) :: st) S) : G X kc ks pc L ((0, b) :: (0, a) :: st) S := by
  obtain ⟨p, l, e, R, s, m, args, below, meth, c, Q, w, bs⟩ := X
  obtain ⟨hx, hb, hml, hown, hts, hlk, hE, hfr, hlo, hrc, hrs, hst⟩ := h
  intro H locs ls hW hS hL
  refine lv_imul hx hb hd ?_
  rw [gi_mul]
  exact k H locs ls hW hS hL
theorem g_iand (h : gOk X own cc nL lev rc rs) (pc : Nat) {a b : Int} (hd : decode cc pc = .ok (.iand, 1)) (k : G X kc ks (pc + 1) L ((0, gAnd a b) :: st) S) : G X kc ks pc L ((0, b) :: (0, a) :: st) S := by
  obtain ⟨p, l, e, R, s, m, args, below, meth, c, Q, w, bs⟩ := X
  obtain ⟨hx, hb, hml, hown, hts, hlk, hE, hfr, hlo, hrc, hrs, hst⟩ := h
  intro H locs ls hW hS hL
  refine lv_iand hx hb hd ?_
  have kk := k H locs ls hW hS hL
  rw [List.map_cons] at kk
  rw [show gvl w (0, gAnd a b) = .int (gi (gAnd a b)) from rfl, gAnd, gi_of] at kk
  exact kk
theorem g_ior (h : gOk X own cc nL lev rc rs) (pc : Nat) {a b : Int} (hd : decode cc pc = .ok (.ior, 1)) (k : G X kc ks (pc + 1) L ((0, gOr a b) :: st) S) : G X kc ks pc L ((0, b) :: (0, a) :: st) S := by
  obtain ⟨p, l, e, R, s, m, args, below, meth, c, Q, w, bs⟩ := X
  obtain ⟨hx, hb, hml, hown, hts, hlk, hE, hfr, hlo, hrc, hrs, hst⟩ := h
  intro H locs ls hW hS hL
  refine lv_ior hx hb hd ?_
  have kk := k H locs ls hW hS hL
  rw [List.map_cons] at kk
  rw [show gvl w (0, gOr a b) = .int (gi (gOr a b)) from rfl, gOr, gi_of] at kk
  exact kk
theorem g_ixor (h : gOk X own cc nL lev rc rs) (pc : Nat) {a b : Int} (hd : decode cc pc = .ok (.ixor, 1)) (k : G X kc ks (pc + 1) L ((0, gXor a b) :: st) S) : G X kc ks pc L ((0, b) :: (0, a) :: st) S := by
  obtain ⟨p, l, e, R, s, m, args, below, meth, c, Q, w, bs⟩ := X
  obtain ⟨hx, hb, hml, hown, hts, hlk, hE, hfr, hlo, hrc, hrs, hst⟩ := h
  intro H locs ls hW hS hL
  refine lv_ixor hx hb hd ?_
  have kk := k H locs ls hW hS hL
  rw [List.map_cons] at kk
  rw [show gvl w (0, gXor a b) = .int (gi (gXor a b)) from rfl, gXor, gi_of] at kk
  exact kk
theorem g_ishl (h : gOk X own cc nL lev rc rs) (pc : Nat) {a b : Int} (hd : decode cc pc = .ok (.ishl, 1)) (k : G X kc ks (pc + 1) L ((0, gShl a b) :: st) S) : G X kc ks pc L ((0, b) :: (0, a) :: st) S := by
  obtain ⟨p, l, e, R, s, m, args, below, meth, c, Q, w, bs⟩ := X
  obtain ⟨hx, hb, hml, hown, hts, hlk, hE, hfr, hlo, hrc, hrs, hst⟩ := h
  intro H locs ls hW hS hL
  refine lv_ishl hx hb hd ?_
  have kk := k H locs ls hW hS hL
  rw [List.map_cons] at kk
  rw [show gvl w (0, gShl a b) = .int (gi (gShl a b)) from rfl, gShl, gi_of] at kk
  exact kk
theorem g_idiv (h : gOk X own cc nL lev rc rs) (pc : Nat) {a b : Int} (hd : decode cc pc = .ok (.idiv, 1)) (h1 : 0 ≤ a ∧ a ≤ 2147483647) (h2 : 0 < b ∧ b ≤ 2147483647) (k : G X kc ks (pc + 1) L ((0, a / b) :: st) S) : G X kc ks pc L ((0, b) :: (0, a) :: st) S := by
  obtain ⟨p, l, e, R, s, m, args, below, meth, c, Q, w, bs⟩ := X
  obtain ⟨hx, hb, hml, hown, hts, hlk, hE, hfr, hlo, hrc, hrs, hst⟩ := h
  intro H locs ls hW hS hL
  refine lv_idiv hx hb hd (by
    intro e
    have := congrArg Int32.toInt e
    rw [gi_toInt ⟨by omega, by omega⟩, show (0 : Int32).toInt = 0 from rfl] at this
    omega) ?_
  rw [gi_div h1.1 h1.2 h2.1 h2.2]
  exact k H locs ls hW hS hL
theorem g_irem (h : gOk X own cc nL lev rc rs) (pc : Nat) {a b : Int} (hd : decode cc pc = .ok (.irem, 1)) (h1 : 0 ≤ a ∧ a ≤ 2147483647) (h2 : 0 < b ∧ b ≤ 2147483647) (k : G X kc ks (pc + 1) L ((0, a % b) :: st) S) : G X kc ks pc L ((0, b) :: (0, a) :: st) S := by
  obtain ⟨p, l, e, R, s, m, args, below, meth, c, Q, w, bs⟩ := X
  obtain ⟨hx, hb, hml, hown, hts, hlk, hE, hfr, hlo, hrc, hrs, hst⟩ := h
  intro H locs ls hW hS hL
  refine lv_irem hx hb hd (by
    intro e
    have := congrArg Int32.toInt e
    rw [gi_toInt ⟨by omega, by omega⟩, show (0 : Int32).toInt = 0 from rfl] at this
    omega) ?_
  rw [gi_rem h1.1 h1.2 h2.1 h2.2]
  exact k H locs ls hW hS hL
theorem g_dup (h : gOk X own cc nL lev rc rs) (pc : Nat) {q : Nat × Int} (hd : decode cc pc = .ok (.dup, 1)) (hq : q.1 ≠ 2) (k : G X kc ks (pc + 1) L (q :: q :: st) S) : G X kc ks pc L (q :: st) S := by
  obtain ⟨p, l, e, R, s, m, args, below, meth, c, Q, w, bs⟩ := X
  obtain ⟨hx, hb, hml, hown, hts, hlk, hE, hfr, hlo, hrc, hrs, hst⟩ := h
  intro H locs ls hW hS hL
  exact lv_dup hx hb hd (gvl_c1 w hq) (k H locs ls hW hS hL)
theorem g_pop (h : gOk X own cc nL lev rc rs) (pc : Nat) {q : Nat × Int} (hd : decode cc pc = .ok (.pop, 1)) (hq : q.1 ≠ 2) (k : G X kc ks (pc + 1) L st S) : G X kc ks pc L (q :: st) S := by
  obtain ⟨p, l, e, R, s, m, args, below, meth, c, Q, w, bs⟩ := X
  obtain ⟨hx, hb, hml, hown, hts, hlk, hE, hfr, hlo, hrc, hrs, hst⟩ := h
  intro H locs ls hW hS hL
  exact lv_pop hx hb hd (gvl_c1 w hq) (k H locs ls hW hS hL)
theorem g_dup2 (h : gOk X own cc nL lev rc rs) (pc : Nat) {q r : Nat × Int} (hd : decode cc pc = .ok (.dup2, 1)) (hq : q.1 ≠ 2) (hr : r.1 ≠ 2) (k : G X kc ks (pc + 1) L (q :: r :: q :: r :: st) S) : G X kc ks pc L (q :: r :: st) S := by
  obtain ⟨p, l, e, R, s, m, args, below, meth, c, Q, w, bs⟩ := X
  obtain ⟨hx, hb, hml, hown, hts, hlk, hE, hfr, hlo, hrc, hrs, hst⟩ := h
  intro H locs ls hW hS hL
  have c1 := gvl_c1 w hq
  have c2 := gvl_c1 w hr
  have kk := k H locs ls hW hS hL
  intro T hT X
  obtain ⟨t9, a, b⟩ := kk T hT X
  refine ⟨t9, ?_, b⟩
  rw [List.map_cons, List.map_cons]
  jvm_step X.here [X.here.top, hx, hb, hd, c1, c2]
  exact a
theorem g_goto (h : gOk X own cc nL lev rc rs) (pc : Nat) {off : Int} (tgt : Nat) (hd : decode cc pc = .ok (.goto off, 3)) (ht : (pc : Int) + off = (tgt : Int)) (k : G X kc ks tgt L st S) : G X kc ks pc L st S := by
  obtain ⟨p, l, e, R, s, m, args, below, meth, c, Q, w, bs⟩ := X
  obtain ⟨hx, hb, hml, hown, hts, hlk, hE, hfr, hlo, hrc, hrs, hst⟩ := h
  intro H locs ls hW hS hL
  exact lv_goto hx hb hd ht (k H locs ls hW hS hL)
theorem by_contra_g {P : Prop} (h : ¬ ¬ P) : P := Classical.not_not.mp h
theorem g_icmp_eq (h : gOk X own cc nL lev rc rs) (pc : Nat) {off : Int} (tgt : Nat) {a b : Int} (ha : gR a) (hb2 : gR b) (hd : decode cc pc = .ok (.if_icmp .eq off, 3)) (ht : (pc : Int) + off = (tgt : Int)) (kt : a = b → G X kc ks tgt L st S) (kf : a ≠ b → G X kc ks (pc + 3) L st S) : G X kc ks pc L ((0, b) :: (0, a) :: st) S := by
  obtain ⟨p, l, e, R, s, m, args, below, meth, c, Q, w, bs⟩ := X
  obtain ⟨hx, hb, hml, hown, hts, hlk, hE, hfr, hlo, hrc, hrs, hst⟩ := h
  intro H locs ls hW hS hL
  refine lv_icmp_eq (x := gi a) (y := gi b) hx hb hd ht (fun q => kt ?_ H locs ls hW hS hL) (fun q => kf ?_ H locs ls hW hS hL)
  · try rw [← gi_0] at q
    simp only [gi_eq ha hb2, gi_lt ha hb2, gi_le ha hb2, gi_lt hb2 ha, gi_le hb2 ha, ge_iff_le, gt_iff_lt, ne_eq, Decidable.not_not, Int.not_lt, Int.not_le] at q
    try omega
    try exact q
  · try rw [← gi_0] at q
    simp only [gi_eq ha hb2, gi_lt ha hb2, gi_le ha hb2, gi_lt hb2 ha, gi_le hb2 ha, ge_iff_le, gt_iff_lt, ne_eq, Decidable.not_not, Int.not_lt, Int.not_le] at q
    try omega
    try exact q
theorem g_icmp_ne (h : gOk X own cc nL lev rc rs) (pc : Nat) {off : Int} (tgt : Nat) {a b : Int} (ha : gR a) (hb2 : gR b) (hd : decode cc pc = .ok (.if_icmp .ne off, 3)) (ht : (pc : Int) + off = (tgt : Int)) (kt : a ≠ b → G X kc ks tgt L st S) (kf : a = b → G X kc ks (pc + 3) L st S) : G X kc ks pc L ((0, b) :: (0, a) :: st) S := by
  obtain ⟨p, l, e, R, s, m, args, below, meth, c, Q, w, bs⟩ := X
  obtain ⟨hx, hb, hml, hown, hts, hlk, hE, hfr, hlo, hrc, hrs, hst⟩ := h
  intro H locs ls hW hS hL
  refine lv_icmp_ne (x := gi a) (y := gi b) hx hb hd ht (fun q => kt ?_ H locs ls hW hS hL) (fun q => kf ?_ H locs ls hW hS hL)
  · try rw [← gi_0] at q
    simp only [gi_eq ha hb2, gi_lt ha hb2, gi_le ha hb2, gi_lt hb2 ha, gi_le hb2 ha, ge_iff_le, gt_iff_lt, ne_eq, Decidable.not_not, Int.not_lt, Int.not_le] at q
    try omega
    try exact q
  · try rw [← gi_0] at q
    simp only [gi_eq ha hb2, gi_lt ha hb2, gi_le ha hb2, gi_lt hb2 ha, gi_le hb2 ha, ge_iff_le, gt_iff_lt, ne_eq, Decidable.not_not, Int.not_lt, Int.not_le] at q
    try omega
    try exact q
theorem g_icmp_lt (h : gOk X own cc nL lev rc rs) (pc : Nat) {off : Int} (tgt : Nat) {a b : Int} (ha : gR a) (hb2 : gR b) (hd : decode cc pc = .ok (.if_icmp .lt off, 3)) (ht : (pc : Int) + off = (tgt : Int)) (kt : a < b → G X kc ks tgt L st S) (kf : b ≤ a → G X kc ks (pc + 3) L st S) : G X kc ks pc L ((0, b) :: (0, a) :: st) S := by
  obtain ⟨p, l, e, R, s, m, args, below, meth, c, Q, w, bs⟩ := X
  obtain ⟨hx, hb, hml, hown, hts, hlk, hE, hfr, hlo, hrc, hrs, hst⟩ := h
  intro H locs ls hW hS hL
  refine lv_icmp_lt (x := gi a) (y := gi b) hx hb hd ht (fun q => kt ?_ H locs ls hW hS hL) (fun q => kf ?_ H locs ls hW hS hL)
  · try rw [← gi_0] at q
    simp only [gi_eq ha hb2, gi_lt ha hb2, gi_le ha hb2, gi_lt hb2 ha, gi_le hb2 ha, ge_iff_le, gt_iff_lt, ne_eq, Decidable.not_not, Int.not_lt, Int.not_le] at q
    try omega
    try exact q
  · try rw [← gi_0] at q
    simp only [gi_eq ha hb2, gi_lt ha hb2, gi_le ha hb2, gi_lt hb2 ha, gi_le hb2 ha, ge_iff_le, gt_iff_lt, ne_eq, Decidable.not_not, Int.not_lt, Int.not_le] at q
    try omega
    try exact q
theorem g_icmp_ge (h : gOk X own cc nL lev rc rs) (pc : Nat) {off : Int} (tgt : Nat) {a b : Int} (ha : gR a) (hb2 : gR b) (hd : decode cc pc = .ok (.if_icmp .ge off, 3)) (ht : (pc : Int) + off = (tgt : Int)) (kt : b ≤ a → G X kc ks tgt L st S) (kf : a < b → G X kc ks (pc + 3) L st S) : G X kc ks pc L ((0, b) :: (0, a) :: st) S := by
  obtain ⟨p, l, e, R, s, m, args, below, meth, c, Q, w, bs⟩ := X
  obtain ⟨hx, hb, hml, hown, hts, hlk, hE, hfr, hlo, hrc, hrs, hst⟩ := h
  intro H locs ls hW hS hL
  refine lv_icmp_ge (x := gi a) (y := gi b) hx hb hd ht (fun q => kt ?_ H locs ls hW hS hL) (fun q => kf ?_ H locs ls hW hS hL)
  · try rw [← gi_0] at q
    simp only [gi_eq ha hb2, gi_lt ha hb2, gi_le ha hb2, gi_lt hb2 ha, gi_le hb2 ha, ge_iff_le, gt_iff_lt, ne_eq, Decidable.not_not, Int.not_lt, Int.not_le] at q
    try omega
    try exact q
  · try rw [← gi_0] at q
    simp only [gi_eq ha hb2, gi_lt ha hb2, gi_le ha hb2, gi_lt hb2 ha, gi_le hb2 ha, ge_iff_le, gt_iff_lt, ne_eq, Decidable.not_not, Int.not_lt, Int.not_le] at q
    try omega
    try exact q
theorem g_icmp_gt (h : gOk X own cc nL lev rc rs) (pc : Nat) {off : Int} (tgt : Nat) {a b : Int} (ha : gR a) (hb2 : gR b) (hd : decode cc pc = .ok (.if_icmp .gt off, 3)) (ht : (pc : Int) + off = (tgt : Int)) (kt : b < a → G X kc ks tgt L st S) (kf : a ≤ b → G X kc ks (pc + 3) L st S) : G X kc ks pc L ((0, b) :: (0, a) :: st) S := by
  obtain ⟨p, l, e, R, s, m, args, below, meth, c, Q, w, bs⟩ := X
  obtain ⟨hx, hb, hml, hown, hts, hlk, hE, hfr, hlo, hrc, hrs, hst⟩ := h
  intro H locs ls hW hS hL
  refine lv_icmp_gt (x := gi a) (y := gi b) hx hb hd ht (fun q => kt ?_ H locs ls hW hS hL) (fun q => kf ?_ H locs ls hW hS hL)
  · try rw [← gi_0] at q
    simp only [gi_eq ha hb2, gi_lt ha hb2, gi_le ha hb2, gi_lt hb2 ha, gi_le hb2 ha, ge_iff_le, gt_iff_lt, ne_eq, Decidable.not_not, Int.not_lt, Int.not_le] at q
    try omega
    try exact q
  · try rw [← gi_0] at q
    simp only [gi_eq ha hb2, gi_lt ha hb2, gi_le ha hb2, gi_lt hb2 ha, gi_le hb2 ha, ge_iff_le, gt_iff_lt, ne_eq, Decidable.not_not, Int.not_lt, Int.not_le] at q
    try omega
    try exact q
theorem g_icmp_le (h : gOk X own cc nL lev rc rs) (pc : Nat) {off : Int} (tgt : Nat) {a b : Int} (ha : gR a) (hb2 : gR b) (hd : decode cc pc = .ok (.if_icmp .le off, 3)) (ht : (pc : Int) + off = (tgt : Int)) (kt : a ≤ b → G X kc ks tgt L st S) (kf : b < a → G X kc ks (pc + 3) L st S) : G X kc ks pc L ((0, b) :: (0, a) :: st) S := by
  obtain ⟨p, l, e, R, s, m, args, below, meth, c, Q, w, bs⟩ := X
  obtain ⟨hx, hb, hml, hown, hts, hlk, hE, hfr, hlo, hrc, hrs, hst⟩ := h
  intro H locs ls hW hS hL
  refine lv_icmp_le (x := gi a) (y := gi b) hx hb hd ht (fun q => kt ?_ H locs ls hW hS hL) (fun q => kf ?_ H locs ls hW hS hL)
  · try rw [← gi_0] at q
    simp only [gi_eq ha hb2, gi_lt ha hb2, gi_le ha hb2, gi_lt hb2 ha, gi_le hb2 ha, ge_iff_le, gt_iff_lt, ne_eq, Decidable.not_not, Int.not_lt, Int.not_le] at q
    try omega
    try exact q
  · try rw [← gi_0] at q
    simp only [gi_eq ha hb2, gi_lt ha hb2, gi_le ha hb2, gi_lt hb2 ha, gi_le hb2 ha, ge_iff_le, gt_iff_lt, ne_eq, Decidable.not_not, Int.not_lt, Int.not_le] at q
    try omega
    try exact q
theorem g_if_eq (h : gOk X own cc nL lev rc rs) (pc : Nat) {off : Int} (tgt : Nat) {z : Int} (hz : gR z) (hd : decode cc pc = .ok (.ifCond .eq off, 3)) (ht : (pc : Int) + off = (tgt : Int)) (kt : z = 0 → G X kc ks tgt L st S) (kf : z ≠ 0 → G X kc ks (pc + 3) L st S) : G X kc ks pc L ((0, z) :: st) S := by
  obtain ⟨p, l, e, R, s, m, args, below, meth, c, Q, w, bs⟩ := X
  obtain ⟨hx, hb, hml, hown, hts, hlk, hE, hfr, hlo, hrc, hrs, hst⟩ := h
  intro H locs ls hW hS hL
  have ha := hz
  have hb2 := gR_0
  refine lv_if_eq (x := gi z)  hx hb hd ht (fun q => kt ?_ H locs ls hW hS hL) (fun q => kf ?_ H locs ls hW hS hL)
  · try rw [← gi_0] at q
    simp only [gi_eq ha hb2, gi_lt ha hb2, gi_le ha hb2, gi_lt hb2 ha, gi_le hb2 ha, ge_iff_le, gt_iff_lt, ne_eq, Decidable.not_not, Int.not_lt, Int.not_le] at q
    try omega
    try exact q
  · try rw [← gi_0] at q
    simp only [gi_eq ha hb2, gi_lt ha hb2, gi_le ha hb2, gi_lt hb2 ha, gi_le hb2 ha, ge_iff_le, gt_iff_lt, ne_eq, Decidable.not_not, Int.not_lt, Int.not_le] at q
    try omega
    try exact q
theorem g_if_ne (h : gOk X own cc nL lev rc rs) (pc : Nat) {off : Int} (tgt : Nat) {z : Int} (hz : gR z) (hd : decode cc pc = .ok (.ifCond .ne off, 3)) (ht : (pc : Int) + off = (tgt : Int)) (kt : z ≠ 0 → G X kc ks tgt L st S) (kf : z = 0 → G X kc ks (pc + 3) L st S) : G X kc ks pc L ((0, z) :: st) S := by
  obtain ⟨p, l, e, R, s, m, args, below, meth, c, Q, w, bs⟩ := X
  obtain ⟨hx, hb, hml, hown, hts, hlk, hE, hfr, hlo, hrc, hrs, hst⟩ := h
  intro H locs ls hW hS hL
  have ha := hz
  have hb2 := gR_0
  refine lv_if_ne (x := gi z)  hx hb hd ht (fun q => kt ?_ H locs ls hW hS hL) (fun q => kf ?_ H locs ls hW hS hL)
  · try rw [← gi_0] at q
    simp only [gi_eq ha hb2, gi_lt ha hb2, gi_le ha hb2, gi_lt hb2 ha, gi_le hb2 ha, ge_iff_le, gt_iff_lt, ne_eq, Decidable.not_not, Int.not_lt, Int.not_le] at q
    try omega
    try exact q
  · try rw [← gi_0] at q
    simp only [gi_eq ha hb2, gi_lt ha hb2, gi_le ha hb2, gi_lt hb2 ha, gi_le hb2 ha, ge_iff_le, gt_iff_lt, ne_eq, Decidable.not_not, Int.not_lt, Int.not_le] at q
    try omega
    try exact q
theorem g_if_lt (h : gOk X own cc nL lev rc rs) (pc : Nat) {off : Int} (tgt : Nat) {z : Int} (hz : gR z) (hd : decode cc pc = .ok (.ifCond .lt off, 3)) (ht : (pc : Int) + off = (tgt : Int)) (kt : z < 0 → G X kc ks tgt L st S) (kf : 0 ≤ z → G X kc ks (pc + 3) L st S) : G X kc ks pc L ((0, z) :: st) S := by
  obtain ⟨p, l, e, R, s, m, args, below, meth, c, Q, w, bs⟩ := X
  obtain ⟨hx, hb, hml, hown, hts, hlk, hE, hfr, hlo, hrc, hrs, hst⟩ := h
  intro H locs ls hW hS hL
  have ha := hz
  have hb2 := gR_0
  refine lv_if_lt (x := gi z)  hx hb hd ht (fun q => kt ?_ H locs ls hW hS hL) (fun q => kf ?_ H locs ls hW hS hL)
  · try rw [← gi_0] at q
    simp only [gi_eq ha hb2, gi_lt ha hb2, gi_le ha hb2, gi_lt hb2 ha, gi_le hb2 ha, ge_iff_le, gt_iff_lt, ne_eq, Decidable.not_not, Int.not_lt, Int.not_le] at q
    try omega
    try exact q
  · try rw [← gi_0] at q
    simp only [gi_eq ha hb2, gi_lt ha hb2, gi_le ha hb2, gi_lt hb2 ha, gi_le hb2 ha, ge_iff_le, gt_iff_lt, ne_eq, Decidable.not_not, Int.not_lt, Int.not_le] at q
    try omega
    try exact q
theorem g_if_ge (h : gOk X own cc nL lev rc rs) (pc : Nat) {off : Int} (tgt : Nat) {z : Int} (hz : gR z) (hd : decode cc pc = .ok (.ifCond .ge off, 3)) (ht : (pc : Int) + off = (tgt : Int)) (kt : 0 ≤ z → G X kc ks tgt L st S) (kf : z < 0 → G X kc ks (pc + 3) L st S) : G X kc ks pc L ((0, z) :: st) S := by
  obtain ⟨p, l, e, R, s, m, args, below, meth, c, Q, w, bs⟩ := X
  obtain ⟨hx, hb, hml, hown, hts, hlk, hE, hfr, hlo, hrc, hrs, hst⟩ := h
  intro H locs ls hW hS hL
  have ha := hz
  have hb2 := gR_0
  refine lv_if_ge (x := gi z)  hx hb hd ht (fun q => kt ?_ H locs ls hW hS hL) (fun q => kf ?_ H locs ls hW hS hL)
  · try rw [← gi_0] at q
    simp only [gi_eq ha hb2, gi_lt ha hb2, gi_le ha hb2, gi_lt hb2 ha, gi_le hb2 ha, ge_iff_le, gt_iff_lt, ne_eq, Decidable.not_not, Int.not_lt, Int.not_le] at q
    try omega
    try exact q
  · try rw [← gi_0] at q
    simp only [gi_eq ha hb2, gi_lt ha hb2, gi_le ha hb2, gi_lt hb2 ha, gi_le hb2 ha, ge_iff_le, gt_iff_lt, ne_eq, Decidable.not_not, Int.not_lt, Int.not_le] at q
    try omega
    try exact q
theorem g_if_gt (h : gOk X own cc nL lev rc rs) (pc : Nat) {off : Int} (tgt : Nat) {z : Int} (hz : gR z) (hd : decode cc pc = .ok (.ifCond .gt off, 3)) (ht : (pc : Int) + off = (tgt : Int)) (kt : 0 < z → G X kc ks tgt L st S) (kf : z ≤ 0 → G X kc ks (pc + 3) L st S) : G X kc ks pc L ((0, z) :: st) S := by
  obtain ⟨p, l, e, R, s, m, args, below, meth, c, Q, w, bs⟩ := X
  obtain ⟨hx, hb, hml, hown, hts, hlk, hE, hfr, hlo, hrc, hrs, hst⟩ := h
  intro H locs ls hW hS hL
  have ha := hz
  have hb2 := gR_0
  refine lv_if_gt (x := gi z)  hx hb hd ht (fun q => kt ?_ H locs ls hW hS hL) (fun q => kf ?_ H locs ls hW hS hL)
  · try rw [← gi_0] at q
    simp only [gi_eq ha hb2, gi_lt ha hb2, gi_le ha hb2, gi_lt hb2 ha, gi_le hb2 ha, ge_iff_le, gt_iff_lt, ne_eq, Decidable.not_not, Int.not_lt, Int.not_le] at q
    try omega
    try exact q
  · try rw [← gi_0] at q
    simp only [gi_eq ha hb2, gi_lt ha hb2, gi_le ha hb2, gi_lt hb2 ha, gi_le hb2 ha, ge_iff_le, gt_iff_lt, ne_eq, Decidable.not_not, Int.not_lt, Int.not_le] at q
    try omega
    try exact q
theorem g_if_le (h : gOk X own cc nL lev rc rs) (pc : Nat) {off : Int} (tgt : Nat) {z : Int} (hz : gR z) (hd : decode cc pc = .ok (.ifCond .le off, 3)) (ht : (pc : Int) + off = (tgt : Int)) (kt : z ≤ 0 → G X kc ks tgt L st S) (kf : 0 < z → G X kc ks (pc + 3) L st S) : G X kc ks pc L ((0, z) :: st) S := by
  obtain ⟨p, l, e, R, s, m, args, below, meth, c, Q, w, bs⟩ := X
  obtain ⟨hx, hb, hml, hown, hts, hlk, hE, hfr, hlo, hrc, hrs, hst⟩ := h
  intro H locs ls hW hS hL
  have ha := hz
  have hb2 := gR_0
  refine lv_if_le (x := gi z)  hx hb hd ht (fun q => kt ?_ H locs ls hW hS hL) (fun q => kf ?_ H locs ls hW hS hL)
  · try rw [← gi_0] at q
    simp only [gi_eq ha hb2, gi_lt ha hb2, gi_le ha hb2, gi_lt hb2 ha, gi_le hb2 ha, ge_iff_le, gt_iff_lt, ne_eq, Decidable.not_not, Int.not_lt, Int.not_le] at q
    try omega
    try exact q
  · try rw [← gi_0] at q
    simp only [gi_eq ha hb2, gi_lt ha hb2, gi_le ha hb2, gi_lt hb2 ha, gi_le hb2 ha, ge_iff_le, gt_iff_lt, ne_eq, Decidable.not_not, Int.not_lt, Int.not_le] at q
    try omega
    try exact q
theorem g_ifnull (h : gOk X own cc nL lev rc rs) (pc : Nat) {off : Int} (tgt : Nat) {t : Nat} {z : Int} (hd : decode cc pc = .ok (.ifnull off, 3)) (ht : (pc : Int) + off = (tgt : Int)) (kt : z < 0 → G X kc ks tgt L st S) (kf : 0 ≤ z → G X kc ks (pc + 3) L st S) : G X kc ks pc L ((t + 3, z) :: st) S := by
  obtain ⟨p, l, e, R, s, m, args, below, meth, c, Q, w, bs⟩ := X
  obtain ⟨hx, hb, hml, hown, hts, hlk, hE, hfr, hlo, hrc, hrs, hst⟩ := h
  intro H locs ls hW hS hL
  rw [List.map_cons]
  by_cases hz : z < 0
  · rw [gvl_null hz]
    exact lv_ifnullN hx hb hd ht (kt hz H locs ls hW hS hL)
  · rw [gvl_ref (Int.not_lt.mp hz)]
    exact lv_ifnull hx hb hd (kf (Int.not_lt.mp hz) H locs ls hW hS hL)
theorem g_ifnonnull (h : gOk X own cc nL lev rc rs) (pc : Nat) {off : Int} (tgt : Nat) {t : Nat} {z : Int} (hd : decode cc pc = .ok (.ifnonnull off, 3)) (ht : (pc : Int) + off = (tgt : Int)) (kt : 0 ≤ z → G X kc ks tgt L st S) (kf : z < 0 → G X kc ks (pc + 3) L st S) : G X kc ks pc L ((t + 3, z) :: st) S := by
  obtain ⟨p, l, e, R, s, m, args, below, meth, c, Q, w, bs⟩ := X
  obtain ⟨hx, hb, hml, hown, hts, hlk, hE, hfr, hlo, hrc, hrs, hst⟩ := h
  intro H locs ls hW hS hL
  rw [List.map_cons]
  by_cases hz : z < 0
  · rw [gvl_null hz]
    exact lv_ifnonnullN hx hb hd (kf hz H locs ls hW hS hL)
  · rw [gvl_ref (Int.not_lt.mp hz)]
    exact lv_ifnonnull hx hb hd ht (kt (Int.not_lt.mp hz) H locs ls hW hS hL)
theorem g_acmp_eq (h : gOk X own cc nL lev rc rs) (pc : Nat) {off : Int} (tgt : Nat) {t : Nat} {a b : Int} (ha : -1 ≤ a ∧ a < gN t) (hb2 : -1 ≤ b ∧ b < gN t) (ht9 : t < 58) (hd : decode cc pc = .ok (.if_acmp .eq off, 3)) (ht : (pc : Int) + off = (tgt : Int)) (kt : a = b → G X kc ks tgt L st S) (kf : a ≠ b → G X kc ks (pc + 3) L st S) : G X kc ks pc L ((t + 3, b) :: (t + 3, a) :: st) S := by
  obtain ⟨p, l, e, R, s, m, args, below, meth, c, Q, w, bs⟩ := X
  obtain ⟨hx, hb, hml, hown, hts, hlk, hE, hfr, hlo, hrc, hrs, hst⟩ := h
  intro H locs ls hW hS hL
  rw [List.map_cons, List.map_cons, gvl_rf, gvl_rf]
  have key : (if a < 0 then none else some (w.2.1 t a)) = (if b < 0 then none else some (w.2.1 t b)) ↔ a = b := by
    constructor
    · intro e
      by_cases h1 : a < 0
      · by_cases h2 : b < 0
        · omega
        · rw [if_pos h1, if_neg h2] at e; cases e
      · by_cases h2 : b < 0
        · rw [if_neg h1, if_pos h2] at e; cases e
        · rw [if_neg h1, if_neg h2] at e
          exact (hE.2.1 t a t b ⟨ht9, by omega, ha.2⟩ ⟨ht9, by omega, hb2.2⟩ (Option.some.inj e)).2
    · intro e
      rw [e]
  exact lv_acmp_eq hx hb hd ht (fun q => kt (key.mp q) H locs ls hW hS hL) (fun q => kf (fun z => q (key.mpr z)) H locs ls hW hS hL)
theorem g_acmp_ne (h : gOk X own cc nL lev rc rs) (pc : Nat) {off : Int} (tgt : Nat) {t : Nat} {a b : Int} (ha : -1 ≤ a ∧ a < gN t) (hb2 : -1 ≤ b ∧ b < gN t) (ht9 : t < 58) (hd : decode cc pc = .ok (.if_acmp .ne off, 3)) (ht : (pc : Int) + off = (tgt : Int)) (kt : a ≠ b → G X kc ks tgt L st S) (kf : a = b → G X kc ks (pc + 3) L st S) : G X kc ks pc L ((t + 3, b) :: (t + 3, a) :: st) S := by
  obtain ⟨p, l, e, R, s, m, args, below, meth, c, Q, w, bs⟩ := X
  obtain ⟨hx, hb, hml, hown, hts, hlk, hE, hfr, hlo, hrc, hrs, hst⟩ := h
  intro H locs ls hW hS hL
  rw [List.map_cons, List.map_cons, gvl_rf, gvl_rf]
  have key : (if a < 0 then none else some (w.2.1 t a)) = (if b < 0 then none else some (w.2.1 t b)) ↔ a = b := by
    constructor
    · intro e
      by_cases h1 : a < 0
      · by_cases h2 : b < 0
        · omega
        · rw [if_pos h1, if_neg h2] at e; cases e
      · by_cases h2 : b < 0
        · rw [if_neg h1, if_pos h2] at e; cases e
        · rw [if_neg h1, if_neg h2] at e
          exact (hE.2.1 t a t b ⟨ht9, by omega, ha.2⟩ ⟨ht9, by omega, hb2.2⟩ (Option.some.inj e)).2
    · intro e
      rw [e]
  exact lv_acmp_ne hx hb hd ht (fun q => kt (fun z => q (key.mpr z)) H locs ls hW hS hL) (fun q => kf (key.mp q) H locs ls hW hS hL)
end GR
