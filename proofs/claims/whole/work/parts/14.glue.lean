/-! what the printed walks stand on -/
theorem gRi {z : Int} (h : -2147483648 ≤ z ∧ z ≤ 2147483647) : gR z := h
theorem gR_ite {P : Prop} [Decidable P] : gR (if P then 1 else 0) := by split <;> exact ⟨by decide, by decide⟩
theorem iz_t {P : Prop} [Decidable P] (h : (if P then (1 : Int) else 0) ≠ 0) : P := by
  by_cases hp : P
  · exact hp
  · rw [if_neg hp] at h; exact absurd rfl h
theorem iz_f {P : Prop} [Decidable P] (h : (if P then (1 : Int) else 0) = 0) : ¬ P := fun hp => by rw [if_pos hp] at h; cases h
def gWk : List (Nat × Int) → List (Nat × Int) → Prop
  | [], [] => True
  | a :: l, b :: m => (b.1 = 1 ∨ b = a) ∧ gWk l m
  | _, _ => False
theorem gWk_len : ∀ {l m : List (Nat × Int)}, gWk l m → l.length = m.length
  | [], [], _ => rfl
  | a :: l, b :: m, h => by rw [List.length_cons, List.length_cons, gWk_len h.2]
  | [], _ :: _, h => h.elim
  | _ :: _, [], h => h.elim
theorem gWk_at : ∀ {l m : List (Nat × Int)}, gWk l m → ∀ (i : Nat) (q : Nat × Int), m[i]? = some q → q.1 ≠ 1 → l[i]? = some q
  | [], [], _, i, q, h, _ => by simp at h
  | a :: l, b :: m, hw, i, q, h, hq => by
    cases i with
    | zero =>
      rw [List.getElem?_cons_zero] at h ⊢
      cases h
      rcases hw.1 with h1 | h1
      · exact absurd h1 hq
      · rw [h1]
    | succ i =>
      rw [List.getElem?_cons_succ] at h ⊢
      exact gWk_at hw.2 i q h hq
  | [], _ :: _, h, _, _, _, _ => h.elim
  | _ :: _, [], h, _, _, _, _ => h.elim
theorem G_weak {X : gX} {kc ks pc : Nat} {L L' st : List (Nat × Int)} {S : gS} (hw : gWk L L') (k : G X kc ks pc L' st S) : G X kc ks pc L st S := by
  obtain ⟨p, l, e, R, s, m, args, below, meth, c, Q, w, bs⟩ := X
  intro H locs ls hW hS hL
  exact k H locs ls hW hS ⟨by rw [hL.1, gWk_len hw], hL.2.1, fun i q h hq => hL.2.2 i q (gWk_at hw i q h hq) hq⟩
/-- an answer in a range -/
def rgd (lo hi : Int) (x : Option (Int × S2)) : Option (Int × S2) := x.bind fun q => if lo ≤ q.1 ∧ q.1 ≤ hi then some q else none
theorem rgd_some {lo hi : Int} {x : Option (Int × S2)} {r : Int} {s : S2} (h : rgd lo hi x = some (r, s)) : x = some (r, s) ∧ lo ≤ r ∧ r ≤ hi := by
  unfold rgd at h
  cases hx : x with
  | none => rw [hx] at h; cases h
  | some q =>
    rw [hx] at h
    have h' : (if lo ≤ q.1 ∧ q.1 ≤ hi then some q else none) = some (r, s) := h
    split at h'
    · rename_i hq
      cases h'
      exact ⟨rfl, hq⟩
    · cases h'
theorem rgd_eq {lo hi : Int} {x : Option (Int × S2)} {r : Int} {s : S2} (h : x = some (r, s)) (h1 : lo ≤ r) (h2 : r ≤ hi) : rgd lo hi x = some (r, s) := by
  rw [h]; exact if_pos ⟨h1, h2⟩
/-- what an answer below all ints tells: the number of the exception -/
def gxc (r : Int) : Nat := if r = -1000000000001 then 1 else if r = -1000000000002 then 2 else if r = -1000000000003 then 3 else 0
theorem gxc_0 {r : Int} (h : gR r) : gxc r = 0 := by
  obtain ⟨h1, h2⟩ := h
  unfold gxc
  rw [if_neg (by omega), if_neg (by omega), if_neg (by omega)]
def rgx (x : Option (Int × S2)) : Option (Int × S2) := x.bind fun q => if gxc q.1 ≠ 0 ∨ -2147483648 ≤ q.1 ∧ q.1 ≤ 2147483647 then some q else none
theorem rgx_some {x : Option (Int × S2)} {r : Int} {s : S2} (h : rgx x = some (r, s)) : x = some (r, s) ∧ (gxc r ≠ 0 ∨ -2147483648 ≤ r ∧ r ≤ 2147483647) := by
  unfold rgx at h
  cases hx : x with
  | none => rw [hx] at h; cases h
  | some q =>
    rw [hx] at h
    have h' : (if gxc q.1 ≠ 0 ∨ -2147483648 ≤ q.1 ∧ q.1 ≤ 2147483647 then some q else none) = some (r, s) := h
    split at h'
    · rename_i hq
      cases h'
      exact ⟨rfl, hq⟩
    · cases h'
theorem gOr_03 {a b : Int} (ha : 0 ≤ a ∧ a ≤ 3) (hb : 0 ≤ b ∧ b ≤ 3) : 0 ≤ gOr a b ∧ gOr a b ≤ 3 := by
  rcases (show a = 0 ∨ a = 1 ∨ a = 2 ∨ a = 3 by omega) with rfl | rfl | rfl | rfl <;> rcases (show b = 0 ∨ b = 1 ∨ b = 2 ∨ b = 3 by omega) with rfl | rfl | rfl | rfl <;> decide
theorem gOr_01 {a b : Int} (ha : 0 ≤ a ∧ a ≤ 1) (hb : 0 ≤ b ∧ b ≤ 1) : 0 ≤ gOr a b ∧ gOr a b ≤ 1 := by
  rcases (show a = 0 ∨ a = 1 by omega) with rfl | rfl <;> rcases (show b = 0 ∨ b = 1 by omega) with rfl | rfl <;> decide
theorem gAnd_01 {a b : Int} (ha : 0 ≤ a ∧ a ≤ 1) (hb : 0 ≤ b ∧ b ≤ 1) : 0 ≤ gAnd a b ∧ gAnd a b ≤ 1 := by
  rcases (show a = 0 ∨ a = 1 by omega) with rfl | rfl <;> rcases (show b = 0 ∨ b = 1 by omega) with rfl | rfl <;> decide
theorem gAnd_03 {a b : Int} (ha : 0 ≤ a ∧ a ≤ 3) : 0 ≤ gAnd a b ∧ gAnd a b ≤ 3 := by
  have h1 : (gi a).toBitVec.toNat ≤ 3 := by
    rcases (show a = 0 ∨ a = 1 ∨ a = 2 ∨ a = 3 by omega) with rfl | rfl | rfl | rfl <;> decide
  have h2 : ((gi a).toBitVec &&& (gi b).toBitVec).toNat ≤ 3 := by
    rw [BitVec.toNat_and]
    exact Nat.le_trans Nat.and_le_left h1
  have h3 : gAnd a b = ((gi a).toBitVec &&& (gi b).toBitVec).toInt := rfl
  rw [h3, BitVec.toInt_eq_toNat_of_lt (by omega)]
  omega
section GG
variable {X : gX} {own : String} {cc : ByteArray} {nL lev rc rs kc ks : Nat} {L st : List (Nat × Int)} {S : gS}
theorem g_aload_nq (h : gOk X own cc nL lev rc rs) (pc : Nat) {i : Fin 4} {tg : Nat} {z : Int} (hd : decode cc pc = .ok (.aload_n i, 1)) (h3 : Nat.ble 3 tg = true) (hl : L[(i : Nat)]? = some (tg, z)) (k : G X kc ks (pc + 1) L ((tg, z) :: st) S) : G X kc ks pc L st S := by
  obtain ⟨t, rfl⟩ : ∃ t, tg = t + 3 := ⟨tg - 3, by have := Nat.le_of_ble_eq_true h3; omega⟩
  exact g_aload_n h pc hd hl k
theorem g_aloadq (h : gOk X own cc nL lev rc rs) (pc : Nat) {i : Nat} {tg : Nat} {z : Int} (hd : decode cc pc = .ok (.aload i, 2)) (h3 : Nat.ble 3 tg = true) (hl : L[i]? = some (tg, z)) (k : G X kc ks (pc + 2) L ((tg, z) :: st) S) : G X kc ks pc L st S := by
  obtain ⟨t, rfl⟩ : ∃ t, tg = t + 3 := ⟨tg - 3, by have := Nat.le_of_ble_eq_true h3; omega⟩
  exact g_aload h pc hd hl k
theorem g_nullq (h : gOk X own cc nL lev rc rs) (pc : Nat) (tg : Nat) (h3 : Nat.ble 3 tg = true) (hd : decode cc pc = .ok (.aconst_null, 1)) (k : G X kc ks (pc + 1) L ((tg, -1) :: st) S) : G X kc ks pc L st S := by
  obtain ⟨t, rfl⟩ : ∃ t, tg = t + 3 := ⟨tg - 3, by have := Nat.le_of_ble_eq_true h3; omega⟩
  exact g_null h pc t hd k
theorem g_tsIn (h : gOk X own cc nL lev rc rs) (pc : Nat) {dflt lo hi : Int} {offs : Array Int} {len : Nat} (hd : decode cc pc = .ok (.tableswitch dflt lo hi offs, len)) {z : Int} (c : Int) (tgt : Nat) (hz : z = c) (h1 : lo ≤ c ∧ c ≤ hi) (hr : -2147483648 ≤ c ∧ c ≤ 2147483647) (off : Int) (ho : offs[(c - lo).toNat]? = some off) (ht : (pc : Int) + off = (tgt : Int)) (k : G X kc ks tgt L st S) : G X kc ks pc L ((0, z) :: st) S := by
  obtain ⟨p, l, e, R, s, m, args, below, meth, c', Q, w, bs⟩ := X
  obtain ⟨hx, hb, hml, hown, hts, hlk, hE, hfr, hlo, hrc, hrs, hst⟩ := h
  subst hz
  intro H locs ls hW hS hL
  exact lv_tableIn (x := gi z) hx hb hd (by rw [gi_toInt hr]; omega) (by rw [gi_toInt hr]; omega) (by rw [gi_toInt hr]; exact ho) ht (k H locs ls hW hS hL)
theorem g_tsOut (h : gOk X own cc nL lev rc rs) (pc : Nat) {dflt lo hi : Int} {offs : Array Int} {len : Nat} (hd : decode cc pc = .ok (.tableswitch dflt lo hi offs, len)) {z : Int} (tgt : Nat) (hr : gR z) (hz : z < lo ∨ hi < z) (ht : (pc : Int) + dflt = (tgt : Int)) (k : G X kc ks tgt L st S) : G X kc ks pc L ((0, z) :: st) S := by
  obtain ⟨p, l, e, R, s, m, args, below, meth, c', Q, w, bs⟩ := X
  obtain ⟨hx, hb, hml, hown, hts, hlk, hE, hfr, hlo, hrc, hrs, hst⟩ := h
  intro H locs ls hW hS hL
  exact lv_tableOut (x := gi z) hx hb hd (by rw [gi_toInt hr]; exact hz) ht (k H locs ls hW hS hL)
theorem g_maxW (h : gOk X own cc nL lev rc rs) (pc : Nat) {idx : Nat} {a b : Int} (hd : decode cc pc = .ok (.invokestatic idx, 3)) (hl : Cond.methodLink own idx Lib.Math.max.name ∈ gB) (w1 : Cond.static Lib.Math.max.name ∈ gB) (w2 : Cond.initialized "java/lang/Math" ∈ gB) (w3 : Cond.code Lib.Math.max.name Lib.Math.max.code 2 (some .int) ∈ gB) (hlev : 1 ≤ lev) (hst4 : st.length ≤ 4) (ha : gR a) (hb2 : gR b) (hc : kc ≤ rc ∧ ks ≤ rs) (hnL : L.length = nL)
    (K : G X kc ks (pc + 3) L ((0, (if a < b then b else a : Int)) :: st) S) : G X kc ks pc L ((0, b) :: (0, a) :: st) S := by
  obtain ⟨p, l, e, R, s, m, args, below, meth, c', Q, w, bs⟩ := X
  obtain ⟨hx, hb, hml, hown, hts, hlk, hE, hfr, hlo, hrc, hrs, hst⟩ := h
  intro H locs ls hW hS hL
  refine va_mmax hx hb (hml.trans (gSz hL hnL).symm) hown (hts _ hl) (hts _ w1) (hts _ w2) (hts _ w3) (by omega) (by have := gvl_sum w st; omega) (by omega) (by omega) hd ?_
  have kk := K H locs ls hW hS hL
  rw [List.map_cons] at kk
  have e : (if gi a < gi b then gi b else gi a) = gi (if a < b then b else a) := by
    by_cases hab : a < b
    · rw [if_pos hab, if_pos ((gi_lt ha hb2).mpr hab)]
    · rw [if_neg hab, if_neg (fun q => hab ((gi_lt ha hb2).mp q))]
  rw [e]
  exact kk
end GG
theorem gWd_kept {w : gW} {S : gS} {H H1 : Heap} (h : gWd w S H) (hq : ∀ q : Nat, q < H.size → H1[q]? = H[q]?) : gWd w S H1 := ⟨fun k z hz => (h.1 k z hz).kept (hq _ (h.1 k z hz).lt), h.2⟩
/-- the words of 'throw new X(text)' that are not good: kept beside -/
def gNG : List Cond := gDecls.map Cond.declares ++ gCasts.map fun q => Cond.castable q.1 q.2
theorem gNG_at {s : State} {args : Array Value} (h : gStr s) : ∀ w ∈ gNG, w.before args s = true := by
  intro w hw
  rcases List.mem_append.mp hw with hw | hw
  · obtain ⟨q, hq, rfl⟩ := List.mem_map.mp hw
    exact va_tabs rfl rfl (h.2.2.1 q hq)
  · obtain ⟨q, hq, rfl⟩ := List.mem_map.mp hw
    exact va_tabs rfl rfl (h.2.2.2.1 q hq)
def gTw (own : String) (ic : Nat) (cls : String) : Prop := ∀ w ∈ vx_atS own ic cls ["java/lang/RuntimeException", "java/lang/Exception"], (w ∈ gB ∨ w ∈ gNG) ∧ vx_ot w = true
theorem gTw_of {own : String} {ic : Nat} {cls : String} (h : (vx_atS own ic cls ["java/lang/RuntimeException", "java/lang/Exception"]).all (fun w => (decide (w ∈ gB) || decide (w ∈ gNG)) && vx_ot w) = true) : gTw own ic cls := by
  intro w hw
  have h1 := List.all_eq_true.mp h w hw
  simp only [Bool.and_eq_true, Bool.or_eq_true, decide_eq_true_eq] at h1
  exact h1
theorem g_throw {X : gX} {own : String} {cc : ByteArray} {nL lev rc rs kc ks : Nat} {L st : List (Nat × Int)} {S : gS} {l : Launch} {w : gW} {bs mc : Nat} {ret : Option FieldType} {x : Nat} {rv : Option (Nat × Int)} (h : gOk X own cc nL lev rc rs) (hE : gEnd X l w bs mc ret x rv S) (pc : Nat) {cls text : String} {ik is ic : Nat}
    (d0 : decode cc pc = .ok (.new ik, 3)) (d3 : decode cc (pc + 3) = .ok (.dup, 1)) (d4 : decode cc (pc + 4) = .ok (.ldc_w is, 3)) (d7 : decode cc (pc + 7) = .ok (.invokespecial ic, 3)) (d10 : decode cc (pc + 10) = .ok (.athrow, 1))
    (hk : Cond.classLink own ik cls ∈ gB) (hini : Cond.initialized cls ∈ gB) (hstr : (own, is, text) ∈ gStrs) (htw : gTw own ic cls) (hfit : Bundle.fit cls = true) (hx : x ≠ 0 ∧ cls = gXn x) (hlev : 6 ≤ lev) (hst4 : st.length ≤ 4) (hc : kc + 1 ≤ mc ∧ ks + 6 ≤ 6 * mc) (hc2 : kc + 1 ≤ rc ∧ ks + 6 ≤ rs) (hnL : L.length = nL) : G X kc ks pc L st S := by
  obtain ⟨p, l', e, R, s, m, args, below, meth, c, Q, w', bs'⟩ := X
  obtain ⟨hxx, hb, hml, hown, hts, hlk, hEn, hfr, hlo, hrc, hrs, hst⟩ := h
  obtain ⟨rfl, rfl, rfl, hret, htab, rfl⟩ := hE
  intro H locs ls hW hS hL
  obtain ⟨sa, hsa⟩ := hst.2.1 _ hstr
  refine vx_throwSW (names := ["java/lang/RuntimeException", "java/lang/Exception"]) hxx hb hst.1 hown hfit (by decide) (hts _ hk) (hts _ hini) hsa (fun v hv => ((htw v hv).1).elim (hts v) (gNG_at hst.2 v)) (by
    intro v hv
    rcases List.mem_cons.mp hv with rfl | hv
    · rfl
    · rcases List.mem_cons.mp hv with rfl | hv
      · rfl
      · exact (htw v hv).2) hEn.2.2.2.2.1 hEn.2.2.2.2.2 hS ((gSz hL hnL).trans hml.symm) d0 d3 d4 d7 d10 (fun z hz => (htab z hz).elim) (by show 2 + 3 < R.frames; omega) (by
      have := gvl_sum w' st
      show _ + (13 * (2 + 1) + 43) ≤ _
      omega) (by omega) (by omega) hlk (fun t hA hz hq => ⟨hx.1, hx.2, gWd_kept hW hq, Nat.le_trans hS.1 hz, fun q h1 h2 => by rw [hq q (Nat.lt_of_lt_of_le h1 hS.1)]; exact hS.2.1 q h1 h2⟩) hS.2.2 hc.1 hc.2

theorem glx0 {β : Type} {n : Nat} {f : (S2 → Option β) → S2 → Option β} {s : S2} {y : Option β} (h : gl0 n f s = y) : ∃ g, g = f ∧ gl0 n g s = y := ⟨f, rfl, h⟩
theorem glu0 {β : Type} {n : Nat} {f g : (S2 → Option β) → S2 → Option β} {s : S2} {y : Option β} (h : gl0 (n + 1) f s = y) (e : f = g) : ∃ k, k = gl0 n f ∧ g k s = y := ⟨gl0 n f, rfl, by rw [← e]; exact h⟩
theorem glx1 {β : Type} {n : Nat} {f : (Int → S2 → Option β) → Int → S2 → Option β} {x0 : Int} {s : S2} {y : Option β} (h : gl1 n f x0 s = y) : ∃ g, g = f ∧ gl1 n g x0 s = y := ⟨f, rfl, h⟩
theorem glu1 {β : Type} {n : Nat} {f g : (Int → S2 → Option β) → Int → S2 → Option β} {x0 : Int} {s : S2} {y : Option β} (h : gl1 (n + 1) f x0 s = y) (e : f = g) : ∃ k, k = gl1 n f ∧ g k x0 s = y := ⟨gl1 n f, rfl, by rw [← e]; exact h⟩
theorem glx2 {β : Type} {n : Nat} {f : (Int → Int → S2 → Option β) → Int → Int → S2 → Option β} {x0 x1 : Int} {s : S2} {y : Option β} (h : gl2 n f x0 x1 s = y) : ∃ g, g = f ∧ gl2 n g x0 x1 s = y := ⟨f, rfl, h⟩
theorem glu2 {β : Type} {n : Nat} {f g : (Int → Int → S2 → Option β) → Int → Int → S2 → Option β} {x0 x1 : Int} {s : S2} {y : Option β} (h : gl2 (n + 1) f x0 x1 s = y) (e : f = g) : ∃ k, k = gl2 n f ∧ g k x0 x1 s = y := ⟨gl2 n f, rfl, by rw [← e]; exact h⟩
theorem glx3 {β : Type} {n : Nat} {f : (Int → Int → Int → S2 → Option β) → Int → Int → Int → S2 → Option β} {x0 x1 x2 : Int} {s : S2} {y : Option β} (h : gl3 n f x0 x1 x2 s = y) : ∃ g, g = f ∧ gl3 n g x0 x1 x2 s = y := ⟨f, rfl, h⟩
theorem glu3 {β : Type} {n : Nat} {f g : (Int → Int → Int → S2 → Option β) → Int → Int → Int → S2 → Option β} {x0 x1 x2 : Int} {s : S2} {y : Option β} (h : gl3 (n + 1) f x0 x1 x2 s = y) (e : f = g) : ∃ k, k = gl3 n f ∧ g k x0 x1 x2 s = y := ⟨gl3 n f, rfl, by rw [← e]; exact h⟩
theorem glx4 {β : Type} {n : Nat} {f : (Int → Int → Int → Int → S2 → Option β) → Int → Int → Int → Int → S2 → Option β} {x0 x1 x2 x3 : Int} {s : S2} {y : Option β} (h : gl4 n f x0 x1 x2 x3 s = y) : ∃ g, g = f ∧ gl4 n g x0 x1 x2 x3 s = y := ⟨f, rfl, h⟩
theorem glu4 {β : Type} {n : Nat} {f g : (Int → Int → Int → Int → S2 → Option β) → Int → Int → Int → Int → S2 → Option β} {x0 x1 x2 x3 : Int} {s : S2} {y : Option β} (h : gl4 (n + 1) f x0 x1 x2 x3 s = y) (e : f = g) : ∃ k, k = gl4 n f ∧ g k x0 x1 x2 x3 s = y := ⟨gl4 n f, rfl, by rw [← e]; exact h⟩
theorem glx5 {β : Type} {n : Nat} {f : (Int → Int → Int → Int → Int → S2 → Option β) → Int → Int → Int → Int → Int → S2 → Option β} {x0 x1 x2 x3 x4 : Int} {s : S2} {y : Option β} (h : gl5 n f x0 x1 x2 x3 x4 s = y) : ∃ g, g = f ∧ gl5 n g x0 x1 x2 x3 x4 s = y := ⟨f, rfl, h⟩
theorem glu5 {β : Type} {n : Nat} {f g : (Int → Int → Int → Int → Int → S2 → Option β) → Int → Int → Int → Int → Int → S2 → Option β} {x0 x1 x2 x3 x4 : Int} {s : S2} {y : Option β} (h : gl5 (n + 1) f x0 x1 x2 x3 x4 s = y) (e : f = g) : ∃ k, k = gl5 n f ∧ g k x0 x1 x2 x3 x4 s = y := ⟨gl5 n f, rfl, by rw [← e]; exact h⟩
theorem glx6 {β : Type} {n : Nat} {f : (Int → Int → Int → Int → Int → Int → S2 → Option β) → Int → Int → Int → Int → Int → Int → S2 → Option β} {x0 x1 x2 x3 x4 x5 : Int} {s : S2} {y : Option β} (h : gl6 n f x0 x1 x2 x3 x4 x5 s = y) : ∃ g, g = f ∧ gl6 n g x0 x1 x2 x3 x4 x5 s = y := ⟨f, rfl, h⟩
theorem glu6 {β : Type} {n : Nat} {f g : (Int → Int → Int → Int → Int → Int → S2 → Option β) → Int → Int → Int → Int → Int → Int → S2 → Option β} {x0 x1 x2 x3 x4 x5 : Int} {s : S2} {y : Option β} (h : gl6 (n + 1) f x0 x1 x2 x3 x4 x5 s = y) (e : f = g) : ∃ k, k = gl6 n f ∧ g k x0 x1 x2 x3 x4 x5 s = y := ⟨gl6 n f, rfl, by rw [← e]; exact h⟩
theorem glx7 {β : Type} {n : Nat} {f : (Int → Int → Int → Int → Int → Int → Int → S2 → Option β) → Int → Int → Int → Int → Int → Int → Int → S2 → Option β} {x0 x1 x2 x3 x4 x5 x6 : Int} {s : S2} {y : Option β} (h : gl7 n f x0 x1 x2 x3 x4 x5 x6 s = y) : ∃ g, g = f ∧ gl7 n g x0 x1 x2 x3 x4 x5 x6 s = y := ⟨f, rfl, h⟩
theorem glu7 {β : Type} {n : Nat} {f g : (Int → Int → Int → Int → Int → Int → Int → S2 → Option β) → Int → Int → Int → Int → Int → Int → Int → S2 → Option β} {x0 x1 x2 x3 x4 x5 x6 : Int} {s : S2} {y : Option β} (h : gl7 (n + 1) f x0 x1 x2 x3 x4 x5 x6 s = y) (e : f = g) : ∃ k, k = gl7 n f ∧ g k x0 x1 x2 x3 x4 x5 x6 s = y := ⟨gl7 n f, rfl, by rw [← e]; exact h⟩
