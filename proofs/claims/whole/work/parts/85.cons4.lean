/-! helps for the constructors -/
theorem kJ_c {X : gX} {kc kc' ks ks' pc : Nat} {L L' st : List (Nat × Int)} {n n' : Nat} {f f' : Nat → va_E} (h1 : kc = kc') (h2 : ks = ks') (h3 : L = L') (h4 : n = n') (h5 : f = f') (K : KJ X kc' ks' pc L' st n' f') : KJ X kc ks pc L st n f := by
  subst h1 h2 h3 h4 h5; exact K
theorem kJ_f {X : gX} {kc ks pc : Nat} {L st : List (Nat × Int)} {n : Nat} {f f' : Nat → va_E} (h5 : f = f') (K : KJ X kc ks pc L st n f') : KJ X kc ks pc L st n f := by
  subst h5; exact K
theorem gn_arr {t : Nat} {v : Int} {ty : FieldType} (w : gW) : narrow (.array ty) (gvl w (t + 3, v)) = gvl w (t + 3, v) := by
  rw [gvl_rf]; rcases va_rf_or (if v < 0 then none else some (w.2.1 t v)) with h | ⟨a, h⟩ <;> rw [h] <;> rfl
theorem gf_arr {t : Nat} {v : Int} {ty : FieldType} (w : gW) : fits (.array ty) (gvl w (t + 3, v)) = true := by
  rw [gvl_rf]; rcases va_rf_or (if v < 0 then none else some (w.2.1 t v)) with h | ⟨a, h⟩ <;> rw [h] <;> rfl
/-- an array's last cell -/
theorem kfa {w : gW} {k : Nat} {z : Int} (h : gIn k z) (h9 : 9 ≤ k) : kF w (gOff k z) = .inl (w.2.2 k, gCon w (gSto k (s0, m0)) k z) := (kF_at h).trans (gCell_a h9)
/-- an array of objects, filled up to i -/
def kA (w : gW) (k N t : Nat) (b i : Int) : va_E := .inl (w.2.2 k, N, .inr (.inr (.inr (.inr fun j => if (j : Int) < i then some (w.2.1 t (b + j)) else none))))
theorem kA_0 {w : gW} {k N t : Nat} {b : Int} : (.inl (w.2.2 k, N, .inr (.inr (.inr (.inr fun _ => none)))) : va_E) = kA w k N t b 0 := by
  have e : (fun _ : Nat => (none : Option Nat)) = fun j : Nat => if (j : Int) < 0 then some (w.2.1 t (b + j)) else none := by
    funext j
    rw [if_neg (by omega)]
  unfold kA
  rw [e]
theorem kA_s {w : gW} {t : Nat} {b i : Int} (j : Nat) : (fun j : Nat => if (j : Int) < i + 1 then some (w.2.1 t (b + j)) else none) j = if (j : Int) = i then some (w.2.1 t (b + i)) else (fun j : Nat => if (j : Int) < i then some (w.2.1 t (b + j)) else none) j := by
  by_cases h : (j : Int) = i
  · rw [if_pos h]
    show (if (j : Int) < i + 1 then some (w.2.1 t (b + j)) else none) = _
    rw [if_pos (by omega), h]
  · rw [if_neg h]
    show (if (j : Int) < i + 1 then some (w.2.1 t (b + j)) else none) = (if (j : Int) < i then some (w.2.1 t (b + j)) else none)
    by_cases h2 : (j : Int) < i
    · rw [if_pos h2, if_pos (by omega)]
    · rw [if_neg h2, if_neg (by omega)]
theorem kA_e {w : gW} {k N t : Nat} {z b : Int} {st : S2} (hN : (gAT k).1 = N) (ht : (gAT k).2.1 = t + 3) (hg : ∀ j : Nat, j < N → gAE st k z j = b + j) (hb : 0 ≤ b) : kA w k N t b N = .inl (w.2.2 k, gCon w st k z) := by
  have e0 : gCon w st k z = (N, .inr (.inr (.inr (.inr fun j => if j < N ∧ ¬ gAE st k z j < 0 then some (w.2.1 t (gAE st k z j)) else none)))) := by
    unfold gCon; rw [ht, hN]
  rw [e0]
  unfold kA
  congr 7
  funext j
  by_cases h : j < N
  · rw [if_pos (by omega), if_pos ⟨h, by rw [hg j h]; omega⟩, hg j h]
  · rw [if_neg (by omega), if_neg (fun q => h q.1)]
/-- an array of ints, minus one up to i -/
def kI (w : gW) (k N : Nat) (i : Int) : va_E := .inl (w.2.2 k, N, .inl fun j => if j < N then gi (if (j : Int) < i then -1 else 0) else 0)
theorem kI_0 {N : Nat} (cA : ClassId) : vp_cell cA (N, .inl fun j => if j < N then gi (if (j : Int) < 0 then -1 else 0) else 0) = arrV cA N (fun _ => defaultValue .int) := by
  rw [vp_cell_i]
  congr 1
  funext j
  rw [if_neg (show ¬ (j : Int) < 0 by omega)]
  split <;> rfl
theorem kI_s {N : Nat} {i : Int} (hi : 0 ≤ i ∧ i < N) (j : Nat) : (fun j : Nat => if j < N then gi (if (j : Int) < i + 1 then -1 else 0) else 0) j = if (j : Int) = i then gi (-1) else (fun j : Nat => if j < N then gi (if (j : Int) < i then -1 else 0) else 0) j := by
  show (if j < N then gi (if (j : Int) < i + 1 then -1 else 0) else 0) = if (j : Int) = i then gi (-1) else (if j < N then gi (if (j : Int) < i then -1 else 0) else 0)
  by_cases h : (j : Int) = i
  · rw [if_pos h, if_pos (by omega), if_pos (by omega)]
  · rw [if_neg h]
    by_cases h2 : (j : Int) < i
    · rw [if_pos h2, if_pos (show (j : Int) < i + 1 by omega)]
    · rw [if_neg h2, if_neg (show ¬ (j : Int) < i + 1 by omega)]
theorem kI_e {w : gW} {k N : Nat} {z : Int} {st : S2} (hN : (gAT k).1 = N) (ht : (gAT k).2.1 = 0) (hg : ∀ j : Nat, j < N → gAE st k z j = -1) : kI w k N N = .inl (w.2.2 k, gCon w st k z) := by
  have e0 : gCon w st k z = (N, .inl fun j => if j < N then gi (gAE st k z j) else 0) := by
    unfold gCon; rw [ht, hN]
  rw [e0]
  unfold kI
  congr 4
  funext j
  by_cases h : j < N
  · rw [if_pos h, if_pos h, if_pos (by omega), hg j h]
  · rw [if_neg h, if_neg h]
theorem kZ {w : gW} {k N : Nat} {z : Int} {st : S2} (ht : (gAT k).2.1 = 0) (hN : (gAT k).1 = N) (hg : ∀ j : Nat, gAE st k z j = 0) (cA : ClassId) : vp_cell cA (gCon w st k z) = arrV cA N (fun _ => .int 0) := by
  have e0 : gCon w st k z = (N, .inl fun j => if j < N then gi (gAE st k z j) else 0) := by
    unfold gCon; rw [ht, hN]
  rw [e0, vp_cell_i]
  congr 1
  funext j
  rw [hg]
  split <;> rfl
theorem kZl {w : gW} {k N : Nat} {z : Int} {st : S2} (ht : (gAT k).2.1 = 2) (hN : (gAT k).1 = N) (hg : ∀ j : Nat, gAE st k z j = 0) (cA : ClassId) : vp_cell cA (gCon w st k z) = arrV cA N (fun _ => .long 0) := by
  have e0 : gCon w st k z = (N, .inr (.inl fun j => if j < N then Int64.ofInt (gAE st k z j) else 0)) := by
    unfold gCon; rw [ht, hN]
  rw [e0, vp_cell_l]
  congr 1
  funext j
  rw [hg]
  split <;> rfl
section KZ
variable {X : gX} {own : String} {cc : ByteArray} {nL lev rc rs kc ks : Nat} {L st : List (Nat × Int)} {nn : Nat} {ff : Nat → va_E} {w : gW} {bs : Nat}
/-- a new array that stays as it is made: its cell is the last one at once -/
theorem k_newz (h : gOk X own cc nL lev rc rs) (hA : kAt X w bs) (pc : Nat) {ac : ArrayType} {k N : Nat} {z n : Int} {ty : FieldType} (hd : decode cc pc = .ok (.newarray ac, 2)) (hty2 : newarray.typeOf ac = ty) (harr : Cond.arrayClass ty ∈ gB) (hty : ∀ w : gW, (gTys w)[k - 9]? = some (w.2.2 k, ty)) (hp : ∀ (U : State) (cA : ClassId), va_RA U cA ty → U.vm.findClass ("[" ++ ty.toString) = some cA)
    (ha0 : ∀ cA : ClassId, vp_cell cA (gCon w (gSto k (s0, m0)) k z) = arrV cA N (fun _ => defaultValue ty)) (hn : n = N) (hN : N < 1000) (hby : componentBytes ty ≤ 8) (hz : gIn k z) (h9 : 9 ≤ k) (ha : w.2.1 k z = bs + nn) (hnn : gOff k z = nn) (hff : ff nn = kF w nn) (hcell : kc + 1 ≤ rc ∧ ks + N ≤ rs)
    (K : KJ X (kc + 1) (ks + N) (pc + 2) L ((k + 3, z) :: st) (nn + 1) ff) : KJ X kc ks pc L ((0, n) :: st) nn ff := by
  refine k_newa h hA pc hd hty2 harr hty hp ha0 hn hN hby hz.2.1 ha hcell (kJ_f (kU_id ?_) K)
  rw [hff, ← hnn]
  exact kfa hz h9
end KZ
theorem kv_124 : Cond.code objectInit ⟨#[0xb1]⟩ 1 none ∈ gB := gB_mem 124 (by decide +kernel) (by decide)
theorem kv_1007 : (Jvm.Cond.instanceMethod ({ cls := "PagewrightModel", name := "<init>", desc := "()V" } : Jvm.MethodName)) ∈ gB := gB_mem 1007 (by decide +kernel) (by decide)
theorem kv_1008 : (Jvm.Cond.code ({ cls := "PagewrightModel", name := "<init>", desc := "()V" } : Jvm.MethodName) prog_10_method_1_code (2 : Nat) (Option.none : Option Jvm.ClassFile.FieldType)) ∈ gB := gB_mem 1008 (by decide +kernel) (by decide)
theorem kv_120 : (Jvm.Cond.instanceMethod ({ cls := "Pagewright", name := "<init>", desc := "()V" } : Jvm.MethodName)) ∈ gB := gB_mem 120 (by decide +kernel) (by decide)
theorem kv_121 : (Jvm.Cond.code ({ cls := "Pagewright", name := "<init>", desc := "()V" } : Jvm.MethodName) prog_1_method_1_code (2 : Nat) (Option.none : Option Jvm.ClassFile.FieldType)) ∈ gB := gB_mem 121 (by decide +kernel) (by decide)
theorem kv_123 : (Jvm.Cond.instanceMethod ({ cls := "java/lang/Object", name := "<init>", desc := "()V" } : Jvm.MethodName)) ∈ gB := gB_mem 123 (by decide +kernel) (by decide)
theorem kv_132 : (Jvm.Cond.instantiable "Pagewright$Records" (4 : Nat)) ∈ gB := gB_mem 132 (by decide +kernel) (by decide)
theorem kv_134 : (Jvm.Cond.instanceMethod ({ cls := "Pagewright$Records", name := "<init>", desc := "()V" } : Jvm.MethodName)) ∈ gB := gB_mem 134 (by decide +kernel) (by decide)
theorem kv_135 : (Jvm.Cond.code ({ cls := "Pagewright$Records", name := "<init>", desc := "()V" } : Jvm.MethodName) prog_6_method_1_code (2 : Nat) (Option.none : Option Jvm.ClassFile.FieldType)) ∈ gB := gB_mem 135 (by decide +kernel) (by decide)
theorem kv_139 : (Jvm.Cond.instantiable "Pagewright$Record" (5 : Nat)) ∈ gB := gB_mem 139 (by decide +kernel) (by decide)
theorem kv_141 : (Jvm.Cond.instanceMethod ({ cls := "Pagewright$Record", name := "<init>", desc := "()V" } : Jvm.MethodName)) ∈ gB := gB_mem 141 (by decide +kernel) (by decide)
theorem kv_142 : (Jvm.Cond.code ({ cls := "Pagewright$Record", name := "<init>", desc := "()V" } : Jvm.MethodName) prog_5_method_1_code (1 : Nat) (Option.none : Option Jvm.ClassFile.FieldType)) ∈ gB := gB_mem 142 (by decide +kernel) (by decide)
theorem kv_163 : (Jvm.Cond.arrayClass Jvm.ClassFile.FieldType.boolean) ∈ gB := gB_mem 163 (by decide +kernel) (by decide)
theorem kv_178 : (Jvm.Cond.instantiable "Pagewright$Space" (6 : Nat)) ∈ gB := gB_mem 178 (by decide +kernel) (by decide)
theorem kv_180 : (Jvm.Cond.instanceMethod ({ cls := "Pagewright$Space", name := "<init>", desc := "(I)V" } : Jvm.MethodName)) ∈ gB := gB_mem 180 (by decide +kernel) (by decide)
theorem kv_181 : (Jvm.Cond.code ({ cls := "Pagewright$Space", name := "<init>", desc := "(I)V" } : Jvm.MethodName) prog_7_method_1_code (3 : Nat) (Option.none : Option Jvm.ClassFile.FieldType)) ∈ gB := gB_mem 181 (by decide +kernel) (by decide)
theorem kv_185 : (Jvm.Cond.instantiable "Pagewright$Entry" (13 : Nat)) ∈ gB := gB_mem 185 (by decide +kernel) (by decide)
theorem kv_187 : (Jvm.Cond.instanceMethod ({ cls := "Pagewright$Entry", name := "<init>", desc := "(I)V" } : Jvm.MethodName)) ∈ gB := gB_mem 187 (by decide +kernel) (by decide)
theorem kv_188 : (Jvm.Cond.code ({ cls := "Pagewright$Entry", name := "<init>", desc := "(I)V" } : Jvm.MethodName) prog_3_method_1_code (2 : Nat) (Option.none : Option Jvm.ClassFile.FieldType)) ∈ gB := gB_mem 188 (by decide +kernel) (by decide)
theorem kv_250 : (Jvm.Cond.arrayClass Jvm.ClassFile.FieldType.int) ∈ gB := gB_mem 250 (by decide +kernel) (by decide)
theorem kv_275 : (Jvm.Cond.instantiable "Pagewright$Page" (12 : Nat)) ∈ gB := gB_mem 275 (by decide +kernel) (by decide)
theorem kv_277 : (Jvm.Cond.instanceMethod ({ cls := "Pagewright$Page", name := "<init>", desc := "(I)V" } : Jvm.MethodName)) ∈ gB := gB_mem 277 (by decide +kernel) (by decide)
theorem kv_278 : (Jvm.Cond.code ({ cls := "Pagewright$Page", name := "<init>", desc := "(I)V" } : Jvm.MethodName) prog_4_method_1_code (2 : Nat) (Option.none : Option Jvm.ClassFile.FieldType)) ∈ gB := gB_mem 278 (by decide +kernel) (by decide)
theorem kv_329 : (Jvm.Cond.instantiable "Pagewright$Cache" (3 : Nat)) ∈ gB := gB_mem 329 (by decide +kernel) (by decide)
theorem kv_331 : (Jvm.Cond.instanceMethod ({ cls := "Pagewright$Cache", name := "<init>", desc := "(I)V" } : Jvm.MethodName)) ∈ gB := gB_mem 331 (by decide +kernel) (by decide)
theorem kv_332 : (Jvm.Cond.code ({ cls := "Pagewright$Cache", name := "<init>", desc := "(I)V" } : Jvm.MethodName) prog_2_method_1_code (3 : Nat) (Option.none : Option Jvm.ClassFile.FieldType)) ∈ gB := gB_mem 332 (by decide +kernel) (by decide)
theorem kv_336 : (Jvm.Cond.instantiable "Pagewright$Translation" (3 : Nat)) ∈ gB := gB_mem 336 (by decide +kernel) (by decide)
theorem kv_338 : (Jvm.Cond.instanceMethod ({ cls := "Pagewright$Translation", name := "<init>", desc := "()V" } : Jvm.MethodName)) ∈ gB := gB_mem 338 (by decide +kernel) (by decide)
theorem kv_339 : (Jvm.Cond.code ({ cls := "Pagewright$Translation", name := "<init>", desc := "()V" } : Jvm.MethodName) prog_8_method_1_code (1 : Nat) (Option.none : Option Jvm.ClassFile.FieldType)) ∈ gB := gB_mem 339 (by decide +kernel) (by decide)
theorem km0 : kMw yX0_init cX0_init 3 1 := ⟨kv_332, kw_107, ⟨by decide, by decide, by decide +kernel⟩, by decide, kv_331, rfl⟩
theorem km1 : kMw yX1_init cX1_init 2 1 := ⟨kv_188, kw_105, ⟨by decide, by decide, by decide +kernel⟩, by decide, kv_187, rfl⟩
theorem km2 : kMw yX2_init cX2_init 2 1 := ⟨kv_278, kw_106, ⟨by decide, by decide, by decide +kernel⟩, by decide, kv_277, rfl⟩
theorem km3 : kMw yX3_init cX3_init 1 0 := ⟨kv_142, kw_103, ⟨by decide, by decide, by decide +kernel⟩, by decide, kv_141, rfl⟩
theorem km4 : kMw yX4_init cX4_init 2 0 := ⟨kv_135, kw_102, ⟨by decide, by decide, by decide +kernel⟩, by decide, kv_134, rfl⟩
theorem km5 : kMw yX5_init cX5_init 3 1 := ⟨kv_181, kw_104, ⟨by decide, by decide, by decide +kernel⟩, by decide, kv_180, rfl⟩
theorem km6 : kMw yX6_init cX6_init 1 0 := ⟨kv_339, kw_108, ⟨by decide, by decide, by decide +kernel⟩, by decide, kv_338, rfl⟩
theorem km7 : kMw yX7_init cX7_init 2 0 := ⟨kv_121, kw_101, ⟨by decide, by decide, by decide +kernel⟩, by decide, kv_120, rfl⟩
theorem km8 : kMw yX8_init cX8_init 2 0 := ⟨kv_1008, kw_109, ⟨by decide, by decide, by decide +kernel⟩, by decide, kv_1007, rfl⟩
theorem kf0 {w : gW} {z : Int} (hz : 0 ≤ z ∧ z < 2) : kF w (258 + 6 * z.toNat) = .inr (0, [gvl w (0, z + 1), gvl w (23, z), .int 0]) := (kF_at (k := 0) ⟨by decide, hz⟩).trans ((gCell_o (by decide)).trans rfl)
theorem kf1 {w : gW} {z : Int} (hz : 0 ≤ z ∧ z < 192) : kF w (32 + 34 * (z.toNat / 32) + z.toNat % 32) = .inr (1, [gvl w (0, z / 4), .int 0, .int 0, gvl w (0, -1), .int 0, .int 0, .int 0, gvl w (0, 0), .null, .int 0, .null, .int 0, .int 0]) := (kF_at (k := 1) ⟨by decide, hz⟩).trans ((gCell_o (by decide)).trans rfl)
theorem kf2 {w : gW} {z : Int} (hz : 0 ≤ z ∧ z < 24) : kF w (234 + z.toNat) = .inr (2, [gvl w (0, z), gvl w (0, 0), .int 0, .int 0, .int 0, .int 0, .int 0, .int 0, .int 0, .int 0, .int 0, .int 0]) := (kF_at (k := 2) ⟨by decide, hz⟩).trans ((gCell_o (by decide)).trans rfl)
theorem kf3 {w : gW} {z : Int} (hz : 0 ≤ z ∧ z < 18) : kF w (7 + z.toNat) = .inr (3, [.int 0, .int 0, .int 0, .int 0, .int 0]) := (kF_at (k := 3) ⟨by decide, hz⟩).trans ((gCell_o (by decide)).trans rfl)
theorem kf4 {w : gW} {z : Int} (hz : 0 ≤ z ∧ z < 1) : kF w (gOff 4 z) = .inr (4, [gvl w (21, z), gvl w (22, z), .int 0, .int 0]) := (kF_at (k := 4) ⟨by decide, hz⟩).trans ((gCell_o (by decide)).trans rfl)
theorem kf5 {w : gW} {z : Int} (hz : 0 ≤ z ∧ z < 6) : kF w (30 + 34 * z.toNat) = .inr (5, [gvl w (0, z), gvl w (20, z), .int 0, .int 0, .int 0, .int 0]) := (kF_at (k := 5) ⟨by decide, hz⟩).trans ((gCell_o (by decide)).trans rfl)
theorem kf6 {w : gW} {z : Int} (hz : 0 ≤ z ∧ z < 8) : kF w (260 + 6 * (z.toNat / 4) + z.toNat % 4) = .inr (6, [.null, .int 0, .int 0]) := (kF_at (k := 6) ⟨by decide, hz⟩).trans ((gCell_o (by decide)).trans rfl)
theorem kf7 {w : gW} {z : Int} (hz : 0 ≤ z ∧ z < 1) : kF w (gOff 7 z) = .inr (7, [gvl w (12, z), gvl w (13, z), gvl w (14, z), gvl w (7, z), gvl w (15, z), gvl w (16, z), gvl w (17, z), gvl w (18, z), gvl w (19, z), .int 0, .int 0, .int 0, .int 0]) := (kF_at (k := 7) ⟨by decide, hz⟩).trans ((gCell_o (by decide)).trans rfl)
theorem kf8 {w : gW} {z : Int} (hz : 0 ≤ z ∧ z < 1) : kF w (gOff 8 z) = .inr (8, [.int 0, .int 0, gvl w (24, z), gvl w (25, z), gvl w (26, z), gvl w (27, z), gvl w (28, z), gvl w (29, z), gvl w (30, z), gvl w (31, z), gvl w (32, z), gvl w (33, z), gvl w (34, z), gvl w (35, z), gvl w (36, z), gvl w (37, z), gvl w (38, z), gvl w (39, z), gvl w (40, z), gvl w (41, z), gvl w (42, z), gvl w (43, z), gvl w (44, z), gvl w (45, z), gvl w (46, z), gvl w (47, z), gvl w (48, z), gvl w (49, z), gvl w (50, z), gvl w (51, z), gvl w (52, z), .int 0, gvl w (53, z), gvl w (54, z), gvl w (55, z), gvl w (56, z), gvl w (57, z), gvl w (58, z), .int 0, .int 0, gvl w (59, z)]) := (kF_at (k := 8) ⟨by decide, hz⟩).trans ((gCell_o (by decide)).trans rfl)
theorem c1_init {l : Launch} {w : gW} {bs : Nat} (hl : l.stackTraces = false) (hlay : kLay w bs) {F : Nat → va_E} {n o : Nat} {z v : Int} (hz : 0 ≤ z ∧ z < 192) (ho : o = 32 + 34 * (z.toNat / 32) + z.toNat % 32) (hn : o < n) (hv : v = z / 4) : kMet l w bs yX1_init cX1_init 2 1 0 0 n (kU F o (.inr (1, [.int 0, .int 0, .int 0, .int 0, .int 0, .int 0, .int 0, .int 0, .null, .int 0, .null, .int 0, .int 0]))) [(4, z), (0, v)] n (kU F o (kF w o)) := by
  refine k_start hl (by decide) rfl (Nat.le_of_ble_eq_true rfl) rfl fun X h hE => ?_
  have h : gOk X "Pagewright$Entry" cX1_init 2 1 0 0 := h
  have hA := hE.at
  have hI := hE.i
  have hx := hE.x
  have hO := hE.o
  show KJ X 0 0 0 [(4, z), (0, v)] [] n (kU F o (.inr (1, [.int 0, .int 0, .int 0, .int 0, .int 0, .int 0, .int 0, .int 0, .null, .int 0, .null, .int 0, .int 0])))
  have ha : w.2.1 1 z = bs + o := by rw [hlay 1 z (by decide), ho]; rfl
  refine k_aload_n h 0 (t := 1) (z := z) dX1_init_0 rfl ?_
  refine k_objInit h 1 dX1_init_1 kw_189 kv_123 kv_124 hz.1 (by decide) rfl ?_
  refine k_aload_n h 4 (t := 1) (z := z) dX1_init_4 rfl ?_
  refine k_iconst h 5 dX1_init_5 ?_
  refine k_putf h hA hI 6 (k := 1) (j := 3) (C := RX1) (T := TX1) (N := 13) (o := o) (ty := .int) (vs' := [.int 0, .int 0, .int 0, gvl w (0, -1), .int 0, .int 0, .int 0, .int 0, .null, .int 0, .null, .int 0, .int 0]) dX1_init_6 rfl (by decide) win1 tyX1_ok nmX1 rfl kw_198 (by decide +kernel) rfl rfl hz.1 ha hn kU_s rfl rfl ?_
  rw [kU_kU]
  refine k_aload_n h 9 (t := 1) (z := z) dX1_init_9 rfl ?_
  refine k_iconst h 10 dX1_init_10 ?_
  refine k_putf h hA hI 11 (k := 1) (j := 7) (C := RX1) (T := TX1) (N := 13) (o := o) (ty := .int) (vs' := [.int 0, .int 0, .int 0, gvl w (0, -1), .int 0, .int 0, .int 0, gvl w (0, 0), .null, .int 0, .null, .int 0, .int 0]) dX1_init_11 rfl (by decide) win1 tyX1_ok nmX1 rfl kw_209 (by decide +kernel) rfl rfl hz.1 ha hn kU_s rfl rfl ?_
  rw [kU_kU]
  refine k_aload_n h 14 (t := 1) (z := z) dX1_init_14 rfl ?_
  refine k_iload_n h 15 (z := v) dX1_init_15 rfl ?_
  refine k_putf h hA hI 16 (k := 1) (j := 0) (C := RX1) (T := TX1) (N := 13) (o := o) (ty := .int) (vs' := [gvl w (0, v), .int 0, .int 0, gvl w (0, -1), .int 0, .int 0, .int 0, gvl w (0, 0), .null, .int 0, .null, .int 0, .int 0]) dX1_init_16 rfl (by decide) win1 tyX1_ok nmX1 rfl kw_190 (by decide +kernel) rfl rfl hz.1 ha hn kU_s rfl rfl ?_
  rw [kU_kU]
  refine kJ_f (f' := kU F o (kF w o)) ?_ (k_vret h hE 19 dX1_init_19 ⟨Nat.le_refl _, Nat.le_refl _⟩)
  subst hv ho
  rw [kf1 hz]
theorem c2_init {l : Launch} {w : gW} {bs : Nat} (hl : l.stackTraces = false) (hlay : kLay w bs) {F : Nat → va_E} {n o : Nat} {z v : Int} (hz : 0 ≤ z ∧ z < 24) (ho : o = 234 + z.toNat) (hn : o < n) (hv : v = z) : kMet l w bs yX2_init cX2_init 2 1 0 0 n (kU F o (.inr (2, [.int 0, .int 0, .int 0, .int 0, .int 0, .int 0, .int 0, .int 0, .int 0, .int 0, .int 0, .int 0]))) [(5, z), (0, v)] n (kU F o (kF w o)) := by
  refine k_start hl (by decide) rfl (Nat.le_of_ble_eq_true rfl) rfl fun X h hE => ?_
  have h : gOk X "Pagewright$Page" cX2_init 2 1 0 0 := h
  have hA := hE.at
  have hI := hE.i
  have hx := hE.x
  have hO := hE.o
  show KJ X 0 0 0 [(5, z), (0, v)] [] n (kU F o (.inr (2, [.int 0, .int 0, .int 0, .int 0, .int 0, .int 0, .int 0, .int 0, .int 0, .int 0, .int 0, .int 0])))
  have ha : w.2.1 2 z = bs + o := by rw [hlay 2 z (by decide), ho]; rfl
  refine k_aload_n h 0 (t := 2) (z := z) dX2_init_0 rfl ?_
  refine k_objInit h 1 dX2_init_1 kw_279 kv_123 kv_124 hz.1 (by decide) rfl ?_
  refine k_aload_n h 4 (t := 2) (z := z) dX2_init_4 rfl ?_
  refine k_iconst h 5 dX2_init_5 ?_
  refine k_putf h hA hI 6 (k := 2) (j := 1) (C := RX2) (T := TX2) (N := 12) (o := o) (ty := .int) (vs' := [.int 0, gvl w (0, 0), .int 0, .int 0, .int 0, .int 0, .int 0, .int 0, .int 0, .int 0, .int 0, .int 0]) dX2_init_6 rfl (by decide) win2 tyX2_ok nmX2 rfl kw_283 (by decide +kernel) rfl rfl hz.1 ha hn kU_s rfl rfl ?_
  rw [kU_kU]
  refine k_aload_n h 9 (t := 2) (z := z) dX2_init_9 rfl ?_
  refine k_iload_n h 10 (z := v) dX2_init_10 rfl ?_
  refine k_putf h hA hI 11 (k := 2) (j := 0) (C := RX2) (T := TX2) (N := 12) (o := o) (ty := .int) (vs' := [gvl w (0, v), gvl w (0, 0), .int 0, .int 0, .int 0, .int 0, .int 0, .int 0, .int 0, .int 0, .int 0, .int 0]) dX2_init_11 rfl (by decide) win2 tyX2_ok nmX2 rfl kw_280 (by decide +kernel) rfl rfl hz.1 ha hn kU_s rfl rfl ?_
  rw [kU_kU]
  refine kJ_f (f' := kU F o (kF w o)) ?_ (k_vret h hE 14 dX2_init_14 ⟨Nat.le_refl _, Nat.le_refl _⟩)
  subst hv ho
  rw [kf2 hz]
theorem c3_init {l : Launch} {w : gW} {bs : Nat} (hl : l.stackTraces = false) (hlay : kLay w bs) {F : Nat → va_E} {n : Nat} {z : Int} (hz : 0 ≤ z) : kMet l w bs yX3_init cX3_init 1 1 0 0 n (F) [(6, z)] n (F) := by
  refine k_start hl (by decide) rfl (Nat.le_of_ble_eq_true rfl) rfl fun X h hE => ?_
  have h : gOk X "Pagewright$Record" cX3_init 1 1 0 0 := h
  have hA := hE.at
  have hI := hE.i
  have hx := hE.x
  have hO := hE.o
  show KJ X 0 0 0 [(6, z)] [] n (F)
  refine k_aload_n h 0 (t := 3) (z := z) dX3_init_0 rfl ?_
  refine k_objInit h 1 dX3_init_1 kw_143 kv_123 kv_124 hz (by decide) rfl ?_
  exact k_vret h hE 4 dX3_init_4 ⟨Nat.le_refl _, Nat.le_refl _⟩
theorem c6_init {l : Launch} {w : gW} {bs : Nat} (hl : l.stackTraces = false) (hlay : kLay w bs) {F : Nat → va_E} {n : Nat} {z : Int} (hz : 0 ≤ z) : kMet l w bs yX6_init cX6_init 1 1 0 0 n (F) [(9, z)] n (F) := by
  refine k_start hl (by decide) rfl (Nat.le_of_ble_eq_true rfl) rfl fun X h hE => ?_
  have h : gOk X "Pagewright$Translation" cX6_init 1 1 0 0 := h
  have hA := hE.at
  have hI := hE.i
  have hx := hE.x
  have hO := hE.o
  show KJ X 0 0 0 [(9, z)] [] n (F)
  refine k_aload_n h 0 (t := 6) (z := z) dX6_init_0 rfl ?_
  refine k_objInit h 1 dX6_init_1 kw_340 kv_123 kv_124 hz (by decide) rfl ?_
  exact k_vret h hE 4 dX6_init_4 ⟨Nat.le_refl _, Nat.le_refl _⟩
