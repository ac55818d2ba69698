theorem kv_118 : (Jvm.Cond.instantiable "Pagewright" (13 : Nat)) ∈ gB := gB_mem 118 (by decide +kernel) (by decide)
theorem kv_1005 : (Jvm.Cond.instantiable "PagewrightModel" (41 : Nat)) ∈ gB := gB_mem 1005 (by decide +kernel) (by decide)
theorem kv_1468 : (Jvm.Cond.arrayClass Jvm.ClassFile.FieldType.long) ∈ gB := gB_mem 1468 (by decide +kernel) (by decide)
theorem KJ_G {X : gX} {w : gW} {bs kc ks pc : Nat} {L st : List (Nat × Int)} (hlay : kLay w bs) (hA : kAt X w bs) (k : G X kc ks pc L st (s0, m0)) : KJ X kc ks pc L st 308 (kF w) := by
  obtain ⟨p, l, e, R, s, m, args, below, meth, c, Q, w', bs'⟩ := X
  obtain ⟨rfl, rfl⟩ := hA
  intro H locs ls hW hS hL
  exact k H locs ls (kH_end hlay hW) hS hL
theorem law_kj {X : gX} {l : Launch} {w : gW} {bs : Nat} (hl : l.stackTraces = false) (h : gOk X "PagewrightLaw" cL_law 7 14 601024 7293033) (hE : gAtX X l w bs) (hO : kAO X) (hlay : kLay w bs) {Ln : Nat} {xs : Nat → Int32} (hX : gScr X Ln xs) (hL9 : Ln ≤ 4608) (hend : ∀ (i : Int) (S : gS), G X 601024 7293033 1992 [(61, 0), (10, 0), (11, 0), (60, 0), (0, i), (1, 0), (1, 0)] [] S) : KJ X 0 0 0 [(61, 0), (1, 0), (1, 0), (1, 0), (1, 0), (1, 0), (1, 0)] [] 0 (kF w) := by
  have hA : kAt X w bs := by
    obtain ⟨p, l', e, R, s, m, args, below, meth, c, Q, w', bs'⟩ := X
    exact ⟨hE.2.1, hE.2.2⟩
  refine k_new h hA 0 (k := 7) (N := 13) (z := 0) (C := "Pagewright") (T := TX7) (vs := [.null, .null, .null, .null, .null, .null, .null, .null, .null, .int 0, .int 0, .int 0, .int 0]) dL_law_0 rfl win7 tyX7_ok (by decide +kernel) kw_117 kv_118 kw_101 (Int.le_refl 0) (hlay 7 0 (by decide)) ⟨by omega, by omega⟩ ?_
  refine k_dup h 3 dL_law_3 (by show _ + 3 ≠ 2; omega) ?_
  refine k_call h hE hO 4 (k := 7) (z := 0) (as := []) dL_law_4 (c7_init hl hlay) km7 kw_119 (Int.le_refl 0) (by decide) rfl (Nat.le_of_ble_eq_true rfl) ⟨by omega, by omega⟩ rfl rfl ?_
  refine k_astore_n h 7 dL_law_7 (Nat.le_of_ble_eq_true rfl) rfl (L' := [(61, 0), (10, 0), (1, 0), (1, 0), (1, 0), (1, 0), (1, 0)]) rfl ?_
  refine k_new h hA 8 (k := 8) (N := 41) (z := 0) (C := "PagewrightModel") (T := TX8) (vs := [.int 0, .int 0, .null, .null, .null, .null, .null, .null, .null, .null, .null, .null, .null, .null, .null, .null, .null, .null, .null, .null, .null, .null, .null, .null, .null, .null, .null, .null, .null, .null, .null, .int 0, .null, .null, .null, .null, .null, .null, .int 0, .int 0, .null]) dL_law_8 rfl win8 tyX8_ok (by decide +kernel) kw_1004 kv_1005 kw_109 (Int.le_refl 0) (hlay 8 0 (by decide)) ⟨by omega, by omega⟩ ?_
  refine k_dup h 11 dL_law_11 (by show _ + 3 ≠ 2; omega) ?_
  refine k_call h hE hO 12 (k := 8) (z := 0) (as := []) dL_law_12 (c8_init hl hlay) km8 kw_1006 (Int.le_refl 0) (by decide) rfl (Nat.le_of_ble_eq_true rfl) ⟨by omega, by omega⟩ rfl rfl ?_
  refine k_astore_n h 15 dL_law_15 (Nat.le_of_ble_eq_true rfl) rfl (L' := [(61, 0), (10, 0), (11, 0), (1, 0), (1, 0), (1, 0), (1, 0)]) rfl ?_
  refine k_iconst h 16 dL_law_16 ?_
  refine k_newz h hA 17 (k := 57) (N := 1) (z := 0) (ty := .long) dL_law_17 rfl kv_1468 (fun _ => rfl) (fun _ _ h9 => h9) (kZl (w := w) rfl rfl (fun _ => rfl)) rfl (by decide) (by decide) ⟨by decide, by decide, by decide⟩ (by decide) (hlay 57 0 (by decide)) rfl rfl ⟨by omega, by omega⟩ ?_
  refine k_astore_n h 19 dL_law_19 (Nat.le_of_ble_eq_true rfl) rfl (L' := [(61, 0), (10, 0), (11, 0), (60, 0), (1, 0), (1, 0), (1, 0)]) rfl ?_
  refine k_iconst h 20 dL_law_20 ?_
  refine k_istore h 21 dL_law_21 (Nat.le_of_ble_eq_true rfl) rfl (L' := [(61, 0), (10, 0), (11, 0), (60, 0), (0, 0), (1, 0), (1, 0)]) rfl ?_
  refine KJ_G hlay hA (G_widen (kc' := 1000 + 8 * 0) (ks' := 20000 + 48 * 0) (by omega) (by omega) ?_)
  exact law_loop hl h hE hX hL9 s_all hend 513 0 0 s0 m0 ⟨by decide, by decide⟩ rfl Iv_0
