theorem c7_init {l : Launch} {w : gW} {bs : Nat} (hl : l.stackTraces = false) (hlay : kLay w bs)  : kMet l w bs yX7_init cX7_init 2 3 269 3311 1 (kU (kF w) 0 (.inr (7, [.null, .null, .null, .null, .null, .null, .null, .null, .null, .int 0, .int 0, .int 0, .int 0]))) [(10, 0)] 270 (kF w) := by
  refine k_start hl (by decide) rfl (Nat.le_of_ble_eq_true rfl) rfl fun X h hE => ?_
  have h : gOk X "Pagewright" cX7_init 2 3 269 3311 := h
  have hA := hE.at
  have hI := hE.i
  have hx := hE.x
  have hO := hE.o
  show KJ X 0 0 0 [(10, 0), (1, 0)] [] 1 (kU (kF w) 0 (.inr (7, [.null, .null, .null, .null, .null, .null, .null, .null, .null, .int 0, .int 0, .int 0, .int 0])))
  have ha : w.2.1 7 0 = bs + 0 := hlay 7 0 (by decide)
  refine k_aload_n h 0 (t := 7) (z := 0) dX7_init_0 rfl ?_
  refine k_objInit h 1 dX7_init_1 kw_122 kv_123 kv_124 (Int.le_refl 0) (by decide) rfl ?_
  refine k_aload_n h 4 (t := 7) (z := 0) dX7_init_4 rfl ?_
  refine k_bipush h 5 dX7_init_5 (by decide) ?_
  refine k_newq h hA 7 (k := 9) (N := 6) (z := 0) (C := "Pagewright$Space") dX7_init_7 kw_125 hO (by decide) (fun _ => rfl) rfl (by decide) (Int.le_refl 0) (hlay 9 0 (by decide)) ⟨by omega, by omega⟩ ?_
  rw [kA_0 (t := 5) (b := 0)]
  refine k_putf h hA hI 10 (k := 7) (j := 0) (C := RX7) (T := TX7) (N := 13) (o := 0) (ty := .array (.object "Pagewright$Space")) (vs' := [gvl w (12, 0), .null, .null, .null, .null, .null, .null, .null, .null, .int 0, .int 0, .int 0, .int 0]) dX7_init_10 rfl (by decide) win7 tyX7_ok nmX7 rfl kw_361 (by decide +kernel) (gn_arr w) (gf_arr w) (Int.le_refl 0) ha (by omega) ((kU_n (by omega)).trans kU_s) rfl rfl ?_
  refine kJ_f (f' := kU (kU (kF w) 0 (.inr (7, [gvl w (12, 0), .null, .null, .null, .null, .null, .null, .null, .null, .int 0, .int 0, .int 0, .int 0]))) 1 (kA w 9 6 5 (0) 0)) (by first | with_reducible rfl | (funext j; simp only [kU]; (repeat' split) <;> first | omega | rfl)) ?_
  refine k_aload_n h 13 (t := 7) (z := 0) dX7_init_13 rfl ?_
  refine k_bipush h 14 dX7_init_14 (by decide) ?_
  refine k_newq h hA 16 (k := 10) (N := 24) (z := 0) (C := "Pagewright$Page") dX7_init_16 kw_127 hO (by decide) (fun _ => rfl) rfl (by decide) (Int.le_refl 0) (hlay 10 0 (by decide)) ⟨by omega, by omega⟩ ?_
  rw [kA_0 (t := 2) (b := 0)]
  refine k_putf h hA hI 19 (k := 7) (j := 1) (C := RX7) (T := TX7) (N := 13) (o := 0) (ty := .array (.object "Pagewright$Page")) (vs' := [gvl w (12, 0), gvl w (13, 0), .null, .null, .null, .null, .null, .null, .null, .int 0, .int 0, .int 0, .int 0]) dX7_init_19 rfl (by decide) win7 tyX7_ok nmX7 rfl kw_362 (by decide +kernel) (gn_arr w) (gf_arr w) (Int.le_refl 0) ha (by omega) ((kU_n (by omega)).trans ((kU_n (by omega)).trans kU_s)) rfl rfl ?_
  refine kJ_f (f' := kU (kU (kU (kF w) 0 (.inr (7, [gvl w (12, 0), gvl w (13, 0), .null, .null, .null, .null, .null, .null, .null, .int 0, .int 0, .int 0, .int 0]))) 1 (kA w 9 6 5 (0) 0)) 2 (kA w 10 24 2 (0) 0)) (by first | with_reducible rfl | (funext j; simp only [kU]; (repeat' split) <;> first | omega | rfl)) ?_
  refine k_aload_n h 22 (t := 7) (z := 0) dX7_init_22 rfl ?_
  refine k_iconst h 23 dX7_init_23 ?_
  refine k_newq h hA 24 (k := 11) (N := 2) (z := 0) (C := "Pagewright$Cache") dX7_init_24 kw_129 hO (by decide) (fun _ => rfl) rfl (by decide) (Int.le_refl 0) (hlay 11 0 (by decide)) ⟨by omega, by omega⟩ ?_
  rw [kA_0 (t := 0) (b := 0)]
  refine k_putf h hA hI 27 (k := 7) (j := 2) (C := RX7) (T := TX7) (N := 13) (o := 0) (ty := .array (.object "Pagewright$Cache")) (vs' := [gvl w (12, 0), gvl w (13, 0), gvl w (14, 0), .null, .null, .null, .null, .null, .null, .int 0, .int 0, .int 0, .int 0]) dX7_init_27 rfl (by decide) win7 tyX7_ok nmX7 rfl kw_363 (by decide +kernel) (gn_arr w) (gf_arr w) (Int.le_refl 0) ha (by omega) ((kU_n (by omega)).trans ((kU_n (by omega)).trans ((kU_n (by omega)).trans kU_s))) rfl rfl ?_
  refine kJ_f (f' := kU (kU (kU (kU (kF w) 0 (.inr (7, [gvl w (12, 0), gvl w (13, 0), gvl w (14, 0), .null, .null, .null, .null, .null, .null, .int 0, .int 0, .int 0, .int 0]))) 1 (kA w 9 6 5 (0) 0)) 2 (kA w 10 24 2 (0) 0)) 3 (kA w 11 2 0 (0) 0)) (by first | with_reducible rfl | (funext j; simp only [kU]; (repeat' split) <;> first | omega | rfl)) ?_
  refine k_aload_n h 30 (t := 7) (z := 0) dX7_init_30 rfl ?_
  refine k_new h hA 31 (k := 4) (N := 4) (z := 0) (C := "Pagewright$Records") (T := TX4) (vs := [.null, .null, .int 0, .int 0]) dX7_init_31 rfl win4 tyX4_ok (by decide +kernel) kw_131 kv_132 kw_102 (Int.le_refl 0) (hlay 4 0 (by decide)) ⟨by omega, by omega⟩ ?_
  refine k_dup h 34 dX7_init_34 (by show _ + 3 ≠ 2; omega) ?_
  refine k_call h hx hO 35 (k := 4) (z := 0) (as := []) dX7_init_35 (c4_init hl hlay (F := kU (kU (kU (kU (kF w) 0 (.inr (7, [gvl w (12, 0), gvl w (13, 0), gvl w (14, 0), .null, .null, .null, .null, .null, .null, .int 0, .int 0, .int 0, .int 0]))) 1 (kA w 9 6 5 (0) 0)) 2 (kA w 10 24 2 (0) 0)) 3 (kA w 11 2 0 (0) 0)) (fun j h1 h2 => ((kU_n (by omega)).trans ((kU_n (by omega)).trans ((kU_n (by omega)).trans ((kU_n (by omega)).trans (rfl))))))) km4 kw_133 (Int.le_refl 0) (by decide) rfl (Nat.le_of_ble_eq_true rfl) ⟨by omega, by omega⟩ rfl rfl ?_
  rw [kU_id ((kU_n (by omega)).trans ((kU_n (by omega)).trans ((kU_n (by omega)).trans ((kU_n (by omega)).trans (rfl)))))]
  refine k_putf h hA hI 38 (k := 7) (j := 3) (C := RX7) (T := TX7) (N := 13) (o := 0) (ty := .object "Pagewright$Records") (vs' := [gvl w (12, 0), gvl w (13, 0), gvl w (14, 0), gvl w (7, 0), .null, .null, .null, .null, .null, .int 0, .int 0, .int 0, .int 0]) dX7_init_38 rfl (by decide) win7 tyX7_ok nmX7 rfl kw_364 (by decide +kernel) (gn_ref w) (gf_ref w) (Int.le_refl 0) ha (by omega) ((kU_n (by omega)).trans ((kU_n (by omega)).trans ((kU_n (by omega)).trans kU_s))) rfl rfl ?_
  refine kJ_f (f' := kU (kU (kU (kU (kF w) 0 (.inr (7, [gvl w (12, 0), gvl w (13, 0), gvl w (14, 0), gvl w (7, 0), .null, .null, .null, .null, .null, .int 0, .int 0, .int 0, .int 0]))) 1 (kA w 9 6 5 (0) 0)) 2 (kA w 10 24 2 (0) 0)) 3 (kA w 11 2 0 (0) 0)) (by first | with_reducible rfl | (funext j; simp only [kU]; (repeat' split) <;> first | omega | rfl)) ?_
  refine k_aload_n h 41 (t := 7) (z := 0) dX7_init_41 rfl ?_
  refine k_bipush h 42 dX7_init_42 (by decide) ?_
  refine k_newz h hA 44 (k := 12) (N := 24) (z := 0) (ty := .int) dX7_init_44 rfl kv_250 (fun _ => rfl) (fun _ _ h9 => h9) (kZ (w := w) rfl rfl (fun _ => rfl)) rfl (by decide) (by decide) ⟨by decide, by decide, by decide⟩ (by decide) (hlay 12 0 (by decide)) rfl ((kU_n (by omega)).trans ((kU_n (by omega)).trans ((kU_n (by omega)).trans ((kU_n (by omega)).trans (rfl))))) ⟨by omega, by omega⟩ ?_
  refine k_putf h hA hI 46 (k := 7) (j := 4) (C := RX7) (T := TX7) (N := 13) (o := 0) (ty := .array .int) (vs' := [gvl w (12, 0), gvl w (13, 0), gvl w (14, 0), gvl w (7, 0), gvl w (15, 0), .null, .null, .null, .null, .int 0, .int 0, .int 0, .int 0]) dX7_init_46 rfl (by decide) win7 tyX7_ok nmX7 rfl kw_365 (by decide +kernel) (gn_arr w) (gf_arr w) (Int.le_refl 0) ha (by omega) ((kU_n (by omega)).trans ((kU_n (by omega)).trans ((kU_n (by omega)).trans kU_s))) rfl rfl ?_
  refine kJ_f (f' := kU (kU (kU (kU (kF w) 0 (.inr (7, [gvl w (12, 0), gvl w (13, 0), gvl w (14, 0), gvl w (7, 0), gvl w (15, 0), .null, .null, .null, .null, .int 0, .int 0, .int 0, .int 0]))) 1 (kA w 9 6 5 (0) 0)) 2 (kA w 10 24 2 (0) 0)) 3 (kA w 11 2 0 (0) 0)) (by first | with_reducible rfl | (funext j; simp only [kU]; (repeat' split) <;> first | omega | rfl)) ?_
  refine k_aload_n h 49 (t := 7) (z := 0) dX7_init_49 rfl ?_
  refine k_bipush h 50 dX7_init_50 (by decide) ?_
  refine k_newa h hA 52 (k := 13) (N := 24) (z := 0) (ty := .int) (a0 := (24, .inl fun j => if j < 24 then gi (if (j : Int) < 0 then -1 else 0) else 0)) dX7_init_52 rfl kv_250 (fun _ => rfl) (fun _ _ h9 => h9) kI_0 rfl (by decide) (by decide) (by decide) (hlay 13 0 (by decide)) ⟨by omega, by omega⟩ ?_
  refine kJ_f (f' := kU (kU (kU (kU (kU (kF w) 0 (.inr (7, [gvl w (12, 0), gvl w (13, 0), gvl w (14, 0), gvl w (7, 0), gvl w (15, 0), .null, .null, .null, .null, .int 0, .int 0, .int 0, .int 0]))) 1 (kA w 9 6 5 (0) 0)) 2 (kA w 10 24 2 (0) 0)) 3 (kA w 11 2 0 (0) 0)) 26 (kI w 13 24 0)) rfl ?_
  refine k_putf h hA hI 54 (k := 7) (j := 5) (C := RX7) (T := TX7) (N := 13) (o := 0) (ty := .array .int) (vs' := [gvl w (12, 0), gvl w (13, 0), gvl w (14, 0), gvl w (7, 0), gvl w (15, 0), gvl w (16, 0), .null, .null, .null, .int 0, .int 0, .int 0, .int 0]) dX7_init_54 rfl (by decide) win7 tyX7_ok nmX7 rfl kw_366 (by decide +kernel) (gn_arr w) (gf_arr w) (Int.le_refl 0) ha (by omega) ((kU_n (by omega)).trans ((kU_n (by omega)).trans ((kU_n (by omega)).trans ((kU_n (by omega)).trans kU_s)))) rfl rfl ?_
  refine kJ_f (f' := kU (kU (kU (kU (kU (kF w) 0 (.inr (7, [gvl w (12, 0), gvl w (13, 0), gvl w (14, 0), gvl w (7, 0), gvl w (15, 0), gvl w (16, 0), .null, .null, .null, .int 0, .int 0, .int 0, .int 0]))) 1 (kA w 9 6 5 (0) 0)) 2 (kA w 10 24 2 (0) 0)) 3 (kA w 11 2 0 (0) 0)) 26 (kI w 13 24 0)) (by first | with_reducible rfl | (funext j; simp only [kU]; (repeat' split) <;> first | omega | rfl)) ?_
  refine k_aload_n h 57 (t := 7) (z := 0) dX7_init_57 rfl ?_
  refine k_bipush h 58 dX7_init_58 (by decide) ?_
  refine k_newz h hA 60 (k := 14) (N := 48) (z := 0) (ty := .boolean) dX7_init_60 rfl kv_163 (fun _ => rfl) (fun _ _ h9 => h9) (kZ (w := w) rfl rfl (fun _ => rfl)) rfl (by decide) (by decide) ⟨by decide, by decide, by decide⟩ (by decide) (hlay 14 0 (by decide)) rfl ((kU_n (by omega)).trans ((kU_n (by omega)).trans ((kU_n (by omega)).trans ((kU_n (by omega)).trans ((kU_n (by omega)).trans (rfl)))))) ⟨by omega, by omega⟩ ?_
  refine k_putf h hA hI 62 (k := 7) (j := 6) (C := RX7) (T := TX7) (N := 13) (o := 0) (ty := .array .boolean) (vs' := [gvl w (12, 0), gvl w (13, 0), gvl w (14, 0), gvl w (7, 0), gvl w (15, 0), gvl w (16, 0), gvl w (17, 0), .null, .null, .int 0, .int 0, .int 0, .int 0]) dX7_init_62 rfl (by decide) win7 tyX7_ok nmX7 rfl kw_367 (by decide +kernel) (gn_arr w) (gf_arr w) (Int.le_refl 0) ha (by omega) ((kU_n (by omega)).trans ((kU_n (by omega)).trans ((kU_n (by omega)).trans ((kU_n (by omega)).trans kU_s)))) rfl rfl ?_
  refine kJ_f (f' := kU (kU (kU (kU (kU (kF w) 0 (.inr (7, [gvl w (12, 0), gvl w (13, 0), gvl w (14, 0), gvl w (7, 0), gvl w (15, 0), gvl w (16, 0), gvl w (17, 0), .null, .null, .int 0, .int 0, .int 0, .int 0]))) 1 (kA w 9 6 5 (0) 0)) 2 (kA w 10 24 2 (0) 0)) 3 (kA w 11 2 0 (0) 0)) 26 (kI w 13 24 0)) (by first | with_reducible rfl | (funext j; simp only [kU]; (repeat' split) <;> first | omega | rfl)) ?_
  refine k_aload_n h 65 (t := 7) (z := 0) dX7_init_65 rfl ?_
  refine k_iconst h 66 dX7_init_66 ?_
  refine k_newa h hA 67 (k := 15) (N := 3) (z := 0) (ty := .int) (a0 := (3, .inl fun j => if j < 3 then gi (if (j : Int) < 0 then -1 else 0) else 0)) dX7_init_67 rfl kv_250 (fun _ => rfl) (fun _ _ h9 => h9) kI_0 rfl (by decide) (by decide) (by decide) (hlay 15 0 (by decide)) ⟨by omega, by omega⟩ ?_
  refine kJ_f (f' := kU (kU (kU (kU (kU (kU (kF w) 0 (.inr (7, [gvl w (12, 0), gvl w (13, 0), gvl w (14, 0), gvl w (7, 0), gvl w (15, 0), gvl w (16, 0), gvl w (17, 0), .null, .null, .int 0, .int 0, .int 0, .int 0]))) 1 (kA w 9 6 5 (0) 0)) 2 (kA w 10 24 2 (0) 0)) 3 (kA w 11 2 0 (0) 0)) 26 (kI w 13 24 0)) 28 (kI w 15 3 0)) rfl ?_
  refine k_putf h hA hI 69 (k := 7) (j := 7) (C := RX7) (T := TX7) (N := 13) (o := 0) (ty := .array .int) (vs' := [gvl w (12, 0), gvl w (13, 0), gvl w (14, 0), gvl w (7, 0), gvl w (15, 0), gvl w (16, 0), gvl w (17, 0), gvl w (18, 0), .null, .int 0, .int 0, .int 0, .int 0]) dX7_init_69 rfl (by decide) win7 tyX7_ok nmX7 rfl kw_368 (by decide +kernel) (gn_arr w) (gf_arr w) (Int.le_refl 0) ha (by omega) ((kU_n (by omega)).trans ((kU_n (by omega)).trans ((kU_n (by omega)).trans ((kU_n (by omega)).trans ((kU_n (by omega)).trans kU_s))))) rfl rfl ?_
  refine kJ_f (f' := kU (kU (kU (kU (kU (kU (kF w) 0 (.inr (7, [gvl w (12, 0), gvl w (13, 0), gvl w (14, 0), gvl w (7, 0), gvl w (15, 0), gvl w (16, 0), gvl w (17, 0), gvl w (18, 0), .null, .int 0, .int 0, .int 0, .int 0]))) 1 (kA w 9 6 5 (0) 0)) 2 (kA w 10 24 2 (0) 0)) 3 (kA w 11 2 0 (0) 0)) 26 (kI w 13 24 0)) 28 (kI w 15 3 0)) (by first | with_reducible rfl | (funext j; simp only [kU]; (repeat' split) <;> first | omega | rfl)) ?_
  refine k_aload_n h 72 (t := 7) (z := 0) dX7_init_72 rfl ?_
  refine k_bipush h 73 dX7_init_73 (by decide) ?_
  refine k_newz h hA 75 (k := 16) (N := 8) (z := 0) (ty := .int) dX7_init_75 rfl kv_250 (fun _ => rfl) (fun _ _ h9 => h9) (kZ (w := w) rfl rfl (fun _ => rfl)) rfl (by decide) (by decide) ⟨by decide, by decide, by decide⟩ (by decide) (hlay 16 0 (by decide)) rfl ((kU_n (by omega)).trans ((kU_n (by omega)).trans ((kU_n (by omega)).trans ((kU_n (by omega)).trans ((kU_n (by omega)).trans ((kU_n (by omega)).trans (rfl))))))) ⟨by omega, by omega⟩ ?_
  refine k_putf h hA hI 77 (k := 7) (j := 8) (C := RX7) (T := TX7) (N := 13) (o := 0) (ty := .array .int) (vs' := [gvl w (12, 0), gvl w (13, 0), gvl w (14, 0), gvl w (7, 0), gvl w (15, 0), gvl w (16, 0), gvl w (17, 0), gvl w (18, 0), gvl w (19, 0), .int 0, .int 0, .int 0, .int 0]) dX7_init_77 rfl (by decide) win7 tyX7_ok nmX7 rfl kw_369 (by decide +kernel) (gn_arr w) (gf_arr w) (Int.le_refl 0) ha (by omega) ((kU_n (by omega)).trans ((kU_n (by omega)).trans ((kU_n (by omega)).trans ((kU_n (by omega)).trans ((kU_n (by omega)).trans kU_s))))) rfl rfl ?_
  refine kJ_f (f' := kU (kU (kU (kU (kU (kU (kF w) 0 (.inr (7, [gvl w (12, 0), gvl w (13, 0), gvl w (14, 0), gvl w (7, 0), gvl w (15, 0), gvl w (16, 0), gvl w (17, 0), gvl w (18, 0), gvl w (19, 0), .int 0, .int 0, .int 0, .int 0]))) 1 (kA w 9 6 5 (0) 0)) 2 (kA w 10 24 2 (0) 0)) 3 (kA w 11 2 0 (0) 0)) 26 (kI w 13 24 0)) 28 (kI w 15 3 0)) (by first | with_reducible rfl | (funext j; simp only [kU]; (repeat' split) <;> first | omega | rfl)) ?_
  refine k_iconst h 80 dX7_init_80 ?_
  refine k_istore_n h 81 dX7_init_81 (Nat.le_of_ble_eq_true rfl) rfl (L' := [(10, 0), (0, 0)]) rfl ?_
  suffices Kn : KJ X (233) (2985) 108 [(10, 0), (0, 6)] [] (234) (kU (kU (kU (kU (kU (kF w) 0 (.inr (7, [gvl w (12, 0), gvl w (13, 0), gvl w (14, 0), gvl w (7, 0), gvl w (15, 0), gvl w (16, 0), gvl w (17, 0), gvl w (18, 0), gvl w (19, 0), .int 0, .int 0, .int 0, .int 0]))) 2 (kA w 10 24 2 (0) 0)) 3 (kA w 11 2 0 (0) 0)) 26 (kI w 13 24 0)) 28 (kI w 15 3 0)) by
    have e1 : kA w 9 6 5 (0) ((6 : Nat) : Int) = kF w (1) := (kA_e (st := s0) (z := 0) rfl rfl (fun j hj => by show (j : Int) = 0 + (j : Int); omega) (Int.le_refl 0)).trans (kfa (k := 9) (z := 0) ⟨by decide, by decide, by decide⟩ (by decide)).symm
    have loop : ∀ (m i : Nat), i + m = 6 → KJ X (29 + 34 * i) (261 + 454 * i) 82 [(10, 0), (0, (i : Int))] [] (30 + 34 * i) (kU (kU (kU (kU (kU (kU (kF w) 0 (.inr (7, [gvl w (12, 0), gvl w (13, 0), gvl w (14, 0), gvl w (7, 0), gvl w (15, 0), gvl w (16, 0), gvl w (17, 0), gvl w (18, 0), gvl w (19, 0), .int 0, .int 0, .int 0, .int 0]))) 1 (kA w 9 6 5 (0) ((i : Int)))) 2 (kA w 10 24 2 (0) 0)) 3 (kA w 11 2 0 (0) 0)) 26 (kI w 13 24 0)) 28 (kI w 15 3 0)) := by
      intro m
      induction m with
      | zero =>
        intro i hi
        obtain rfl : i = 6 := by omega
        refine k_iload_n h 82 (z := ((6 : Nat) : Int)) dX7_init_82 rfl ?_
        refine k_bipush h 83 dX7_init_83 (by decide) ?_
        refine k_icmp_ge h 85 108 (gRi (by omega)) (gRi (by omega)) dX7_init_85 (by decide) (fun hg => ?_) (fun hg => ?_)
        · refine kJ_c (by omega) (by omega) rfl (by omega) ?_ Kn
          rw [e1]
          exact Eq.trans (b := kU (kU (kU (kU (kU (kU (kF w) 0 (.inr (7, [gvl w (12, 0), gvl w (13, 0), gvl w (14, 0), gvl w (7, 0), gvl w (15, 0), gvl w (16, 0), gvl w (17, 0), gvl w (18, 0), gvl w (19, 0), .int 0, .int 0, .int 0, .int 0]))) 2 (kA w 10 24 2 (0) 0)) 3 (kA w 11 2 0 (0) 0)) 26 (kI w 13 24 0)) 28 (kI w 15 3 0)) (1) (kF w (1))) (by first | with_reducible rfl | (funext j; simp only [kU]; (repeat' split) <;> first | omega | rfl)) (kU_id ((kU_n (by omega)).trans ((kU_n (by omega)).trans ((kU_n (by omega)).trans ((kU_n (by omega)).trans ((kU_n (by omega)).trans (rfl)))))))
        · omega
      | succ m ih =>
        intro i hi
        refine k_iload_n h 82 (z := (i : Int)) dX7_init_82 rfl ?_
        refine k_bipush h 83 dX7_init_83 (by decide) ?_
        refine k_icmp_ge h 85 108 (gRi (by omega)) (gRi (by omega)) dX7_init_85 (by decide) (fun hg => ?_) (fun hg => ?_)
        · omega
        · have hi9 : i < 6 := by omega
          have hoE : 30 + 34 * i = 30 + 34 * (0 + (i : Int)).toNat := by omega
          have haE : w.2.1 5 (0 + (i : Int)) = bs + (30 + 34 * i) := by rw [hlay 5 _ (by decide), hoE]; rfl
          have heE : kF w (30 + 34 * i) = .inr (5, [gvl w (0, (0 + (i : Int))), gvl w (20, (0 + (i : Int))), .int 0, .int 0, .int 0, .int 0]) := by rw [hoE]; exact kf5 ⟨by omega, by omega⟩
          have hFi : kF w (30 + 34 * i) = kF w (30 + 34 * i) := rfl
          refine k_aload_n h 88 (t := 7) (z := 0) dX7_init_88 rfl ?_
          refine k_getf h hA 89 (k := 7) (j := 0) (C := RX7) (T := TX7) (N := 13) (o := 0) (q := (12, 0)) dX7_init_89 rfl (by decide) win7 kw_361 (Int.le_refl 0) ha (by omega) ((kU_n (by omega)).trans ((kU_n (by omega)).trans ((kU_n (by omega)).trans ((kU_n (by omega)).trans ((kU_n (by omega)).trans kU_s))))) rfl ?_
          refine k_iload_n h 92 (z := (i : Int)) dX7_init_92 rfl ?_
          refine k_new h hA 93 (k := 5) (N := 6) (z := 0 + (i : Int)) (C := "Pagewright$Space") (T := TX5) (vs := [.int 0, .null, .int 0, .int 0, .int 0, .int 0]) dX7_init_93 rfl win5 tyX5_ok (by decide +kernel) kw_125 kv_178 kw_104 (by omega) haE ⟨by omega, by omega⟩ ?_
          refine k_dup h 96 dX7_init_96 (by show _ + 3 ≠ 2; omega) ?_
          refine k_iload_n h 97 (z := (i : Int)) dX7_init_97 rfl ?_
          refine k_call h hx hO 98 (k := 5) (z := 0 + (i : Int)) (as := [(0, (i : Int))]) dX7_init_98 (c5_init hl hlay (F := kU (kU (kU (kU (kU (kU (kF w) 0 (.inr (7, [gvl w (12, 0), gvl w (13, 0), gvl w (14, 0), gvl w (7, 0), gvl w (15, 0), gvl w (16, 0), gvl w (17, 0), gvl w (18, 0), gvl w (19, 0), .int 0, .int 0, .int 0, .int 0]))) 1 (kA w 9 6 5 (0) ((i : Int)))) 2 (kA w 10 24 2 (0) 0)) 3 (kA w 11 2 0 (0) 0)) 26 (kI w 13 24 0)) 28 (kI w 15 3 0)) (o := 30 + 34 * i) (n := 30 + 34 * i + 1) (z := 0 + (i : Int)) (v := (i : Int)) ⟨by omega, by omega⟩ hoE rfl (fun j h1 h2 => ((kU_n (by omega)).trans ((kU_n (by omega)).trans ((kU_n (by omega)).trans ((kU_n (by omega)).trans ((kU_n (by omega)).trans ((kU_n (by omega)).trans (rfl)))))))) (by omega)) km5 kw_179 (by omega) (by decide) rfl (Nat.le_of_ble_eq_true rfl) ⟨by omega, by omega⟩ rfl rfl ?_
          rw [kU_id ((kU_n (by omega)).trans ((kU_n (by omega)).trans ((kU_n (by omega)).trans ((kU_n (by omega)).trans ((kU_n (by omega)).trans ((kU_n (by omega)).trans (hFi)))))))]
          refine k_aast h hA 101 (k := 9) (ke := 5) (o := 1) (oe := 30 + 34 * i) (N := 6) (z := 0) (ze := 0 + (i : Int)) (g' := fun j => if (j : Int) < (i : Int) + 1 then some (w.2.1 5 (0 + j)) else none) dX7_init_101 (fun _ => rfl) rfl (Int.le_refl 0) (hlay 9 0 (by decide)) (by omega) ((kU_n (by omega)).trans ((kU_n (by omega)).trans ((kU_n (by omega)).trans ((kU_n (by omega)).trans kU_s)))) (by omega) haE (by omega) ((kU_n (by omega)).trans ((kU_n (by omega)).trans ((kU_n (by omega)).trans ((kU_n (by omega)).trans ((kU_n (by omega)).trans ((kU_n (by omega)).trans (hFi.trans heE))))))) ⟨by omega, by omega⟩ (by decide) (fun j => kA_s j) ?_
          refine kJ_f (f' := kU (kU (kU (kU (kU (kU (kF w) 0 (.inr (7, [gvl w (12, 0), gvl w (13, 0), gvl w (14, 0), gvl w (7, 0), gvl w (15, 0), gvl w (16, 0), gvl w (17, 0), gvl w (18, 0), gvl w (19, 0), .int 0, .int 0, .int 0, .int 0]))) 1 (kA w 9 6 5 (0) ((i : Int) + 1))) 2 (kA w 10 24 2 (0) 0)) 3 (kA w 11 2 0 (0) 0)) 26 (kI w 13 24 0)) 28 (kI w 15 3 0)) (by first | with_reducible rfl | (funext j; simp only [kU]; (repeat' split) <;> first | omega | rfl)) ?_
          refine k_iinc h 102 dX7_init_102 rfl rfl (L' := [(10, 0), (0, (i : Int) + 1)]) rfl ?_
          refine k_goto h 105 82 dX7_init_105 (by decide) ?_
          exact kJ_c (by omega) (by omega) rfl (by omega) rfl (ih (i + 1) (by omega))
    exact kJ_c rfl rfl rfl rfl rfl (loop 6 0 (by omega))
  refine k_iconst h 108 dX7_init_108 ?_
  refine k_istore_n h 109 dX7_init_109 (Nat.le_of_ble_eq_true rfl) rfl (L' := [(10, 0), (0, 0)]) rfl ?_
  suffices Kn : KJ X (257) (3273) 136 [(10, 0), (0, 24)] [] (258) (kU (kU (kU (kU (kF w) 0 (.inr (7, [gvl w (12, 0), gvl w (13, 0), gvl w (14, 0), gvl w (7, 0), gvl w (15, 0), gvl w (16, 0), gvl w (17, 0), gvl w (18, 0), gvl w (19, 0), .int 0, .int 0, .int 0, .int 0]))) 3 (kA w 11 2 0 (0) 0)) 26 (kI w 13 24 0)) 28 (kI w 15 3 0)) by
    have e1 : kA w 10 24 2 (0) ((24 : Nat) : Int) = kF w (2) := (kA_e (st := s0) (z := 0) rfl rfl (fun j hj => by show (j : Int) = 0 + (j : Int); omega) (Int.le_refl 0)).trans (kfa (k := 10) (z := 0) ⟨by decide, by decide, by decide⟩ (by decide)).symm
    have loop : ∀ (m i : Nat), i + m = 24 → KJ X (233 + 1 * i) (2985 + 12 * i) 110 [(10, 0), (0, (i : Int))] [] (234 + 1 * i) (kU (kU (kU (kU (kU (kF w) 0 (.inr (7, [gvl w (12, 0), gvl w (13, 0), gvl w (14, 0), gvl w (7, 0), gvl w (15, 0), gvl w (16, 0), gvl w (17, 0), gvl w (18, 0), gvl w (19, 0), .int 0, .int 0, .int 0, .int 0]))) 2 (kA w 10 24 2 (0) ((i : Int)))) 3 (kA w 11 2 0 (0) 0)) 26 (kI w 13 24 0)) 28 (kI w 15 3 0)) := by
      intro m
      induction m with
      | zero =>
        intro i hi
        obtain rfl : i = 24 := by omega
        refine k_iload_n h 110 (z := ((24 : Nat) : Int)) dX7_init_110 rfl ?_
        refine k_bipush h 111 dX7_init_111 (by decide) ?_
        refine k_icmp_ge h 113 136 (gRi (by omega)) (gRi (by omega)) dX7_init_113 (by decide) (fun hg => ?_) (fun hg => ?_)
        · refine kJ_c (by omega) (by omega) rfl (by omega) ?_ Kn
          rw [e1]
          exact Eq.trans (b := kU (kU (kU (kU (kU (kF w) 0 (.inr (7, [gvl w (12, 0), gvl w (13, 0), gvl w (14, 0), gvl w (7, 0), gvl w (15, 0), gvl w (16, 0), gvl w (17, 0), gvl w (18, 0), gvl w (19, 0), .int 0, .int 0, .int 0, .int 0]))) 3 (kA w 11 2 0 (0) 0)) 26 (kI w 13 24 0)) 28 (kI w 15 3 0)) (2) (kF w (2))) (by first | with_reducible rfl | (funext j; simp only [kU]; (repeat' split) <;> first | omega | rfl)) (kU_id ((kU_n (by omega)).trans ((kU_n (by omega)).trans ((kU_n (by omega)).trans ((kU_n (by omega)).trans (rfl))))))
        · omega
      | succ m ih =>
        intro i hi
        refine k_iload_n h 110 (z := (i : Int)) dX7_init_110 rfl ?_
        refine k_bipush h 111 dX7_init_111 (by decide) ?_
        refine k_icmp_ge h 113 136 (gRi (by omega)) (gRi (by omega)) dX7_init_113 (by decide) (fun hg => ?_) (fun hg => ?_)
        · omega
        · have hi9 : i < 24 := by omega
          have hoE : 234 + 1 * i = 234 + (0 + (i : Int)).toNat := by omega
          have haE : w.2.1 2 (0 + (i : Int)) = bs + (234 + 1 * i) := by rw [hlay 2 _ (by decide), hoE]; rfl
          have heE : kF w (234 + 1 * i) = .inr (2, [gvl w (0, (0 + (i : Int))), gvl w (0, 0), .int 0, .int 0, .int 0, .int 0, .int 0, .int 0, .int 0, .int 0, .int 0, .int 0]) := by rw [hoE]; exact kf2 ⟨by omega, by omega⟩
          have hFi : kF w (234 + 1 * i) = kF w (234 + 1 * i) := rfl
          refine k_aload_n h 116 (t := 7) (z := 0) dX7_init_116 rfl ?_
          refine k_getf h hA 117 (k := 7) (j := 1) (C := RX7) (T := TX7) (N := 13) (o := 0) (q := (13, 0)) dX7_init_117 rfl (by decide) win7 kw_362 (Int.le_refl 0) ha (by omega) ((kU_n (by omega)).trans ((kU_n (by omega)).trans ((kU_n (by omega)).trans ((kU_n (by omega)).trans kU_s)))) rfl ?_
          refine k_iload_n h 120 (z := (i : Int)) dX7_init_120 rfl ?_
          refine k_new h hA 121 (k := 2) (N := 12) (z := 0 + (i : Int)) (C := "Pagewright$Page") (T := TX2) (vs := [.int 0, .int 0, .int 0, .int 0, .int 0, .int 0, .int 0, .int 0, .int 0, .int 0, .int 0, .int 0]) dX7_init_121 rfl win2 tyX2_ok (by decide +kernel) kw_127 kv_275 kw_106 (by omega) haE ⟨by omega, by omega⟩ ?_
          refine k_dup h 124 dX7_init_124 (by show _ + 3 ≠ 2; omega) ?_
          refine k_iload_n h 125 (z := (i : Int)) dX7_init_125 rfl ?_
          refine k_call h hx hO 126 (k := 2) (z := 0 + (i : Int)) (as := [(0, (i : Int))]) dX7_init_126 (c2_init hl hlay (F := kU (kU (kU (kU (kU (kF w) 0 (.inr (7, [gvl w (12, 0), gvl w (13, 0), gvl w (14, 0), gvl w (7, 0), gvl w (15, 0), gvl w (16, 0), gvl w (17, 0), gvl w (18, 0), gvl w (19, 0), .int 0, .int 0, .int 0, .int 0]))) 2 (kA w 10 24 2 (0) ((i : Int)))) 3 (kA w 11 2 0 (0) 0)) 26 (kI w 13 24 0)) 28 (kI w 15 3 0)) (o := 234 + 1 * i) (n := 234 + 1 * i + 1) (z := 0 + (i : Int)) (v := (i : Int)) ⟨by omega, by omega⟩ hoE (by omega) (by omega)) km2 kw_276 (by omega) (by decide) rfl (Nat.le_of_ble_eq_true rfl) ⟨by omega, by omega⟩ rfl rfl ?_
          rw [kU_id ((kU_n (by omega)).trans ((kU_n (by omega)).trans ((kU_n (by omega)).trans ((kU_n (by omega)).trans ((kU_n (by omega)).trans (hFi))))))]
          refine k_aast h hA 129 (k := 10) (ke := 2) (o := 2) (oe := 234 + 1 * i) (N := 24) (z := 0) (ze := 0 + (i : Int)) (g' := fun j => if (j : Int) < (i : Int) + 1 then some (w.2.1 2 (0 + j)) else none) dX7_init_129 (fun _ => rfl) rfl (Int.le_refl 0) (hlay 10 0 (by decide)) (by omega) ((kU_n (by omega)).trans ((kU_n (by omega)).trans ((kU_n (by omega)).trans kU_s))) (by omega) haE (by omega) ((kU_n (by omega)).trans ((kU_n (by omega)).trans ((kU_n (by omega)).trans ((kU_n (by omega)).trans ((kU_n (by omega)).trans (hFi.trans heE)))))) ⟨by omega, by omega⟩ (by decide) (fun j => kA_s j) ?_
          refine kJ_f (f' := kU (kU (kU (kU (kU (kF w) 0 (.inr (7, [gvl w (12, 0), gvl w (13, 0), gvl w (14, 0), gvl w (7, 0), gvl w (15, 0), gvl w (16, 0), gvl w (17, 0), gvl w (18, 0), gvl w (19, 0), .int 0, .int 0, .int 0, .int 0]))) 2 (kA w 10 24 2 (0) ((i : Int) + 1))) 3 (kA w 11 2 0 (0) 0)) 26 (kI w 13 24 0)) 28 (kI w 15 3 0)) (by first | with_reducible rfl | (funext j; simp only [kU]; (repeat' split) <;> first | omega | rfl)) ?_
          refine k_iinc h 130 dX7_init_130 rfl rfl (L' := [(10, 0), (0, (i : Int) + 1)]) rfl ?_
          refine k_goto h 133 110 dX7_init_133 (by decide) ?_
          exact kJ_c (by omega) (by omega) rfl (by omega) rfl (ih (i + 1) (by omega))
    exact kJ_c rfl rfl rfl rfl rfl (loop 24 0 (by omega))
  refine k_iconst h 136 dX7_init_136 ?_
  refine k_istore_n h 137 dX7_init_137 (Nat.le_of_ble_eq_true rfl) rfl (L' := [(10, 0), (0, 0)]) rfl ?_
  suffices Kn : KJ X (269) (3311) 165 [(10, 0), (0, 2)] [] (270) (kU (kU (kU (kF w) 0 (.inr (7, [gvl w (12, 0), gvl w (13, 0), gvl w (14, 0), gvl w (7, 0), gvl w (15, 0), gvl w (16, 0), gvl w (17, 0), gvl w (18, 0), gvl w (19, 0), .int 0, .int 0, .int 0, .int 0]))) 26 (kI w 13 24 0)) 28 (kI w 15 3 0)) by
    have e1 : kA w 11 2 0 (0) ((2 : Nat) : Int) = kF w (3) := (kA_e (st := s0) (z := 0) rfl rfl (fun j hj => by show (j : Int) = 0 + (j : Int); omega) (Int.le_refl 0)).trans (kfa (k := 11) (z := 0) ⟨by decide, by decide, by decide⟩ (by decide)).symm
    have loop : ∀ (m i : Nat), i + m = 2 → KJ X (257 + 6 * i) (3273 + 19 * i) 138 [(10, 0), (0, (i : Int))] [] (258 + 6 * i) (kU (kU (kU (kU (kF w) 0 (.inr (7, [gvl w (12, 0), gvl w (13, 0), gvl w (14, 0), gvl w (7, 0), gvl w (15, 0), gvl w (16, 0), gvl w (17, 0), gvl w (18, 0), gvl w (19, 0), .int 0, .int 0, .int 0, .int 0]))) 3 (kA w 11 2 0 (0) ((i : Int)))) 26 (kI w 13 24 0)) 28 (kI w 15 3 0)) := by
      intro m
      induction m with
      | zero =>
        intro i hi
        obtain rfl : i = 2 := by omega
        refine k_iload_n h 138 (z := ((2 : Nat) : Int)) dX7_init_138 rfl ?_
        refine k_iconst h 139 dX7_init_139 ?_
        refine k_icmp_ge h 140 165 (gRi (by omega)) (gRi (by omega)) dX7_init_140 (by decide) (fun hg => ?_) (fun hg => ?_)
        · refine kJ_c (by omega) (by omega) rfl (by omega) ?_ Kn
          rw [e1]
          exact Eq.trans (b := kU (kU (kU (kU (kF w) 0 (.inr (7, [gvl w (12, 0), gvl w (13, 0), gvl w (14, 0), gvl w (7, 0), gvl w (15, 0), gvl w (16, 0), gvl w (17, 0), gvl w (18, 0), gvl w (19, 0), .int 0, .int 0, .int 0, .int 0]))) 26 (kI w 13 24 0)) 28 (kI w 15 3 0)) (3) (kF w (3))) (by first | with_reducible rfl | (funext j; simp only [kU]; (repeat' split) <;> first | omega | rfl)) (kU_id ((kU_n (by omega)).trans ((kU_n (by omega)).trans ((kU_n (by omega)).trans (rfl)))))
        · omega
      | succ m ih =>
        intro i hi
        refine k_iload_n h 138 (z := (i : Int)) dX7_init_138 rfl ?_
        refine k_iconst h 139 dX7_init_139 ?_
        refine k_icmp_ge h 140 165 (gRi (by omega)) (gRi (by omega)) dX7_init_140 (by decide) (fun hg => ?_) (fun hg => ?_)
        · omega
        · have hi9 : i < 2 := by omega
          have hoE : 258 + 6 * i = 258 + 6 * (0 + (i : Int)).toNat := by omega
          have haE : w.2.1 0 (0 + (i : Int)) = bs + (258 + 6 * i) := by rw [hlay 0 _ (by decide), hoE]; rfl
          have heE : kF w (258 + 6 * i) = .inr (0, [gvl w (0, (0 + (i : Int)) + 1), gvl w (23, (0 + (i : Int))), .int 0]) := by rw [hoE]; exact kf0 ⟨by omega, by omega⟩
          have hFi : kF w (258 + 6 * i) = kF w (258 + 6 * i) := rfl
          have hsh : gShl 1 (i : Int) = 0 + (i : Int) + 1 := by rcases (show i = 0 ∨ i = 1 by omega) with rfl | rfl <;> decide +kernel
          refine k_aload_n h 143 (t := 7) (z := 0) dX7_init_143 rfl ?_
          refine k_getf h hA 144 (k := 7) (j := 2) (C := RX7) (T := TX7) (N := 13) (o := 0) (q := (14, 0)) dX7_init_144 rfl (by decide) win7 kw_363 (Int.le_refl 0) ha (by omega) ((kU_n (by omega)).trans ((kU_n (by omega)).trans ((kU_n (by omega)).trans kU_s))) rfl ?_
          refine k_iload_n h 147 (z := (i : Int)) dX7_init_147 rfl ?_
          refine k_new h hA 148 (k := 0) (N := 3) (z := 0 + (i : Int)) (C := "Pagewright$Cache") (T := TX0) (vs := [.int 0, .null, .int 0]) dX7_init_148 rfl win0 tyX0_ok (by decide +kernel) kw_129 kv_329 kw_107 (by omega) haE ⟨by omega, by omega⟩ ?_
          refine k_dup h 151 dX7_init_151 (by show _ + 3 ≠ 2; omega) ?_
          refine k_iconst h 152 dX7_init_152 ?_
          refine k_iload_n h 153 (z := (i : Int)) dX7_init_153 rfl ?_
          refine k_ishl h 154 dX7_init_154 ?_
          refine k_call h hx hO 155 (k := 0) (z := 0 + (i : Int)) (as := [(0, gShl 1 (i : Int))]) dX7_init_155 (c0_init hl hlay (F := kU (kU (kU (kU (kF w) 0 (.inr (7, [gvl w (12, 0), gvl w (13, 0), gvl w (14, 0), gvl w (7, 0), gvl w (15, 0), gvl w (16, 0), gvl w (17, 0), gvl w (18, 0), gvl w (19, 0), .int 0, .int 0, .int 0, .int 0]))) 3 (kA w 11 2 0 (0) ((i : Int)))) 26 (kI w 13 24 0)) 28 (kI w 15 3 0)) (o := 258 + 6 * i) (n := 258 + 6 * i + 1) (z := 0 + (i : Int)) (v := gShl 1 (i : Int)) ⟨by omega, by omega⟩ hoE rfl (fun j h1 h2 => ((kU_n (by omega)).trans ((kU_n (by omega)).trans ((kU_n (by omega)).trans ((kU_n (by omega)).trans (rfl)))))) hsh) km0 kw_330 (by omega) (by decide) rfl (Nat.le_of_ble_eq_true rfl) ⟨by omega, by omega⟩ rfl rfl ?_
          rw [kU_id ((kU_n (by omega)).trans ((kU_n (by omega)).trans ((kU_n (by omega)).trans ((kU_n (by omega)).trans (hFi)))))]
          refine k_aast h hA 158 (k := 11) (ke := 0) (o := 3) (oe := 258 + 6 * i) (N := 2) (z := 0) (ze := 0 + (i : Int)) (g' := fun j => if (j : Int) < (i : Int) + 1 then some (w.2.1 0 (0 + j)) else none) dX7_init_158 (fun _ => rfl) rfl (Int.le_refl 0) (hlay 11 0 (by decide)) (by omega) ((kU_n (by omega)).trans ((kU_n (by omega)).trans kU_s)) (by omega) haE (by omega) ((kU_n (by omega)).trans ((kU_n (by omega)).trans ((kU_n (by omega)).trans ((kU_n (by omega)).trans (hFi.trans heE))))) ⟨by omega, by omega⟩ (by decide) (fun j => kA_s j) ?_
          refine kJ_f (f' := kU (kU (kU (kU (kF w) 0 (.inr (7, [gvl w (12, 0), gvl w (13, 0), gvl w (14, 0), gvl w (7, 0), gvl w (15, 0), gvl w (16, 0), gvl w (17, 0), gvl w (18, 0), gvl w (19, 0), .int 0, .int 0, .int 0, .int 0]))) 3 (kA w 11 2 0 (0) ((i : Int) + 1))) 26 (kI w 13 24 0)) 28 (kI w 15 3 0)) (by first | with_reducible rfl | (funext j; simp only [kU]; (repeat' split) <;> first | omega | rfl)) ?_
          refine k_iinc h 159 dX7_init_159 rfl rfl (L' := [(10, 0), (0, (i : Int) + 1)]) rfl ?_
          refine k_goto h 162 138 dX7_init_162 (by decide) ?_
          exact kJ_c (by omega) (by omega) rfl (by omega) rfl (ih (i + 1) (by omega))
    exact kJ_c rfl rfl rfl rfl rfl (loop 2 0 (by omega))
  refine k_iconst h 165 dX7_init_165 ?_
  refine k_istore_n h 166 dX7_init_166 (Nat.le_of_ble_eq_true rfl) rfl (L' := [(10, 0), (0, 0)]) rfl ?_
  suffices Kn : KJ X (269) (3311) 186 [(10, 0), (0, 24)] [] (270) (kU (kU (kF w) 0 (.inr (7, [gvl w (12, 0), gvl w (13, 0), gvl w (14, 0), gvl w (7, 0), gvl w (15, 0), gvl w (16, 0), gvl w (17, 0), gvl w (18, 0), gvl w (19, 0), .int 0, .int 0, .int 0, .int 0]))) 28 (kI w 15 3 0)) by
    have e1 : kI w 13 24 ((24 : Nat) : Int) = kF w (26) := (kI_e (st := s0) (z := 0) rfl rfl (fun _ _ => rfl)).trans (kfa (k := 13) (z := 0) ⟨by decide, by decide, by decide⟩ (by decide)).symm
    have loop : ∀ (m i : Nat), i + m = 24 → KJ X (269) (3311) 167 [(10, 0), (0, (i : Int))] [] (270) (kU (kU (kU (kF w) 0 (.inr (7, [gvl w (12, 0), gvl w (13, 0), gvl w (14, 0), gvl w (7, 0), gvl w (15, 0), gvl w (16, 0), gvl w (17, 0), gvl w (18, 0), gvl w (19, 0), .int 0, .int 0, .int 0, .int 0]))) 26 (kI w 13 24 ((i : Int)))) 28 (kI w 15 3 0)) := by
      intro m
      induction m with
      | zero =>
        intro i hi
        obtain rfl : i = 24 := by omega
        refine k_iload_n h 167 (z := ((24 : Nat) : Int)) dX7_init_167 rfl ?_
        refine k_bipush h 168 dX7_init_168 (by decide) ?_
        refine k_icmp_ge h 170 186 (gRi (by omega)) (gRi (by omega)) dX7_init_170 (by decide) (fun hg => ?_) (fun hg => ?_)
        · refine kJ_c (by omega) (by omega) rfl (by omega) ?_ Kn
          rw [e1]
          exact Eq.trans (b := kU (kU (kU (kF w) 0 (.inr (7, [gvl w (12, 0), gvl w (13, 0), gvl w (14, 0), gvl w (7, 0), gvl w (15, 0), gvl w (16, 0), gvl w (17, 0), gvl w (18, 0), gvl w (19, 0), .int 0, .int 0, .int 0, .int 0]))) 28 (kI w 15 3 0)) (26) (kF w (26))) (by first | with_reducible rfl | (funext j; simp only [kU]; (repeat' split) <;> first | omega | rfl)) (kU_id ((kU_n (by omega)).trans ((kU_n (by omega)).trans (rfl))))
        · omega
      | succ m ih =>
        intro i hi
        refine k_iload_n h 167 (z := (i : Int)) dX7_init_167 rfl ?_
        refine k_bipush h 168 dX7_init_168 (by decide) ?_
        refine k_icmp_ge h 170 186 (gRi (by omega)) (gRi (by omega)) dX7_init_170 (by decide) (fun hg => ?_) (fun hg => ?_)
        · omega
        · have hi9 : i < 24 := by omega
          refine k_aload_n h 173 (t := 7) (z := 0) dX7_init_173 rfl ?_
          refine k_getf h hA 174 (k := 7) (j := 5) (C := RX7) (T := TX7) (N := 13) (o := 0) (q := (16, 0)) dX7_init_174 rfl (by decide) win7 kw_366 (Int.le_refl 0) ha (by omega) ((kU_n (by omega)).trans ((kU_n (by omega)).trans kU_s)) rfl ?_
          refine k_iload_n h 177 (z := (i : Int)) dX7_init_177 rfl ?_
          refine k_iconst h 178 dX7_init_178 ?_
          refine k_iast h hA 179 (k := 13) (N := 24) (o := 26) (z := 0) (g' := fun j : Nat => if j < 24 then gi (if (j : Int) < (i : Int) + 1 then -1 else 0) else 0) dX7_init_179 (fun _ => rfl) (Int.le_refl 0) (hlay 13 0 (by decide)) (by omega) ((kU_n (by omega)).trans kU_s) ⟨by omega, by omega⟩ (by decide) (fun j => kI_s ⟨by omega, by omega⟩ j) ?_
          refine kJ_f (f' := kU (kU (kU (kF w) 0 (.inr (7, [gvl w (12, 0), gvl w (13, 0), gvl w (14, 0), gvl w (7, 0), gvl w (15, 0), gvl w (16, 0), gvl w (17, 0), gvl w (18, 0), gvl w (19, 0), .int 0, .int 0, .int 0, .int 0]))) 26 (kI w 13 24 ((i : Int) + 1))) 28 (kI w 15 3 0)) (by first | with_reducible rfl | (funext j; simp only [kU]; (repeat' split) <;> first | omega | rfl)) ?_
          refine k_iinc h 180 dX7_init_180 rfl rfl (L' := [(10, 0), (0, (i : Int) + 1)]) rfl ?_
          refine k_goto h 183 167 dX7_init_183 (by decide) ?_
          exact kJ_c (by omega) (by omega) rfl (by omega) rfl (ih (i + 1) (by omega))
    exact kJ_c rfl rfl rfl rfl rfl (loop 24 0 (by omega))
  refine k_iconst h 186 dX7_init_186 ?_
  refine k_istore_n h 187 dX7_init_187 (Nat.le_of_ble_eq_true rfl) rfl (L' := [(10, 0), (0, 0)]) rfl ?_
  suffices Kn : KJ X (269) (3311) 206 [(10, 0), (0, 3)] [] (270) (kU (kF w) 0 (.inr (7, [gvl w (12, 0), gvl w (13, 0), gvl w (14, 0), gvl w (7, 0), gvl w (15, 0), gvl w (16, 0), gvl w (17, 0), gvl w (18, 0), gvl w (19, 0), .int 0, .int 0, .int 0, .int 0]))) by
    have e1 : kI w 15 3 ((3 : Nat) : Int) = kF w (28) := (kI_e (st := s0) (z := 0) rfl rfl (fun _ _ => rfl)).trans (kfa (k := 15) (z := 0) ⟨by decide, by decide, by decide⟩ (by decide)).symm
    have loop : ∀ (m i : Nat), i + m = 3 → KJ X (269) (3311) 188 [(10, 0), (0, (i : Int))] [] (270) (kU (kU (kF w) 0 (.inr (7, [gvl w (12, 0), gvl w (13, 0), gvl w (14, 0), gvl w (7, 0), gvl w (15, 0), gvl w (16, 0), gvl w (17, 0), gvl w (18, 0), gvl w (19, 0), .int 0, .int 0, .int 0, .int 0]))) 28 (kI w 15 3 ((i : Int)))) := by
      intro m
      induction m with
      | zero =>
        intro i hi
        obtain rfl : i = 3 := by omega
        refine k_iload_n h 188 (z := ((3 : Nat) : Int)) dX7_init_188 rfl ?_
        refine k_iconst h 189 dX7_init_189 ?_
        refine k_icmp_ge h 190 206 (gRi (by omega)) (gRi (by omega)) dX7_init_190 (by decide) (fun hg => ?_) (fun hg => ?_)
        · refine kJ_c (by omega) (by omega) rfl (by omega) ?_ Kn
          rw [e1]
          exact Eq.trans (b := kU (kU (kF w) 0 (.inr (7, [gvl w (12, 0), gvl w (13, 0), gvl w (14, 0), gvl w (7, 0), gvl w (15, 0), gvl w (16, 0), gvl w (17, 0), gvl w (18, 0), gvl w (19, 0), .int 0, .int 0, .int 0, .int 0]))) (28) (kF w (28))) (by first | with_reducible rfl | (funext j; simp only [kU]; (repeat' split) <;> first | omega | rfl)) (kU_id ((kU_n (by omega)).trans (rfl)))
        · omega
      | succ m ih =>
        intro i hi
        refine k_iload_n h 188 (z := (i : Int)) dX7_init_188 rfl ?_
        refine k_iconst h 189 dX7_init_189 ?_
        refine k_icmp_ge h 190 206 (gRi (by omega)) (gRi (by omega)) dX7_init_190 (by decide) (fun hg => ?_) (fun hg => ?_)
        · omega
        · have hi9 : i < 3 := by omega
          refine k_aload_n h 193 (t := 7) (z := 0) dX7_init_193 rfl ?_
          refine k_getf h hA 194 (k := 7) (j := 7) (C := RX7) (T := TX7) (N := 13) (o := 0) (q := (18, 0)) dX7_init_194 rfl (by decide) win7 kw_368 (Int.le_refl 0) ha (by omega) ((kU_n (by omega)).trans kU_s) rfl ?_
          refine k_iload_n h 197 (z := (i : Int)) dX7_init_197 rfl ?_
          refine k_iconst h 198 dX7_init_198 ?_
          refine k_iast h hA 199 (k := 15) (N := 3) (o := 28) (z := 0) (g' := fun j : Nat => if j < 3 then gi (if (j : Int) < (i : Int) + 1 then -1 else 0) else 0) dX7_init_199 (fun _ => rfl) (Int.le_refl 0) (hlay 15 0 (by decide)) (by omega) kU_s ⟨by omega, by omega⟩ (by decide) (fun j => kI_s ⟨by omega, by omega⟩ j) ?_
          rw [kU_kU]
          refine k_iinc h 200 dX7_init_200 rfl rfl (L' := [(10, 0), (0, (i : Int) + 1)]) rfl ?_
          refine k_goto h 203 188 dX7_init_203 (by decide) ?_
          exact kJ_c (by omega) (by omega) rfl (by omega) rfl (ih (i + 1) (by omega))
    exact kJ_c rfl rfl rfl rfl rfl (loop 3 0 (by omega))
  exact kJ_f (kU_id ((kf7 (z := 0) (by decide)).trans rfl)) (k_vret h hE 206 dX7_init_206 ⟨by omega, by omega⟩)
