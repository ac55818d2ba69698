theorem c5_init {l : Launch} {w : gW} {bs : Nat} (hl : l.stackTraces = false) (hlay : kLay w bs) {F : Nat → va_E} {n o : Nat} {z v : Int} (hz : 0 ≤ z ∧ z < 6) (ho : o = 30 + 34 * z.toNat) (hn : n = o + 1) (hF : ∀ j, n ≤ j → j < n + 33 → F j = kF w j) (hv : v = z) : kMet l w bs yX5_init cX5_init 3 2 33 448 n (kU F o (.inr (5, [.int 0, .null, .int 0, .int 0, .int 0, .int 0]))) [(8, z), (0, v)] (n + 33) (kU F o (kF w o)) := by
  refine k_start hl (by decide) rfl (Nat.le_of_ble_eq_true rfl) rfl fun X h hE => ?_
  have h : gOk X "Pagewright$Space" cX5_init 3 2 33 448 := h
  have hA := hE.at
  have hI := hE.i
  have hx := hE.x
  have hO := hE.o
  show KJ X 0 0 0 [(8, z), (0, v), (1, 0)] [] n (kU F o (.inr (5, [.int 0, .null, .int 0, .int 0, .int 0, .int 0])))
  have ha : w.2.1 5 z = bs + o := by rw [hlay 5 z (by decide), ho]; rfl
  have haA : w.2.1 17 z = bs + n := by rw [hlay 17 z (by decide), hn, ho]; show bs + (31 + 34 * z.toNat) = _; omega
  refine k_aload_n h 0 (t := 5) (z := z) dX5_init_0 rfl ?_
  refine k_objInit h 1 dX5_init_1 kw_182 kv_123 kv_124 hz.1 (by decide) rfl ?_
  refine k_aload_n h 4 (t := 5) (z := z) dX5_init_4 rfl ?_
  refine k_bipush h 5 dX5_init_5 (by decide) ?_
  refine k_newq h hA 7 (k := 17) (N := 32) (z := z) (C := "Pagewright$Entry") dX5_init_7 kw_183 hO (by decide) (fun _ => rfl) rfl (by decide) hz.1 haA ⟨by omega, by omega⟩ ?_
  rw [kA_0 (t := 1) (b := 32 * z)]
  refine k_putf h hA hI 10 (k := 5) (j := 1) (C := RX5) (T := TX5) (N := 6) (o := o) (ty := .array (.object "Pagewright$Entry")) (vs' := [.int 0, gvl w (20, z), .int 0, .int 0, .int 0, .int 0]) dX5_init_10 rfl (by decide) win5 tyX5_ok nmX5 rfl kw_253 (by decide +kernel) (gn_arr w) (gf_arr w) hz.1 ha (by omega) ((kU_n (by omega)).trans kU_s) rfl rfl ?_
  refine kJ_f (f' := kU (kU F o (.inr (5, [.int 0, gvl w (20, z), .int 0, .int 0, .int 0, .int 0]))) n (kA w 17 32 1 (32 * z) 0)) (by first | with_reducible rfl | (funext j; simp only [kU]; (repeat' split) <;> first | omega | rfl)) ?_
  refine k_aload_n h 13 (t := 5) (z := z) dX5_init_13 rfl ?_
  refine k_iload_n h 14 (z := v) dX5_init_14 rfl ?_
  refine k_putf h hA hI 15 (k := 5) (j := 0) (C := RX5) (T := TX5) (N := 6) (o := o) (ty := .int) (vs' := [gvl w (0, v), gvl w (20, z), .int 0, .int 0, .int 0, .int 0]) dX5_init_15 rfl (by decide) win5 tyX5_ok nmX5 rfl kw_251 (by decide +kernel) rfl rfl hz.1 ha (by omega) ((kU_n (by omega)).trans kU_s) rfl rfl ?_
  refine kJ_f (f' := kU (kU F o (.inr (5, [gvl w (0, v), gvl w (20, z), .int 0, .int 0, .int 0, .int 0]))) n (kA w 17 32 1 (32 * z) 0)) (by first | with_reducible rfl | (funext j; simp only [kU]; (repeat' split) <;> first | omega | rfl)) ?_
  refine k_iconst h 18 dX5_init_18 ?_
  refine k_istore_n h 19 dX5_init_19 (Nat.le_of_ble_eq_true rfl) rfl (L' := [(8, z), (0, v), (0, 0)]) rfl ?_
  suffices Kn : KJ X (33) (448) 53 [(8, z), (0, v), (0, 32)] [] (n + 1 + 32) (kU F o (.inr (5, [gvl w (0, v), gvl w (20, z), .int 0, .int 0, .int 0, .int 0]))) by
    have e1 : kA w 17 32 1 (32 * z) ((32 : Nat) : Int) = kF w (n) := by rw [hn, ho]; exact (kA_e (st := s0) (z := z) rfl rfl (fun j _ => rfl) (by omega)).trans ((kfa (k := 17) (z := z) ⟨by decide, hz⟩ (by decide)).symm.trans (congrArg (kF w) (by show 31 + 34 * z.toNat = _; omega)))
    have loop : ∀ (m i : Nat), i + m = 32 → KJ X (1 + 1 * i) (32 + 13 * i) 20 [(8, z), (0, v), (0, (i : Int))] [] (n + 1 + 1 * i) (kU (kU F o (.inr (5, [gvl w (0, v), gvl w (20, z), .int 0, .int 0, .int 0, .int 0]))) n (kA w 17 32 1 (32 * z) ((i : Int)))) := by
      intro m
      induction m with
      | zero =>
        intro i hi
        obtain rfl : i = 32 := by omega
        refine k_iload_n h 20 (z := ((32 : Nat) : Int)) dX5_init_20 rfl ?_
        refine k_bipush h 21 dX5_init_21 (by decide) ?_
        refine k_icmp_ge h 23 53 (gRi (by omega)) (gRi (by omega)) dX5_init_23 (by decide) (fun hg => ?_) (fun hg => ?_)
        · refine kJ_c (by omega) (by omega) rfl (by omega) ?_ Kn
          rw [e1]
          exact Eq.trans (b := kU (kU F o (.inr (5, [gvl w (0, v), gvl w (20, z), .int 0, .int 0, .int 0, .int 0]))) (n) (kF w (n))) (by first | with_reducible rfl | (funext j; simp only [kU]; (repeat' split) <;> first | omega | rfl)) (kU_id ((kU_n (by omega)).trans (hF _ (by omega) (by omega))))
        · omega
      | succ m ih =>
        intro i hi
        refine k_iload_n h 20 (z := (i : Int)) dX5_init_20 rfl ?_
        refine k_bipush h 21 dX5_init_21 (by decide) ?_
        refine k_icmp_ge h 23 53 (gRi (by omega)) (gRi (by omega)) dX5_init_23 (by decide) (fun hg => ?_) (fun hg => ?_)
        · omega
        · have hi9 : i < 32 := by omega
          have hoE : n + 1 + 1 * i = 32 + 34 * ((32 * z + (i : Int)).toNat / 32) + (32 * z + (i : Int)).toNat % 32 := by omega
          have haE : w.2.1 1 (32 * z + (i : Int)) = bs + (n + 1 + 1 * i) := by rw [hlay 1 _ (by decide), hoE]; rfl
          have heE : kF w (n + 1 + 1 * i) = .inr (1, [gvl w (0, (32 * z + (i : Int)) / 4), .int 0, .int 0, gvl w (0, -1), .int 0, .int 0, .int 0, gvl w (0, 0), .null, .int 0, .null, .int 0, .int 0]) := by rw [hoE]; exact kf1 ⟨by omega, by omega⟩
          have hFi : F (n + 1 + 1 * i) = kF w (n + 1 + 1 * i) := hF _ (by omega) (by omega)
          refine k_aload_n h 26 (t := 5) (z := z) dX5_init_26 rfl ?_
          refine k_getf h hA 27 (k := 5) (j := 1) (C := RX5) (T := TX5) (N := 6) (o := o) (q := (20, z)) dX5_init_27 rfl (by decide) win5 kw_253 hz.1 ha (by omega) ((kU_n (by omega)).trans kU_s) rfl ?_
          refine k_iload_n h 30 (z := (i : Int)) dX5_init_30 rfl ?_
          refine k_new h hA 31 (k := 1) (N := 13) (z := 32 * z + (i : Int)) (C := "Pagewright$Entry") (T := TX1) (vs := [.int 0, .int 0, .int 0, .int 0, .int 0, .int 0, .int 0, .int 0, .null, .int 0, .null, .int 0, .int 0]) dX5_init_31 rfl win1 tyX1_ok (by decide +kernel) kw_183 kv_185 kw_105 (by omega) haE ⟨by omega, by omega⟩ ?_
          refine k_dup h 34 dX5_init_34 (by show _ + 3 ≠ 2; omega) ?_
          refine k_iload_n h 35 (z := v) dX5_init_35 rfl ?_
          refine k_bipush h 36 dX5_init_36 (by decide) ?_
          refine k_imul h 38 dX5_init_38 ?_
          refine k_iload_n h 39 (z := (i : Int)) dX5_init_39 rfl ?_
          refine k_iadd h 40 dX5_init_40 ?_
          refine k_iconst h 41 dX5_init_41 ?_
          refine k_idiv h 42 dX5_init_42 ⟨by omega, by omega⟩ ⟨by omega, by omega⟩ ?_
          refine k_call h hx hO 43 (k := 1) (z := 32 * z + (i : Int)) (as := [(0, (v * 32 + (i : Int)) / 4)]) dX5_init_43 (c1_init hl hlay (F := kU (kU F o (.inr (5, [gvl w (0, v), gvl w (20, z), .int 0, .int 0, .int 0, .int 0]))) n (kA w 17 32 1 (32 * z) ((i : Int)))) (o := n + 1 + 1 * i) (n := n + 1 + 1 * i + 1) (z := 32 * z + (i : Int)) (v := (v * 32 + (i : Int)) / 4) ⟨by omega, by omega⟩ hoE (by omega) (by omega)) km1 kw_186 (by omega) (by decide) rfl (Nat.le_of_ble_eq_true rfl) ⟨by omega, by omega⟩ rfl rfl ?_
          rw [kU_id ((kU_n (by omega)).trans ((kU_n (by omega)).trans (hFi)))]
          refine k_aast h hA 46 (k := 17) (ke := 1) (o := n) (oe := n + 1 + 1 * i) (N := 32) (z := z) (ze := 32 * z + (i : Int)) (g' := fun j => if (j : Int) < (i : Int) + 1 then some (w.2.1 1 (32 * z + j)) else none) dX5_init_46 (fun _ => rfl) rfl hz.1 haA (by omega) kU_s (by omega) haE (by omega) ((kU_n (by omega)).trans ((kU_n (by omega)).trans (hFi.trans heE))) ⟨by omega, by omega⟩ (by decide) (fun j => kA_s j) ?_
          rw [kU_kU]
          refine k_iinc h 47 dX5_init_47 rfl rfl (L' := [(8, z), (0, v), (0, (i : Int) + 1)]) rfl ?_
          refine k_goto h 50 20 dX5_init_50 (by decide) ?_
          exact kJ_c (by omega) (by omega) rfl (by omega) rfl (ih (i + 1) (by omega))
    exact kJ_c rfl rfl rfl rfl rfl (loop 32 0 (by omega))
  refine kJ_c rfl rfl rfl (by omega) ?_ (k_vret h hE 53 dX5_init_53 ⟨by omega, by omega⟩)
  subst hv ho
  rw [kf5 hz]
theorem c0_init {l : Launch} {w : gW} {bs : Nat} (hl : l.stackTraces = false) (hlay : kLay w bs) {F : Nat → va_E} {n o : Nat} {z v : Int} (hz : 0 ≤ z ∧ z < 2) (ho : o = 258 + 6 * z.toNat) (hn : n = o + 1) (hF : ∀ j, n ≤ j → j < n + 5 → F j = kF w j) (hv : v = z + 1) : kMet l w bs yX0_init cX0_init 3 2 5 16 n (kU F o (.inr (0, [.int 0, .null, .int 0]))) [(3, z), (0, v)] (n + 5) (kU F o (kF w o)) := by
  refine k_start hl (by decide) rfl (Nat.le_of_ble_eq_true rfl) rfl fun X h hE => ?_
  have h : gOk X "Pagewright$Cache" cX0_init 3 2 5 16 := h
  have hA := hE.at
  have hI := hE.i
  have hx := hE.x
  have hO := hE.o
  show KJ X 0 0 0 [(3, z), (0, v), (1, 0)] [] n (kU F o (.inr (0, [.int 0, .null, .int 0])))
  have ha : w.2.1 0 z = bs + o := by rw [hlay 0 z (by decide), ho]; rfl
  have haA : w.2.1 20 z = bs + n := by rw [hlay 20 z (by decide), hn, ho]; show bs + (259 + 6 * z.toNat) = _; omega
  refine k_aload_n h 0 (t := 0) (z := z) dX0_init_0 rfl ?_
  refine k_objInit h 1 dX0_init_1 kw_333 kv_123 kv_124 hz.1 (by decide) rfl ?_
  refine k_aload_n h 4 (t := 0) (z := z) dX0_init_4 rfl ?_
  refine k_iconst h 5 dX0_init_5 ?_
  refine k_newq h hA 6 (k := 20) (N := 4) (z := z) (C := "Pagewright$Translation") dX0_init_6 kw_334 hO (by decide) (fun _ => rfl) rfl (by decide) hz.1 haA ⟨by omega, by omega⟩ ?_
  rw [kA_0 (t := 6) (b := 4 * z)]
  refine k_putf h hA hI 9 (k := 0) (j := 1) (C := RX0) (T := TX0) (N := 3) (o := o) (ty := .array (.object "Pagewright$Translation")) (vs' := [.int 0, gvl w (23, z), .int 0]) dX0_init_9 rfl (by decide) win0 tyX0_ok nmX0 rfl kw_352 (by decide +kernel) (gn_arr w) (gf_arr w) hz.1 ha (by omega) ((kU_n (by omega)).trans kU_s) rfl rfl ?_
  refine kJ_f (f' := kU (kU F o (.inr (0, [.int 0, gvl w (23, z), .int 0]))) n (kA w 20 4 6 (4 * z) 0)) (by first | with_reducible rfl | (funext j; simp only [kU]; (repeat' split) <;> first | omega | rfl)) ?_
  refine k_aload_n h 12 (t := 0) (z := z) dX0_init_12 rfl ?_
  refine k_iload_n h 13 (z := v) dX0_init_13 rfl ?_
  refine k_putf h hA hI 14 (k := 0) (j := 0) (C := RX0) (T := TX0) (N := 3) (o := o) (ty := .int) (vs' := [gvl w (0, v), gvl w (23, z), .int 0]) dX0_init_14 rfl (by decide) win0 tyX0_ok nmX0 rfl kw_351 (by decide +kernel) rfl rfl hz.1 ha (by omega) ((kU_n (by omega)).trans kU_s) rfl rfl ?_
  refine kJ_f (f' := kU (kU F o (.inr (0, [gvl w (0, v), gvl w (23, z), .int 0]))) n (kA w 20 4 6 (4 * z) 0)) (by first | with_reducible rfl | (funext j; simp only [kU]; (repeat' split) <;> first | omega | rfl)) ?_
  refine k_iconst h 17 dX0_init_17 ?_
  refine k_istore_n h 18 dX0_init_18 (Nat.le_of_ble_eq_true rfl) rfl (L' := [(3, z), (0, v), (0, 0)]) rfl ?_
  suffices Kn : KJ X (5) (16) 43 [(3, z), (0, v), (0, 4)] [] (n + 1 + 4) (kU F o (.inr (0, [gvl w (0, v), gvl w (23, z), .int 0]))) by
    have e1 : kA w 20 4 6 (4 * z) ((4 : Nat) : Int) = kF w (n) := by rw [hn, ho]; exact (kA_e (st := s0) (z := z) rfl rfl (fun j hj => by show (if 0 ≤ 4 * z + (j : Int) ∧ 4 * z + (j : Int) ≤ 7 then 4 * z + (j : Int) else 0) = _; have hj2 : j < 4 := hj; rw [if_pos ⟨by omega, by omega⟩]) (by omega)).trans ((kfa (k := 20) (z := z) ⟨by decide, hz⟩ (by decide)).symm.trans (congrArg (kF w) (by show 259 + 6 * z.toNat = _; omega)))
    have loop : ∀ (m i : Nat), i + m = 4 → KJ X (1 + 1 * i) (4 + 3 * i) 19 [(3, z), (0, v), (0, (i : Int))] [] (n + 1 + 1 * i) (kU (kU F o (.inr (0, [gvl w (0, v), gvl w (23, z), .int 0]))) n (kA w 20 4 6 (4 * z) ((i : Int)))) := by
      intro m
      induction m with
      | zero =>
        intro i hi
        obtain rfl : i = 4 := by omega
        refine k_iload_n h 19 (z := ((4 : Nat) : Int)) dX0_init_19 rfl ?_
        refine k_iconst h 20 dX0_init_20 ?_
        refine k_icmp_ge h 21 43 (gRi (by omega)) (gRi (by omega)) dX0_init_21 (by decide) (fun hg => ?_) (fun hg => ?_)
        · refine kJ_c (by omega) (by omega) rfl (by omega) ?_ Kn
          rw [e1]
          exact Eq.trans (b := kU (kU F o (.inr (0, [gvl w (0, v), gvl w (23, z), .int 0]))) (n) (kF w (n))) (by first | with_reducible rfl | (funext j; simp only [kU]; (repeat' split) <;> first | omega | rfl)) (kU_id ((kU_n (by omega)).trans (hF _ (by omega) (by omega))))
        · omega
      | succ m ih =>
        intro i hi
        refine k_iload_n h 19 (z := (i : Int)) dX0_init_19 rfl ?_
        refine k_iconst h 20 dX0_init_20 ?_
        refine k_icmp_ge h 21 43 (gRi (by omega)) (gRi (by omega)) dX0_init_21 (by decide) (fun hg => ?_) (fun hg => ?_)
        · omega
        · have hi9 : i < 4 := by omega
          have hoE : n + 1 + 1 * i = 260 + 6 * ((4 * z + (i : Int)).toNat / 4) + (4 * z + (i : Int)).toNat % 4 := by omega
          have haE : w.2.1 6 (4 * z + (i : Int)) = bs + (n + 1 + 1 * i) := by rw [hlay 6 _ (by decide), hoE]; rfl
          have heE : kF w (n + 1 + 1 * i) = .inr (6, [.null, .int 0, .int 0]) := by rw [hoE]; exact kf6 ⟨by omega, by omega⟩
          have hFi : F (n + 1 + 1 * i) = kF w (n + 1 + 1 * i) := hF _ (by omega) (by omega)
          refine k_aload_n h 24 (t := 0) (z := z) dX0_init_24 rfl ?_
          refine k_getf h hA 25 (k := 0) (j := 1) (C := RX0) (T := TX0) (N := 3) (o := o) (q := (23, z)) dX0_init_25 rfl (by decide) win0 kw_352 hz.1 ha (by omega) ((kU_n (by omega)).trans kU_s) rfl ?_
          refine k_iload_n h 28 (z := (i : Int)) dX0_init_28 rfl ?_
          refine k_new h hA 29 (k := 6) (N := 3) (z := 4 * z + (i : Int)) (C := "Pagewright$Translation") (T := TX6) (vs := [.null, .int 0, .int 0]) dX0_init_29 rfl win6 tyX6_ok (by decide +kernel) kw_334 kv_336 kw_108 (by omega) haE ⟨by omega, by omega⟩ ?_
          refine k_dup h 32 dX0_init_32 (by show _ + 3 ≠ 2; omega) ?_
          refine k_callN h hx hO 33 (host := "Pagewright") (k := 6) (z := 4 * z + (i : Int)) (as := []) dX0_init_33 (c6_init hl hlay (F := kU (kU (kU F o (.inr (0, [gvl w (0, v), gvl w (23, z), .int 0]))) n (kA w 20 4 6 (4 * z) ((i : Int)))) (n + 1 + 1 * i) (.inr (6, [.null, .int 0, .int 0]))) (n := n + 1 + 1 * i + 1) (z := 4 * z + (i : Int)) (by omega)) km6 (by decide +kernel) (by omega) (by decide) rfl (Nat.le_of_ble_eq_true rfl) ⟨by omega, by omega⟩ rfl rfl ?_
          rw [kU_id ((kU_n (by omega)).trans ((kU_n (by omega)).trans ((hFi.trans heE))))]
          refine k_aast h hA 36 (k := 20) (ke := 6) (o := n) (oe := n + 1 + 1 * i) (N := 4) (z := z) (ze := 4 * z + (i : Int)) (g' := fun j => if (j : Int) < (i : Int) + 1 then some (w.2.1 6 (4 * z + j)) else none) dX0_init_36 (fun _ => rfl) rfl hz.1 haA (by omega) kU_s (by omega) haE (by omega) ((kU_n (by omega)).trans ((kU_n (by omega)).trans (hFi.trans heE))) ⟨by omega, by omega⟩ (by decide) (fun j => kA_s j) ?_
          rw [kU_kU]
          refine k_iinc h 37 dX0_init_37 rfl rfl (L' := [(3, z), (0, v), (0, (i : Int) + 1)]) rfl ?_
          refine k_goto h 40 19 dX0_init_40 (by decide) ?_
          exact kJ_c (by omega) (by omega) rfl (by omega) rfl (ih (i + 1) (by omega))
    exact kJ_c rfl rfl rfl rfl rfl (loop 4 0 (by omega))
  refine kJ_c rfl rfl rfl (by omega) ?_ (k_vret h hE 43 dX0_init_43 ⟨by omega, by omega⟩)
  subst hv ho
  rw [kf0 hz]
theorem c4_init {l : Launch} {w : gW} {bs : Nat} (hl : l.stackTraces = false) (hlay : kLay w bs) {F : Nat → va_E} (hF : ∀ j, 5 ≤ j → j < 25 → F j = kF w j) : kMet l w bs yX4_init cX4_init 2 2 20 118 5 (kU F 4 (.inr (4, [.null, .null, .int 0, .int 0]))) [(7, 0)] 25 (kU F 4 (kF w 4)) := by
  refine k_start hl (by decide) rfl (Nat.le_of_ble_eq_true rfl) rfl fun X h hE => ?_
  have h : gOk X "Pagewright$Records" cX4_init 2 2 20 118 := h
  have hA := hE.at
  have hI := hE.i
  have hx := hE.x
  have hO := hE.o
  show KJ X 0 0 0 [(7, 0), (1, 0)] [] 5 (kU F 4 (.inr (4, [.null, .null, .int 0, .int 0])))
  have ha : w.2.1 4 0 = bs + 4 := hlay 4 0 (by decide)
  have haA : w.2.1 18 0 = bs + 5 := hlay 18 0 (by decide)
  refine k_aload_n h 0 (t := 4) (z := 0) dX4_init_0 rfl ?_
  refine k_objInit h 1 dX4_init_1 kw_136 kv_123 kv_124 (Int.le_refl 0) (by decide) rfl ?_
  refine k_aload_n h 4 (t := 4) (z := 0) dX4_init_4 rfl ?_
  refine k_bipush h 5 dX4_init_5 (by decide) ?_
  refine k_newq h hA 7 (k := 18) (N := 18) (z := 0) (C := "Pagewright$Record") dX4_init_7 kw_137 hO (by decide) (fun _ => rfl) rfl (by decide) (Int.le_refl 0) haA ⟨by omega, by omega⟩ ?_
  rw [kA_0 (t := 3) (b := 0)]
  refine k_putf h hA hI 10 (k := 4) (j := 0) (C := RX4) (T := TX4) (N := 4) (o := 4) (ty := .array (.object "Pagewright$Record")) (vs' := [gvl w (21, 0), .null, .int 0, .int 0]) dX4_init_10 rfl (by decide) win4 tyX4_ok nmX4 rfl kw_164 (by decide +kernel) (gn_arr w) (gf_arr w) (Int.le_refl 0) ha (by omega) ((kU_n (by omega)).trans kU_s) rfl rfl ?_
  refine kJ_f (f' := kU (kU F 4 (.inr (4, [gvl w (21, 0), .null, .int 0, .int 0]))) 5 (kA w 18 18 3 (0) 0)) (by first | with_reducible rfl | (funext j; simp only [kU]; (repeat' split) <;> first | omega | rfl)) ?_
  refine k_aload_n h 13 (t := 4) (z := 0) dX4_init_13 rfl ?_
  refine k_bipush h 14 dX4_init_14 (by decide) ?_
  refine k_newz h hA 16 (k := 19) (N := 10) (z := 0) (ty := .boolean) dX4_init_16 rfl kv_163 (fun _ => rfl) (fun _ _ h9 => h9) (kZ (w := w) rfl rfl (fun _ => rfl)) rfl (by decide) (by decide) ⟨by decide, by decide, by decide⟩ (by decide) (hlay 19 0 (by decide)) rfl ((kU_n (by omega)).trans ((kU_n (by omega)).trans (hF _ (by omega) (by omega)))) ⟨by omega, by omega⟩ ?_
  refine k_putf h hA hI 18 (k := 4) (j := 1) (C := RX4) (T := TX4) (N := 4) (o := 4) (ty := .array .boolean) (vs' := [gvl w (21, 0), gvl w (22, 0), .int 0, .int 0]) dX4_init_18 rfl (by decide) win4 tyX4_ok nmX4 rfl kw_165 (by decide +kernel) (gn_arr w) (gf_arr w) (Int.le_refl 0) ha (by omega) ((kU_n (by omega)).trans kU_s) rfl rfl ?_
  refine kJ_f (f' := kU (kU F 4 (.inr (4, [gvl w (21, 0), gvl w (22, 0), .int 0, .int 0]))) 5 (kA w 18 18 3 (0) 0)) (by first | with_reducible rfl | (funext j; simp only [kU]; (repeat' split) <;> first | omega | rfl)) ?_
  refine k_iconst h 21 dX4_init_21 ?_
  refine k_istore_n h 22 dX4_init_22 (Nat.le_of_ble_eq_true rfl) rfl (L' := [(7, 0), (0, 0)]) rfl ?_
  suffices Kn : KJ X (20) (118) 48 [(7, 0), (0, 18)] [] (25) (kU F 4 (.inr (4, [gvl w (21, 0), gvl w (22, 0), .int 0, .int 0]))) by
    have e1 : kA w 18 18 3 (0) ((18 : Nat) : Int) = kF w (5) := (kA_e (st := s0) (z := 0) rfl rfl (fun j hj => by show (j : Int) = 0 + (j : Int); omega) (Int.le_refl 0)).trans (kfa (k := 18) (z := 0) ⟨by decide, by decide, by decide⟩ (by decide)).symm
    have loop : ∀ (m i : Nat), i + m = 18 → KJ X (2 + 1 * i) (28 + 5 * i) 23 [(7, 0), (0, (i : Int))] [] (7 + 1 * i) (kU (kU F 4 (.inr (4, [gvl w (21, 0), gvl w (22, 0), .int 0, .int 0]))) 5 (kA w 18 18 3 (0) ((i : Int)))) := by
      intro m
      induction m with
      | zero =>
        intro i hi
        obtain rfl : i = 18 := by omega
        refine k_iload_n h 23 (z := ((18 : Nat) : Int)) dX4_init_23 rfl ?_
        refine k_bipush h 24 dX4_init_24 (by decide) ?_
        refine k_icmp_ge h 26 48 (gRi (by omega)) (gRi (by omega)) dX4_init_26 (by decide) (fun hg => ?_) (fun hg => ?_)
        · refine kJ_c (by omega) (by omega) rfl (by omega) ?_ Kn
          rw [e1]
          exact Eq.trans (b := kU (kU F 4 (.inr (4, [gvl w (21, 0), gvl w (22, 0), .int 0, .int 0]))) (5) (kF w (5))) (by first | with_reducible rfl | (funext j; simp only [kU]; (repeat' split) <;> first | omega | rfl)) (kU_id ((kU_n (by omega)).trans (hF _ (by omega) (by omega))))
        · omega
      | succ m ih =>
        intro i hi
        refine k_iload_n h 23 (z := (i : Int)) dX4_init_23 rfl ?_
        refine k_bipush h 24 dX4_init_24 (by decide) ?_
        refine k_icmp_ge h 26 48 (gRi (by omega)) (gRi (by omega)) dX4_init_26 (by decide) (fun hg => ?_) (fun hg => ?_)
        · omega
        · have hi9 : i < 18 := by omega
          have hoE : 7 + 1 * i = 7 + (0 + (i : Int)).toNat := by omega
          have haE : w.2.1 3 (0 + (i : Int)) = bs + (7 + 1 * i) := by rw [hlay 3 _ (by decide), hoE]; rfl
          have heE : kF w (7 + 1 * i) = .inr (3, [.int 0, .int 0, .int 0, .int 0, .int 0]) := by rw [hoE]; exact kf3 ⟨by omega, by omega⟩
          have hFi : F (7 + 1 * i) = kF w (7 + 1 * i) := hF _ (by omega) (by omega)
          refine k_aload_n h 29 (t := 4) (z := 0) dX4_init_29 rfl ?_
          refine k_getf h hA 30 (k := 4) (j := 0) (C := RX4) (T := TX4) (N := 4) (o := 4) (q := (21, 0)) dX4_init_30 rfl (by decide) win4 kw_164 (Int.le_refl 0) ha (by omega) ((kU_n (by omega)).trans kU_s) rfl ?_
          refine k_iload_n h 33 (z := (i : Int)) dX4_init_33 rfl ?_
          refine k_new h hA 34 (k := 3) (N := 5) (z := 0 + (i : Int)) (C := "Pagewright$Record") (T := TX3) (vs := [.int 0, .int 0, .int 0, .int 0, .int 0]) dX4_init_34 rfl win3 tyX3_ok (by decide +kernel) kw_137 kv_139 kw_103 (by omega) haE ⟨by omega, by omega⟩ ?_
          refine k_dup h 37 dX4_init_37 (by show _ + 3 ≠ 2; omega) ?_
          refine k_callN h hx hO 38 (host := "Pagewright") (k := 3) (z := 0 + (i : Int)) (as := []) dX4_init_38 (c3_init hl hlay (F := kU (kU (kU F 4 (.inr (4, [gvl w (21, 0), gvl w (22, 0), .int 0, .int 0]))) 5 (kA w 18 18 3 (0) ((i : Int)))) (7 + 1 * i) (.inr (3, [.int 0, .int 0, .int 0, .int 0, .int 0]))) (n := 7 + 1 * i + 1) (z := 0 + (i : Int)) (by omega)) km3 (by decide +kernel) (by omega) (by decide) rfl (Nat.le_of_ble_eq_true rfl) ⟨by omega, by omega⟩ rfl rfl ?_
          rw [kU_id ((kU_n (by omega)).trans ((kU_n (by omega)).trans ((hFi.trans heE))))]
          refine k_aast h hA 41 (k := 18) (ke := 3) (o := 5) (oe := 7 + 1 * i) (N := 18) (z := 0) (ze := 0 + (i : Int)) (g' := fun j => if (j : Int) < (i : Int) + 1 then some (w.2.1 3 (0 + j)) else none) dX4_init_41 (fun _ => rfl) rfl (Int.le_refl 0) haA (by omega) kU_s (by omega) haE (by omega) ((kU_n (by omega)).trans ((kU_n (by omega)).trans (hFi.trans heE))) ⟨by omega, by omega⟩ (by decide) (fun j => kA_s j) ?_
          rw [kU_kU]
          refine k_iinc h 42 dX4_init_42 rfl rfl (L' := [(7, 0), (0, (i : Int) + 1)]) rfl ?_
          refine k_goto h 45 23 dX4_init_45 (by decide) ?_
          exact kJ_c (by omega) (by omega) rfl (by omega) rfl (ih (i + 1) (by omega))
    exact kJ_c rfl rfl rfl rfl rfl (loop 18 0 (by omega))
  refine kJ_f ?_ (k_vret h hE 48 dX4_init_48 ⟨by omega, by omega⟩)
  rw [show kF w 4 = .inr (4, [gvl w (21, (0)), gvl w (22, (0)), .int 0, .int 0]) from kf4 (z := 0) (by decide)]
