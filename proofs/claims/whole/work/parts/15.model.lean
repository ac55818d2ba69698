-- PagewrightModel.enlist
def FX8_enlist (a_f a_l : Int) (s : S2) : Option (Int × S2) :=
  gd (0 ≤ a_f ∧ a_f ≤ 23) <| gd (0 ≤ a_l ∧ a_l ≤ 1) <| bn (upd2 s 123 a_f a_l) fun s1 => gd (0 ≤ (24 * a_l) + (s1 129 a_l) ∧ (24 * a_l) + (s1 129 a_l) ≤ 47) <| bn (upd2 s1 128 ((24 * a_l) + (s1 129 a_l)) a_f) fun s2 => gd (0 ≤ (s2 129 a_l) + 1 ∧ (s2 129 a_l) + 1 ≤ 24) <| bn (upd2 s2 129 a_l ((s2 129 a_l) + 1)) fun s3 => some (0, s3)
set_option maxRecDepth 100000 in
set_option maxHeartbeats 4000000 in
theorem ctX8_enlist {l : Launch} {w : gW} {bs : Nat} (hl : l.stackTraces = false) {a_f a_l : Int} {s m s0 : S2} {r0 : Int} (hF : FX8_enlist a_f a_l s = some (r0, s0)) : gMet l w bs yX8_enlist cX8_enlist 3 none 0 0 [(11, 0), (0, a_f), (0, a_l)] (m, s) 0 none (m, s0) := by
  unfold FX8_enlist at hF
  obtain ⟨q_a_f, hF⟩ := gd_some hF
  obtain ⟨q_a_l, hF⟩ := gd_some hF
  refine g_start hl (by decide) (Nat.le_of_ble_eq_true rfl) rfl fun X h hE => ?_
  have h : gOk X "PagewrightModel" cX8_enlist 3 0 0 0 := h
  have hE : gEnd X l w bs 0 none 0 none (m, s0) := hE
  show G X 0 0 0 [(11, 0), (0, a_f), (0, a_l)] [] (m, s)
  refine g_aload_nq h 0 dX8_enlist_0 rfl rfl ?_
  refine gf_M_list h 1 dX8_enlist_1 kw_1033 ?_
  refine g_iload_n h 4 dX8_enlist_4 rfl ?_
  refine g_iload_n h 5 dX8_enlist_5 rfl ?_
  obtain ⟨s1, es1, hF⟩ := bn_ex hF
  refine as_M_list h 6 dX8_enlist_6 (by omega) (by omega) ?_
  rw [← es1]
  refine g_aload_nq h 7 dX8_enlist_7 rfl rfl ?_
  refine gf_M_row h 8 dX8_enlist_8 kw_1038 ?_
  refine G_typ fun hT_s1 => ?_
  have t1 : 0 ≤ s1 129 a_l ∧ s1 129 a_l ≤ 24 := hT_s1.2 129 a_l
  refine g_bipush h 11 dX8_enlist_11 (by decide) ?_
  refine g_iload_n h 13 dX8_enlist_13 rfl ?_
  refine g_imul h 14 dX8_enlist_14 ?_
  refine g_aload_nq h 15 dX8_enlist_15 rfl rfl ?_
  refine gf_M_many h 16 dX8_enlist_16 kw_1039 ?_
  refine g_iload_n h 19 dX8_enlist_19 rfl ?_
  refine al_M_many h 20 dX8_enlist_20 (by omega) ?_
  refine g_iadd h 21 dX8_enlist_21 ?_
  obtain ⟨q1, hF⟩ := gd_some hF
  refine g_iload_n h 22 dX8_enlist_22 rfl ?_
  obtain ⟨s2, es2, hF⟩ := bn_ex hF
  refine as_M_row h 23 dX8_enlist_23 (by omega) (by omega) ?_
  rw [← es2]
  refine g_aload_nq h 24 dX8_enlist_24 rfl rfl ?_
  refine gf_M_many h 25 dX8_enlist_25 kw_1039 ?_
  refine g_iload_n h 28 dX8_enlist_28 rfl ?_
  refine G_typ fun hT_s2 => ?_
  have t2 : 0 ≤ s2 129 a_l ∧ s2 129 a_l ≤ 24 := hT_s2.2 129 a_l
  refine g_dup2 h 29 dX8_enlist_29 (show (0 : Nat) ≠ 2 by decide) (show (47 : Nat) ≠ 2 by decide) ?_
  refine al_M_many h 30 dX8_enlist_30 (by omega) ?_
  refine g_iconst h 31 dX8_enlist_31 ?_
  refine g_iadd h 32 dX8_enlist_32 ?_
  obtain ⟨q2, hF⟩ := gd_some hF
  obtain ⟨s3, es3, hF⟩ := bn_ex hF
  refine as_M_many h 33 dX8_enlist_33 (by omega) (by omega) ?_
  rw [← es3]
  obtain ⟨e1, e2⟩ := some_2 hF
  rw [← e2] at hE
  exact g_vret h 34 dX8_enlist_34 hE rfl ⟨(Nat.le_of_ble_eq_true rfl), (Nat.le_of_ble_eq_true rfl)⟩
-- PagewrightModel.has
set_option maxRecDepth 100000 in
theorem cpX8_has {l : Launch} {w : gW} {bs : Nat} (hl : l.stackTraces = false) {a_e a_f : Int} {s m : S2} (q_a_e : 0 ≤ a_e ∧ a_e ≤ 191) (q_a_f : (-2147483648) ≤ a_f ∧ a_f ≤ 2147483647) : gMet l w bs yX8_has cX8_has 3 (some FieldType.boolean) 0 0 [(11, 0), (0, a_e), (0, a_f)] (m, s) 0 (some (0, (if ((0 < s 111 a_e) ∧ (s 116 a_e = 1)) ∧ (s 117 a_e = a_f) then 1 else 0))) (m, s) := by
  refine g_start hl (by decide) (Nat.le_of_ble_eq_true rfl) rfl fun X h hE => ?_
  have h : gOk X "PagewrightModel" cX8_has 3 0 0 0 := h
  show G X 0 0 0 [(11, 0), (0, a_e), (0, a_f)] [] (m, s)
  refine G_typ fun hT_s => ?_
  have t1 : 0 ≤ s 111 a_e ∧ s 111 a_e ≤ 3 := hT_s.2 111 a_e
  have t2 : 0 ≤ s 116 a_e ∧ s 116 a_e ≤ 2 := hT_s.2 116 a_e
  have t3 : 0 ≤ s 117 a_e ∧ s 117 a_e ≤ 23 := hT_s.2 117 a_e
  suffices J1 : ∀ v1 : Int, v1 = (if ((0 < s 111 a_e) ∧ (s 116 a_e = 1)) ∧ (s 117 a_e = a_f) then 1 else 0) → G X 0 0 34 [(11, 0), (0, a_e), (0, a_f)] [(0, v1)] (m, s) by
    have J2 : ((0 < s 111 a_e) ∧ (s 116 a_e = 1)) ∧ (s 117 a_e = a_f) → G X 0 0 29 [(11, 0), (0, a_e), (0, a_f)] [] (m, s) := by
      intro h4
      refine g_iconst h 29 dX8_has_29 ?_
      refine g_goto h 30 34 dX8_has_30 (by decide) ?_
      exact J1 _ (if_pos h4).symm
    have J3 : ¬ (((0 < s 111 a_e) ∧ (s 116 a_e = 1)) ∧ (s 117 a_e = a_f)) → G X 0 0 33 [(11, 0), (0, a_e), (0, a_f)] [] (m, s) := by
      intro h5
      refine g_iconst h 33 dX8_has_33 ?_
      exact J1 _ (if_neg h5).symm
    refine g_aload_nq h 0 dX8_has_0 rfl rfl ?_
    refine gf_M_rights h 1 dX8_has_1 kw_1021 ?_
    refine g_iload_n h 4 dX8_has_4 rfl ?_
    refine al_M_rights h 5 dX8_has_5 (by omega) ?_
    refine g_if_le h 6 33 (gRi (by omega)) dX8_has_6 (by decide) (fun h1 => ?_) (fun h1 => ?_)
    · exact J3 (fun q => (fun q => (Int.not_lt.mpr h1) q.1) q.1)
    · refine g_aload_nq h 9 dX8_has_9 rfl rfl ?_
      refine gf_M_state h 10 dX8_has_10 kw_1026 ?_
      refine g_iload_n h 13 dX8_has_13 rfl ?_
      refine al_M_state h 14 dX8_has_14 (by omega) ?_
      refine g_iconst h 15 dX8_has_15 ?_
      refine g_icmp_ne h 16 33 (gRi (by omega)) (gRi (by omega)) dX8_has_16 (by decide) (fun h2 => ?_) (fun h2 => ?_)
      · exact J3 (fun q => (fun q => h2 q.2) q.1)
      · refine g_aload_nq h 19 dX8_has_19 rfl rfl ?_
        refine gf_M_page h 20 dX8_has_20 kw_1027 ?_
        refine g_iload_n h 23 dX8_has_23 rfl ?_
        refine al_M_page h 24 dX8_has_24 (by omega) ?_
        refine g_iload_n h 25 dX8_has_25 rfl ?_
        refine g_icmp_ne h 26 33 (gRi (by omega)) (gRi (by omega)) dX8_has_26 (by decide) (fun h3 => ?_) (fun h3 => ?_)
        · exact J3 (fun q => h3 q.2)
        · exact J2 ⟨⟨h1, h2⟩, h3⟩
  intro v1 e1
  subst e1
  exact g_iret h 34 dX8_has_34 hE rfl (g_nb (by first | omega | (split <;> decide))) ⟨(Nat.le_of_ble_eq_true rfl), (Nat.le_of_ble_eq_true rfl)⟩
-- PagewrightModel.in
set_option maxRecDepth 100000 in
theorem cpX8_in {l : Launch} {w : gW} {bs : Nat} (hl : l.stackTraces = false) {a_v a_low a_high : Int} {s m : S2} (q_a_v : (-2147483648) ≤ a_v ∧ a_v ≤ 2147483647) (q_a_low : (-2147483648) ≤ a_low ∧ a_low ≤ 2147483647) (q_a_high : (-2147483648) ≤ a_high ∧ a_high ≤ 2147483647) : gMet l w bs yX8_in cX8_in 3 (some FieldType.boolean) 0 0 [(0, a_v), (0, a_low), (0, a_high)] (m, s) 0 (some (0, (if (a_low ≤ a_v) ∧ (a_v ≤ a_high) then 1 else 0))) (m, s) := by
  refine g_start hl (by decide) (Nat.le_of_ble_eq_true rfl) rfl fun X h hE => ?_
  have h : gOk X "PagewrightModel" cX8_in 3 0 0 0 := h
  show G X 0 0 0 [(0, a_v), (0, a_low), (0, a_high)] [] (m, s)
  suffices J1 : ∀ v1 : Int, v1 = (if (a_low ≤ a_v) ∧ (a_v ≤ a_high) then 1 else 0) → G X 0 0 15 [(0, a_v), (0, a_low), (0, a_high)] [(0, v1)] (m, s) by
    have J2 : (a_low ≤ a_v) ∧ (a_v ≤ a_high) → G X 0 0 10 [(0, a_v), (0, a_low), (0, a_high)] [] (m, s) := by
      intro h3
      refine g_iconst h 10 dX8_in_10 ?_
      refine g_goto h 11 15 dX8_in_11 (by decide) ?_
      exact J1 _ (if_pos h3).symm
    have J3 : ¬ ((a_low ≤ a_v) ∧ (a_v ≤ a_high)) → G X 0 0 14 [(0, a_v), (0, a_low), (0, a_high)] [] (m, s) := by
      intro h4
      refine g_iconst h 14 dX8_in_14 ?_
      exact J1 _ (if_neg h4).symm
    refine g_iload_n h 0 dX8_in_0 rfl ?_
    refine g_iload_n h 1 dX8_in_1 rfl ?_
    refine g_icmp_lt h 2 14 (gRi (by omega)) (gRi (by omega)) dX8_in_2 (by decide) (fun h1 => ?_) (fun h1 => ?_)
    · exact J3 (fun q => (Int.not_le.mpr h1) q.1)
    · refine g_iload_n h 5 dX8_in_5 rfl ?_
      refine g_iload_n h 6 dX8_in_6 rfl ?_
      refine g_icmp_gt h 7 14 (gRi (by omega)) (gRi (by omega)) dX8_in_7 (by decide) (fun h2 => ?_) (fun h2 => ?_)
      · exact J3 (fun q => (Int.not_le.mpr h2) q.2)
      · exact J2 ⟨h1, h2⟩
  intro v1 e1
  subst e1
  exact g_iret h 15 dX8_in_15 hE rfl (g_nb (by first | omega | (split <;> decide))) ⟨(Nat.le_of_ble_eq_true rfl), (Nat.le_of_ble_eq_true rfl)⟩
-- PagewrightModel.unlist
def FX8_unlist (a_f : Int) (s : S2) : Option (Int × S2) :=
  gd (0 ≤ a_f ∧ a_f ≤ 23) <| gl2 1000 (fun k1 (x_to1 : Int) (x_k1 : Int) (s1 : S2) => if x_k1 < s1 129 (s 123 a_f) then gd (0 ≤ (24 * (s 123 a_f)) + x_to1 ∧ (24 * (s 123 a_f)) + x_to1 ≤ 47) <| bn (upd2 s1 128 ((24 * (s 123 a_f)) + x_to1) (s1 128 ((24 * (s 123 a_f)) + x_k1))) fun s2 => gd ((-2147483648) ≤ x_to1 + (if s1 128 ((24 * (s 123 a_f)) + x_k1) = a_f then 0 else 1) ∧ x_to1 + (if s1 128 ((24 * (s 123 a_f)) + x_k1) = a_f then 0 else 1) ≤ 2147483647) <| k1 (x_to1 + (if s1 128 ((24 * (s 123 a_f)) + x_k1) = a_f then 0 else 1)) (x_k1 + 1) s2 else gd (0 ≤ x_to1 ∧ x_to1 ≤ 24) <| bn (upd2 s1 129 (s 123 a_f) x_to1) fun s3 => some (0, s3)) 0 0 s
set_option maxRecDepth 100000 in
set_option maxHeartbeats 4000000 in
theorem ctX8_unlist {l : Launch} {w : gW} {bs : Nat} (hl : l.stackTraces = false) {a_f : Int} {s m s0 : S2} {r0 : Int} (hF : FX8_unlist a_f s = some (r0, s0)) : gMet l w bs yX8_unlist cX8_unlist 6 none 0 0 [(11, 0), (0, a_f)] (m, s) 0 none (m, s0) := by
  unfold FX8_unlist at hF
  obtain ⟨q_a_f, hF⟩ := gd_some hF
  refine g_start hl (by decide) (Nat.le_of_ble_eq_true rfl) rfl fun X h hE => ?_
  have h : gOk X "PagewrightModel" cX8_unlist 6 0 0 0 := h
  have hE : gEnd X l w bs 0 none 0 none (m, s0) := hE
  show G X 0 0 0 [(11, 0), (0, a_f), (1, 0), (1, 0), (1, 0), (1, 0)] [] (m, s)
  refine G_typ fun hT_s => ?_
  have t1 : 0 ≤ s 123 a_f ∧ s 123 a_f ≤ 1 := hT_s.2 123 a_f
  refine g_aload_nq h 0 dX8_unlist_0 rfl rfl ?_
  refine gf_M_list h 1 dX8_unlist_1 kw_1033 ?_
  refine g_iload_n h 4 dX8_unlist_4 rfl ?_
  refine al_M_list h 5 dX8_unlist_5 (by omega) ?_
  refine g_istore_n h 6 dX8_unlist_6 (Nat.le_of_ble_eq_true rfl) rfl (L' := [(11, 0), (0, a_f), (0, s 123 a_f), (1, 0), (1, 0), (1, 0)]) rfl ?_
  refine g_iconst h 7 dX8_unlist_7 ?_
  refine g_istore_n h 8 dX8_unlist_8 (Nat.le_of_ble_eq_true rfl) rfl (L' := [(11, 0), (0, a_f), (0, s 123 a_f), (0, 0), (1, 0), (1, 0)]) rfl ?_
  refine g_iconst h 9 dX8_unlist_9 ?_
  refine g_istore h 10 dX8_unlist_10 (Nat.le_of_ble_eq_true rfl) rfl (L' := [(11, 0), (0, a_f), (0, s 123 a_f), (0, 0), (0, 0), (1, 0)]) rfl ?_
  obtain ⟨f1, ef1, hF⟩ := glx2 hF
  have J7 : ∀ (n1 : Nat) (x_to1 x_k1 : Int) (s1 : S2), ((-2147483648) ≤ x_to1 ∧ x_to1 ≤ 2147483647) → (0 ≤ x_k1 ∧ x_k1 ≤ 24) → gl2 n1 f1 x_to1 x_k1 s1 = some (r0, s0) → G X 0 0 12 [(11, 0), (0, a_f), (0, s 123 a_f), (0, x_to1), (0, x_k1), (1, 0)] [] (m, s1) := by
    intro n1
    induction n1 with
    | zero => intro x_to1 x_k1 s1 _ _ hF; exact (gl2_0 hF).elim
    | succ n1 ih1 =>
      intro x_to1 x_k1 s1 q1 q2 hF
      obtain ⟨k1, ek1, hF⟩ := glu2 hF ef1
      refine G_typ fun hT_s1 => ?_
      have t2 : 0 ≤ s1 129 (s 123 a_f) ∧ s1 129 (s 123 a_f) ≤ 24 := hT_s1.2 129 (s 123 a_f)
      have J2 : x_k1 < s1 129 (s 123 a_f) → G X 0 0 23 [(11, 0), (0, a_f), (0, s 123 a_f), (0, x_to1), (0, x_k1), (1, 0)] [] (m, s1) := by
        intro h2
        have hF := ite_t h2 hF
        have t3 : 0 ≤ s1 128 ((24 * (s 123 a_f)) + x_k1) ∧ s1 128 ((24 * (s 123 a_f)) + x_k1) ≤ 23 := hT_s1.2 128 ((24 * (s 123 a_f)) + x_k1)
        refine g_aload_nq h 23 dX8_unlist_23 rfl rfl ?_
        refine gf_M_row h 24 dX8_unlist_24 kw_1038 ?_
        refine g_bipush h 27 dX8_unlist_27 (by decide) ?_
        refine g_iload_n h 29 dX8_unlist_29 rfl ?_
        refine g_imul h 30 dX8_unlist_30 ?_
        refine g_iload h 31 dX8_unlist_31 rfl ?_
        refine g_iadd h 33 dX8_unlist_33 ?_
        refine al_M_row h 34 dX8_unlist_34 (by omega) ?_
        refine g_istore h 35 dX8_unlist_35 (Nat.le_of_ble_eq_true rfl) rfl (L' := [(11, 0), (0, a_f), (0, s 123 a_f), (0, x_to1), (0, x_k1), (0, s1 128 ((24 * (s 123 a_f)) + x_k1))]) rfl ?_
        refine g_aload_nq h 37 dX8_unlist_37 rfl rfl ?_
        refine gf_M_row h 38 dX8_unlist_38 kw_1038 ?_
        refine g_bipush h 41 dX8_unlist_41 (by decide) ?_
        refine g_iload_n h 43 dX8_unlist_43 rfl ?_
        refine g_imul h 44 dX8_unlist_44 ?_
        refine g_iload_n h 45 dX8_unlist_45 rfl ?_
        refine g_iadd h 46 dX8_unlist_46 ?_
        obtain ⟨q3, hF⟩ := gd_some hF
        refine g_iload h 47 dX8_unlist_47 rfl ?_
        obtain ⟨s2, es2, hF⟩ := bn_ex hF
        refine as_M_row h 49 dX8_unlist_49 (by omega) (by omega) ?_
        rw [← es2]
        refine g_iload_n h 50 dX8_unlist_50 rfl ?_
        suffices J4 : ∀ v1 : Int, v1 = (if s1 128 ((24 * (s 123 a_f)) + x_k1) = a_f then 0 else 1) → G X 0 0 62 [(11, 0), (0, a_f), (0, s 123 a_f), (0, x_to1), (0, x_k1), (0, s1 128 ((24 * (s 123 a_f)) + x_k1))] [(0, v1), (0, x_to1)] (m, s2) by
          have J5 : s1 128 ((24 * (s 123 a_f)) + x_k1) = a_f → G X 0 0 57 [(11, 0), (0, a_f), (0, s 123 a_f), (0, x_to1), (0, x_k1), (0, s1 128 ((24 * (s 123 a_f)) + x_k1))] [(0, x_to1)] (m, s2) := by
            intro h4
            refine g_iconst h 57 dX8_unlist_57 ?_
            refine g_goto h 58 62 dX8_unlist_58 (by decide) ?_
            exact J4 _ (if_pos h4).symm
          have J6 : ¬ (s1 128 ((24 * (s 123 a_f)) + x_k1) = a_f) → G X 0 0 61 [(11, 0), (0, a_f), (0, s 123 a_f), (0, x_to1), (0, x_k1), (0, s1 128 ((24 * (s 123 a_f)) + x_k1))] [(0, x_to1)] (m, s2) := by
            intro h5
            refine g_iconst h 61 dX8_unlist_61 ?_
            exact J4 _ (if_neg h5).symm
          refine g_iload h 51 dX8_unlist_51 rfl ?_
          refine g_iload_n h 53 dX8_unlist_53 rfl ?_
          refine g_icmp_ne h 54 61 (gRi (by omega)) (gRi (by omega)) dX8_unlist_54 (by decide) (fun h3 => ?_) (fun h3 => ?_)
          · exact J6 h3
          · exact J5 h3
        intro v1 e1
        subst e1
        refine g_iadd h 62 dX8_unlist_62 ?_
        refine g_istore_n h 63 dX8_unlist_63 (Nat.le_of_ble_eq_true rfl) rfl (L' := [(11, 0), (0, a_f), (0, s 123 a_f), (0, x_to1 + (if s1 128 ((24 * (s 123 a_f)) + x_k1) = a_f then 0 else 1)), (0, x_k1), (0, s1 128 ((24 * (s 123 a_f)) + x_k1))]) rfl ?_
        refine g_iinc h 64 dX8_unlist_64 rfl rfl (L' := [(11, 0), (0, a_f), (0, s 123 a_f), (0, x_to1 + (if s1 128 ((24 * (s 123 a_f)) + x_k1) = a_f then 0 else 1)), (0, x_k1 + 1), (0, s1 128 ((24 * (s 123 a_f)) + x_k1))]) rfl ?_
        refine g_goto h 67 12 dX8_unlist_67 (by decide) ?_
        obtain ⟨q4, hF⟩ := gd_some hF
        refine G_weak (L' := [(11, 0), (0, a_f), (0, s 123 a_f), (0, x_to1 + (if s1 128 ((24 * (s 123 a_f)) + x_k1) = a_f then 0 else 1)), (0, x_k1 + 1), (1, 0)]) ⟨Or.inr rfl, Or.inr rfl, Or.inr rfl, Or.inr rfl, Or.inr rfl, Or.inl rfl, trivial⟩ ?_
        rw [ek1] at hF
        exact ih1 _ _ _ (by omega) (by omega) hF
      have J3 : ¬ (x_k1 < s1 129 (s 123 a_f)) → G X 0 0 70 [(11, 0), (0, a_f), (0, s 123 a_f), (0, x_to1), (0, x_k1), (1, 0)] [] (m, s1) := by
        intro h6
        have hF := ite_f h6 hF
        refine g_aload_nq h 70 dX8_unlist_70 rfl rfl ?_
        refine gf_M_many h 71 dX8_unlist_71 kw_1039 ?_
        refine g_iload_n h 74 dX8_unlist_74 rfl ?_
        refine g_iload_n h 75 dX8_unlist_75 rfl ?_
        obtain ⟨q5, hF⟩ := gd_some hF
        obtain ⟨s3, es3, hF⟩ := bn_ex hF
        refine as_M_many h 76 dX8_unlist_76 (by omega) (by omega) ?_
        rw [← es3]
        obtain ⟨e1, e2⟩ := some_2 hF
        rw [← e2] at hE
        exact g_vret h 77 dX8_unlist_77 hE rfl ⟨(Nat.le_of_ble_eq_true rfl), (Nat.le_of_ble_eq_true rfl)⟩
      refine g_iload h 12 dX8_unlist_12 rfl ?_
      refine g_aload_nq h 14 dX8_unlist_14 rfl rfl ?_
      refine gf_M_many h 15 dX8_unlist_15 kw_1039 ?_
      refine g_iload_n h 18 dX8_unlist_18 rfl ?_
      refine al_M_many h 19 dX8_unlist_19 (by omega) ?_
      refine g_icmp_ge h 20 70 (gRi (by omega)) (gRi (by omega)) dX8_unlist_20 (by decide) (fun h1 => ?_) (fun h1 => ?_)
      · exact J3 (Int.not_lt.mpr h1)
      · exact J2 h1
  exact J7 _ _ _ _ (by omega) (by omega) hF
-- PagewrightModel.entriesOf
def FX8_entriesOf (a_f : Int) (s : S2) : Option (Int × S2) :=
  rgd 0 192 <| gd (0 ≤ a_f ∧ a_f ≤ 23) <| gl2 1000 (fun k1 (x_n1 : Int) (x_e1 : Int) (s1 : S2) => if x_e1 < 192 then gd ((-2147483648) ≤ x_n1 + (if ((0 < s1 111 x_e1) ∧ (s1 116 x_e1 = 1)) ∧ (s1 117 x_e1 = a_f) then 1 else 0) ∧ x_n1 + (if ((0 < s1 111 x_e1) ∧ (s1 116 x_e1 = 1)) ∧ (s1 117 x_e1 = a_f) then 1 else 0) ≤ 2147483647) <| k1 (x_n1 + (if ((0 < s1 111 x_e1) ∧ (s1 116 x_e1 = 1)) ∧ (s1 117 x_e1 = a_f) then 1 else 0)) (x_e1 + 1) s1 else some (x_n1, s1)) 0 0 s
theorem rgX8_entriesOf {a_f : Int} {s s0 : S2} {r0 : Int} (hF : FX8_entriesOf a_f s = some (r0, s0)) : 0 ≤ r0 ∧ r0 ≤ 192 := (rgd_some hF).2
set_option maxRecDepth 100000 in
set_option maxHeartbeats 4000000 in
theorem ctX8_entriesOf {l : Launch} {w : gW} {bs : Nat} (hl : l.stackTraces = false) {a_f : Int} {s m s0 : S2} {r0 : Int} (hF : FX8_entriesOf a_f s = some (r0, s0)) : gMet l w bs yX8_entriesOf cX8_entriesOf 4 (some FieldType.int) 1 0 [(11, 0), (0, a_f)] (m, s) 0 (some (0, r0)) (m, s0) := by
  unfold FX8_entriesOf at hF
  obtain ⟨hF, hr⟩ := rgd_some hF
  obtain ⟨q_a_f, hF⟩ := gd_some hF
  refine g_start hl (by decide) (Nat.le_of_ble_eq_true rfl) rfl fun X h hE => ?_
  have h : gOk X "PagewrightModel" cX8_entriesOf 4 1 0 0 := h
  have hE : gEnd X l w bs 0 (some FieldType.int) 0 (some (0, r0)) (m, s0) := hE
  show G X 0 0 0 [(11, 0), (0, a_f), (1, 0), (1, 0)] [] (m, s)
  refine g_iconst h 0 dX8_entriesOf_0 ?_
  refine g_istore_n h 1 dX8_entriesOf_1 (Nat.le_of_ble_eq_true rfl) rfl (L' := [(11, 0), (0, a_f), (0, 0), (1, 0)]) rfl ?_
  refine g_iconst h 2 dX8_entriesOf_2 ?_
  refine g_istore_n h 3 dX8_entriesOf_3 (Nat.le_of_ble_eq_true rfl) rfl (L' := [(11, 0), (0, a_f), (0, 0), (0, 0)]) rfl ?_
  obtain ⟨f1, ef1, hF⟩ := glx2 hF
  have J7 : ∀ (n1 : Nat) (x_n1 x_e1 : Int) (s1 : S2), ((-2147483648) ≤ x_n1 ∧ x_n1 ≤ 2147483647) → (0 ≤ x_e1 ∧ x_e1 ≤ 192) → gl2 n1 f1 x_n1 x_e1 s1 = some (r0, s0) → G X 0 0 4 [(11, 0), (0, a_f), (0, x_n1), (0, x_e1)] [] (m, s1) := by
    intro n1
    induction n1 with
    | zero => intro x_n1 x_e1 s1 _ _ hF; exact (gl2_0 hF).elim
    | succ n1 ih1 =>
      intro x_n1 x_e1 s1 q1 q2 hF
      obtain ⟨k1, ek1, hF⟩ := glu2 hF ef1
      have J2 : x_e1 < 192 → G X 0 0 11 [(11, 0), (0, a_f), (0, x_n1), (0, x_e1)] [] (m, s1) := by
        intro h2
        have hF := ite_t h2 hF
        refine G_typ fun hT_s1 => ?_
        have t1 : 0 ≤ s1 111 x_e1 ∧ s1 111 x_e1 ≤ 3 := hT_s1.2 111 x_e1
        have t2 : 0 ≤ s1 116 x_e1 ∧ s1 116 x_e1 ≤ 2 := hT_s1.2 116 x_e1
        have t3 : 0 ≤ s1 117 x_e1 ∧ s1 117 x_e1 ≤ 23 := hT_s1.2 117 x_e1
        refine g_iload_n h 11 dX8_entriesOf_11 rfl ?_
        suffices J4 : ∀ v1 : Int, v1 = (if ((0 < s1 111 x_e1) ∧ (s1 116 x_e1 = 1)) ∧ (s1 117 x_e1 = a_f) then 1 else 0) → G X 0 0 26 [(11, 0), (0, a_f), (0, x_n1), (0, x_e1)] [(0, v1), (0, x_n1)] (m, s1) by
          have J5 : ((0 < s1 111 x_e1) ∧ (s1 116 x_e1 = 1)) ∧ (s1 117 x_e1 = a_f) → G X 0 0 21 [(11, 0), (0, a_f), (0, x_n1), (0, x_e1)] [(0, x_n1)] (m, s1) := by
            intro h4
            refine g_iconst h 21 dX8_entriesOf_21 ?_
            refine g_goto h 22 26 dX8_entriesOf_22 (by decide) ?_
            exact J4 _ (if_pos h4).symm
          have J6 : ¬ (((0 < s1 111 x_e1) ∧ (s1 116 x_e1 = 1)) ∧ (s1 117 x_e1 = a_f)) → G X 0 0 25 [(11, 0), (0, a_f), (0, x_n1), (0, x_e1)] [(0, x_n1)] (m, s1) := by
            intro h5
            refine g_iconst h 25 dX8_entriesOf_25 ?_
            exact J4 _ (if_neg h5).symm
          refine g_aload_nq h 12 dX8_entriesOf_12 rfl rfl ?_
          refine g_iload_n h 13 dX8_entriesOf_13 rfl ?_
          refine g_iload_n h 14 dX8_entriesOf_14 rfl ?_
          refine g_callV h hE 15 dX8_entriesOf_15 (cpX8_has (a_e := x_e1) (a_f := a_f) hl (by omega) (by omega)) mwX8_has kw_1212 (by decide) (by decide) rfl (Nat.le_of_ble_eq_true rfl) rfl (Nat.le_of_ble_eq_true rfl) ⟨Nat.le_of_ble_eq_true rfl, Nat.le_of_ble_eq_true rfl⟩ rfl rfl ?_
          show G X 0 0 18 [(11, 0), (0, a_f), (0, x_n1), (0, x_e1)] [(0, (if ((0 < s1 111 x_e1) ∧ (s1 116 x_e1 = 1)) ∧ (s1 117 x_e1 = a_f) then 1 else 0)), (0, x_n1)] (m, s1)
          refine g_if_eq h 18 25 (gRi gR_ite) dX8_entriesOf_18 (by decide) (fun h3 => ?_) (fun h3 => ?_)
          · exact J6 (iz_f h3)
          · exact J5 (iz_t h3)
        intro v1 e1
        subst e1
        refine g_iadd h 26 dX8_entriesOf_26 ?_
        refine g_istore_n h 27 dX8_entriesOf_27 (Nat.le_of_ble_eq_true rfl) rfl (L' := [(11, 0), (0, a_f), (0, x_n1 + (if ((0 < s1 111 x_e1) ∧ (s1 116 x_e1 = 1)) ∧ (s1 117 x_e1 = a_f) then 1 else 0)), (0, x_e1)]) rfl ?_
        refine g_iinc h 28 dX8_entriesOf_28 rfl rfl (L' := [(11, 0), (0, a_f), (0, x_n1 + (if ((0 < s1 111 x_e1) ∧ (s1 116 x_e1 = 1)) ∧ (s1 117 x_e1 = a_f) then 1 else 0)), (0, x_e1 + 1)]) rfl ?_
        refine g_goto h 31 4 dX8_entriesOf_31 (by decide) ?_
        obtain ⟨q3, hF⟩ := gd_some hF
        rw [ek1] at hF
        exact ih1 _ _ _ (by omega) (by omega) hF
      have J3 : ¬ (x_e1 < 192) → G X 0 0 34 [(11, 0), (0, a_f), (0, x_n1), (0, x_e1)] [] (m, s1) := by
        intro h6
        have hF := ite_f h6 hF
        refine g_iload_n h 34 dX8_entriesOf_34 rfl ?_
        obtain ⟨e1, e2⟩ := some_2 hF
        rw [← e1, ← e2] at hE
        exact g_iret h 35 dX8_entriesOf_35 hE rfl rfl ⟨(Nat.le_of_ble_eq_true rfl), (Nat.le_of_ble_eq_true rfl)⟩
      refine g_iload_n h 4 dX8_entriesOf_4 rfl ?_
      refine g_sipush h 5 dX8_entriesOf_5 (by decide) ?_
      refine g_icmp_ge h 8 34 (gRi (by omega)) (gRi (by omega)) dX8_entriesOf_8 (by decide) (fun h1 => ?_) (fun h1 => ?_)
      · exact J3 (Int.not_lt.mpr h1)
      · exact J2 h1
  exact J7 _ _ _ _ (by omega) (by omega) hF
-- PagewrightModel.isSpace
set_option maxRecDepth 100000 in
theorem cpX8_isSpace {l : Launch} {w : gW} {bs : Nat} (hl : l.stackTraces = false) {a_s : Int} {s m : S2} (q_a_s : (-2147483648) ≤ a_s ∧ a_s ≤ 2147483647) : gMet l w bs yX8_isSpace cX8_isSpace 2 (some FieldType.boolean) 1 0 [(11, 0), (0, a_s)] (m, s) 0 (some (0, (if (0 ≤ a_s) ∧ (a_s ≤ (s 102 0) - 1) then 1 else 0))) (m, s) := by
  refine g_start hl (by decide) (Nat.le_of_ble_eq_true rfl) rfl fun X h hE => ?_
  have h : gOk X "PagewrightModel" cX8_isSpace 2 1 0 0 := h
  show G X 0 0 0 [(11, 0), (0, a_s)] [] (m, s)
  refine G_typ fun hT_s => ?_
  have t1 : 0 ≤ s 102 0 ∧ s 102 0 ≤ 6 := hT_s.2 102 0
  refine g_iload_n h 0 dX8_isSpace_0 rfl ?_
  refine g_iconst h 1 dX8_isSpace_1 ?_
  refine g_aload_nq h 2 dX8_isSpace_2 rfl rfl ?_
  refine gf_M_spaces h 3 dX8_isSpace_3 kw_1015 ?_
  refine g_iconst h 6 dX8_isSpace_6 ?_
  refine g_isub h 7 dX8_isSpace_7 ?_
  refine g_callS h hE 8 dX8_isSpace_8 (cpX8_in (a_v := a_s) (a_low := 0) (a_high := (s 102 0) - 1) hl (by omega) (by omega) (by omega)) mwX8_in kw_1146 rfl (Nat.le_of_ble_eq_true rfl) rfl (Nat.le_of_ble_eq_true rfl) ⟨Nat.le_of_ble_eq_true rfl, Nat.le_of_ble_eq_true rfl⟩ rfl rfl ?_
  show G X 0 0 11 [(11, 0), (0, a_s)] [(0, (if (0 ≤ a_s) ∧ (a_s ≤ (s 102 0) - 1) then 1 else 0))] (m, s)
  exact g_iret h 11 dX8_isSpace_11 hE rfl (g_nb (by first | omega | (split <;> decide))) ⟨(Nat.le_of_ble_eq_true rfl), (Nat.le_of_ble_eq_true rfl)⟩
