-- PagewrightModel.areAlike
set_option maxRecDepth 100000 in
theorem cpX8_areAlike {l : Launch} {w : gW} {bs : Nat} (hl : l.stackTraces = false) {a_a a_b : Int} {s m : S2} (q_a_a : 0 ≤ a_a ∧ a_a ≤ 191) (q_a_b : 0 ≤ a_b ∧ a_b ≤ 191) : gMet l w bs yX8_areAlike cX8_areAlike 4 (some FieldType.boolean) 0 0 [(11, 0), (0, a_a), (0, a_b)] (m, s) 0 (some (0, (if (((s 111 a_a = s 111 a_b) ∧ (s 115 a_a = s 115 a_b)) ∧ (s 112 a_a = s 112 a_b)) ∧ ((s 112 a_a = (-1)) ∨ ((s 114 a_a = s 114 a_b) ∧ (s 113 a_b = (s 113 a_a) + 1))) then 1 else 0 : Int))) (m, s) := by
  refine g_start hl (by decide) (Nat.le_of_ble_eq_true rfl) rfl fun X h hE => ?_
  have h : gOk X "PagewrightModel" cX8_areAlike 4 0 0 0 := h
  show G X 0 0 0 [(11, 0), (0, a_a), (0, a_b), (1, 0)] [] (m, s)
  refine G_typ fun hT_s => ?_
  have t1 : 0 ≤ s 111 a_a ∧ s 111 a_a ≤ 3 := hT_s.2 111 a_a
  have t2 : 0 ≤ s 111 a_b ∧ s 111 a_b ≤ 3 := hT_s.2 111 a_b
  have t3 : 0 ≤ s 115 a_a ∧ s 115 a_a ≤ 1 := hT_s.2 115 a_a
  have t4 : 0 ≤ s 115 a_b ∧ s 115 a_b ≤ 1 := hT_s.2 115 a_b
  have t5 : (-1) ≤ s 112 a_a ∧ s 112 a_a ≤ 2 := hT_s.2 112 a_a
  have t6 : (-1) ≤ s 112 a_b ∧ s 112 a_b ≤ 2 := hT_s.2 112 a_b
  suffices J1 : ∀ v1 : Int, v1 = (if ((s 111 a_a = s 111 a_b) ∧ (s 115 a_a = s 115 a_b)) ∧ (s 112 a_a = s 112 a_b) then 1 else 0 : Int) → G X 0 0 50 [(11, 0), (0, a_a), (0, a_b), (1, 0)] [(0, v1)] (m, s) by
    have J2 : ((s 111 a_a = s 111 a_b) ∧ (s 115 a_a = s 115 a_b)) ∧ (s 112 a_a = s 112 a_b) → G X 0 0 45 [(11, 0), (0, a_a), (0, a_b), (1, 0)] [] (m, s) := by
      intro h4
      refine g_iconst h 45 dX8_areAlike_45 ?_
      refine g_goto h 46 50 dX8_areAlike_46 (by decide) ?_
      exact J1 _ (if_pos h4).symm
    have J3 : ¬ (((s 111 a_a = s 111 a_b) ∧ (s 115 a_a = s 115 a_b)) ∧ (s 112 a_a = s 112 a_b)) → G X 0 0 49 [(11, 0), (0, a_a), (0, a_b), (1, 0)] [] (m, s) := by
      intro h5
      refine g_iconst h 49 dX8_areAlike_49 ?_
      exact J1 _ (if_neg h5).symm
    refine g_aload_nq h 0 dX8_areAlike_0 rfl rfl ?_
    refine gf_M_rights h 1 dX8_areAlike_1 kw_1017 ?_
    refine g_iload_n h 4 dX8_areAlike_4 rfl ?_
    refine al_M_rights h 5 dX8_areAlike_5 (by omega) ?_
    refine g_aload_nq h 6 dX8_areAlike_6 rfl rfl ?_
    refine gf_M_rights h 7 dX8_areAlike_7 kw_1017 ?_
    refine g_iload_n h 10 dX8_areAlike_10 rfl ?_
    refine al_M_rights h 11 dX8_areAlike_11 (by omega) ?_
    refine g_icmp_ne h 12 49 (gRi (by omega)) (gRi (by omega)) dX8_areAlike_12 (by decide) (fun h1 => ?_) (fun h1 => ?_)
    · exact J3 (fun q => (fun q => h1 q.1) q.1)
    · refine g_aload_nq h 15 dX8_areAlike_15 rfl rfl ?_
      refine gf_M_grows h 16 dX8_areAlike_16 kw_1021 ?_
      refine g_iload_n h 19 dX8_areAlike_19 rfl ?_
      refine al_M_grows h 20 dX8_areAlike_20 (by omega) ?_
      refine g_aload_nq h 21 dX8_areAlike_21 rfl rfl ?_
      refine gf_M_grows h 22 dX8_areAlike_22 kw_1021 ?_
      refine g_iload_n h 25 dX8_areAlike_25 rfl ?_
      refine al_M_grows h 26 dX8_areAlike_26 (by omega) ?_
      refine g_icmp_ne h 27 49 (gRi (by omega)) (gRi (by omega)) dX8_areAlike_27 (by decide) (fun h2 => ?_) (fun h2 => ?_)
      · exact J3 (fun q => (fun q => h2 q.2) q.1)
      · refine g_aload_nq h 30 dX8_areAlike_30 rfl rfl ?_
        refine gf_M_file h 31 dX8_areAlike_31 kw_1018 ?_
        refine g_iload_n h 34 dX8_areAlike_34 rfl ?_
        refine al_M_file h 35 dX8_areAlike_35 (by omega) ?_
        refine g_aload_nq h 36 dX8_areAlike_36 rfl rfl ?_
        refine gf_M_file h 37 dX8_areAlike_37 kw_1018 ?_
        refine g_iload_n h 40 dX8_areAlike_40 rfl ?_
        refine al_M_file h 41 dX8_areAlike_41 (by omega) ?_
        refine g_icmp_ne h 42 49 (gRi (by omega)) (gRi (by omega)) dX8_areAlike_42 (by decide) (fun h3 => ?_) (fun h3 => ?_)
        · exact J3 (fun q => h3 q.2)
        · exact J2 ⟨⟨h1, h2⟩, h3⟩
  intro v1 e1
  subst e1
  refine g_istore_n h 50 dX8_areAlike_50 (Nat.le_of_ble_eq_true rfl) rfl (L' := [(11, 0), (0, a_a), (0, a_b), (0, (if ((s 111 a_a = s 111 a_b) ∧ (s 115 a_a = s 115 a_b)) ∧ (s 112 a_a = s 112 a_b) then 1 else 0 : Int))]) rfl ?_
  have t7 : 0 ≤ s 114 a_a ∧ s 114 a_a ≤ 1 := hT_s.2 114 a_a
  have t8 : 0 ≤ s 114 a_b ∧ s 114 a_b ≤ 1 := hT_s.2 114 a_b
  have t9 : 0 ≤ s 113 a_b ∧ s 113 a_b ≤ 7 := hT_s.2 113 a_b
  have t10 : 0 ≤ s 113 a_a ∧ s 113 a_a ≤ 7 := hT_s.2 113 a_a
  suffices J4 : ∀ v2 : Int, v2 = (if (((s 111 a_a = s 111 a_b) ∧ (s 115 a_a = s 115 a_b)) ∧ (s 112 a_a = s 112 a_b)) ∧ ((s 112 a_a = (-1)) ∨ ((s 114 a_a = s 114 a_b) ∧ (s 113 a_b = (s 113 a_a) + 1))) then 1 else 0 : Int) → G X 0 0 102 [(11, 0), (0, a_a), (0, a_b), (0, (if ((s 111 a_a = s 111 a_b) ∧ (s 115 a_a = s 115 a_b)) ∧ (s 112 a_a = s 112 a_b) then 1 else 0 : Int))] [(0, v2)] (m, s) by
    have J5 : (((s 111 a_a = s 111 a_b) ∧ (s 115 a_a = s 115 a_b)) ∧ (s 112 a_a = s 112 a_b)) ∧ ((s 112 a_a = (-1)) ∨ ((s 114 a_a = s 114 a_b) ∧ (s 113 a_b = (s 113 a_a) + 1))) → G X 0 0 97 [(11, 0), (0, a_a), (0, a_b), (0, (if ((s 111 a_a = s 111 a_b) ∧ (s 115 a_a = s 115 a_b)) ∧ (s 112 a_a = s 112 a_b) then 1 else 0 : Int))] [] (m, s) := by
      intro h10
      refine g_iconst h 97 dX8_areAlike_97 ?_
      refine g_goto h 98 102 dX8_areAlike_98 (by decide) ?_
      exact J4 _ (if_pos h10).symm
    have J6 : ¬ ((((s 111 a_a = s 111 a_b) ∧ (s 115 a_a = s 115 a_b)) ∧ (s 112 a_a = s 112 a_b)) ∧ ((s 112 a_a = (-1)) ∨ ((s 114 a_a = s 114 a_b) ∧ (s 113 a_b = (s 113 a_a) + 1)))) → G X 0 0 101 [(11, 0), (0, a_a), (0, a_b), (0, (if ((s 111 a_a = s 111 a_b) ∧ (s 115 a_a = s 115 a_b)) ∧ (s 112 a_a = s 112 a_b) then 1 else 0 : Int))] [] (m, s) := by
      intro h11
      refine g_iconst h 101 dX8_areAlike_101 ?_
      exact J4 _ (if_neg h11).symm
    refine g_iload_n h 51 dX8_areAlike_51 rfl ?_
    refine g_if_eq h 52 101 (gRi gR_ite) dX8_areAlike_52 (by decide) (fun h6 => ?_) (fun h6 => ?_)
    · exact J6 (fun q => (iz_f h6) q.1)
    · refine g_aload_nq h 55 dX8_areAlike_55 rfl rfl ?_
      refine gf_M_file h 56 dX8_areAlike_56 kw_1018 ?_
      refine g_iload_n h 59 dX8_areAlike_59 rfl ?_
      refine al_M_file h 60 dX8_areAlike_60 (by omega) ?_
      refine g_iconst h 61 dX8_areAlike_61 ?_
      refine g_icmp_eq h 62 97 (gRi (by omega)) (gRi (by omega)) dX8_areAlike_62 (by decide) (fun h7 => ?_) (fun h7 => ?_)
      · exact J5 ⟨(iz_t h6), (Or.inl h7)⟩
      · refine g_aload_nq h 65 dX8_areAlike_65 rfl rfl ?_
        refine gf_M_shared h 66 dX8_areAlike_66 kw_1020 ?_
        refine g_iload_n h 69 dX8_areAlike_69 rfl ?_
        refine al_M_shared h 70 dX8_areAlike_70 (by omega) ?_
        refine g_aload_nq h 71 dX8_areAlike_71 rfl rfl ?_
        refine gf_M_shared h 72 dX8_areAlike_72 kw_1020 ?_
        refine g_iload_n h 75 dX8_areAlike_75 rfl ?_
        refine al_M_shared h 76 dX8_areAlike_76 (by omega) ?_
        refine g_icmp_ne h 77 101 (gRi (by omega)) (gRi (by omega)) dX8_areAlike_77 (by decide) (fun h8 => ?_) (fun h8 => ?_)
        · exact J6 (fun q => (fun q => q.elim h7 (fun q => h8 q.1)) q.2)
        · refine g_aload_nq h 80 dX8_areAlike_80 rfl rfl ?_
          refine gf_M_index h 81 dX8_areAlike_81 kw_1019 ?_
          refine g_iload_n h 84 dX8_areAlike_84 rfl ?_
          refine al_M_index h 85 dX8_areAlike_85 (by omega) ?_
          refine g_aload_nq h 86 dX8_areAlike_86 rfl rfl ?_
          refine gf_M_index h 87 dX8_areAlike_87 kw_1019 ?_
          refine g_iload_n h 90 dX8_areAlike_90 rfl ?_
          refine al_M_index h 91 dX8_areAlike_91 (by omega) ?_
          refine g_iconst h 92 dX8_areAlike_92 ?_
          refine g_iadd h 93 dX8_areAlike_93 ?_
          refine g_icmp_ne h 94 101 (gRi (by omega)) (gRi (by omega)) dX8_areAlike_94 (by decide) (fun h9 => ?_) (fun h9 => ?_)
          · exact J6 (fun q => (fun q => q.elim h7 (fun q => h9 q.2)) q.2)
          · exact J5 ⟨(iz_t h6), (Or.inr ⟨h8, h9⟩)⟩
  intro v2 e2
  subst e2
  exact g_iret h 102 dX8_areAlike_102 hE rfl (g_nb (by first | omega | (split <;> decide))) ⟨(Nat.le_of_ble_eq_true rfl), (Nat.le_of_ble_eq_true rfl)⟩
-- PagewrightModel.areMapped
def FX8_areMapped (a_s a_from a_count a_all : Int) (s : S2) : Option (Int × S2) :=
  rgd 0 1 <| gd (0 ≤ a_s ∧ a_s ≤ 5) <| gd (0 ≤ a_from ∧ a_from ≤ 31) <| gd (1 ≤ a_count ∧ a_count ≤ 32) <| gd (0 ≤ a_all ∧ a_all ≤ 1) <| gl2 1000 (fun k1 (x_n1 : Int) (x_k1 : Int) (s1 : S2) => if x_k1 < a_count then gd (0 ≤ ((32 * a_s) + a_from) + x_k1 ∧ ((32 * a_s) + a_from) + x_k1 ≤ 191) <| gd ((-2147483648) ≤ x_n1 + (if 0 < s1 111 (((32 * a_s) + a_from) + x_k1) then 1 else 0 : Int) ∧ x_n1 + (if 0 < s1 111 (((32 * a_s) + a_from) + x_k1) then 1 else 0 : Int) ≤ 2147483647) <| k1 (x_n1 + (if 0 < s1 111 (((32 * a_s) + a_from) + x_k1) then 1 else 0 : Int)) (x_k1 + 1) s1 else some ((if x_n1 = (if a_all ≠ 0 then a_count else 0 : Int) then 1 else 0 : Int), s1)) 0 0 s
theorem rgX8_areMapped {a_s a_from a_count a_all : Int} {s s0 : S2} {r0 : Int} (hF : FX8_areMapped a_s a_from a_count a_all s = some (r0, s0)) : 0 ≤ r0 ∧ r0 ≤ 1 := (rgd_some hF).2
set_option maxRecDepth 100000 in
set_option maxHeartbeats 4000000 in
theorem ctX8_areMapped {l : Launch} {w : gW} {bs : Nat} (hl : l.stackTraces = false) {a_s a_from a_count a_all : Int} {s m s0 : S2} {r0 : Int} (hF : FX8_areMapped a_s a_from a_count a_all s = some (r0, s0)) : gMet l w bs yX8_areMapped cX8_areMapped 7 (some FieldType.boolean) 0 0 [(11, 0), (0, a_s), (0, a_from), (0, a_count), (0, a_all)] (m, s) 0 (some (0, r0)) (m, s0) := by
  unfold FX8_areMapped at hF
  obtain ⟨hF, hr⟩ := rgd_some hF
  obtain ⟨q_a_s, hF⟩ := gd_some hF
  obtain ⟨q_a_from, hF⟩ := gd_some hF
  obtain ⟨q_a_count, hF⟩ := gd_some hF
  obtain ⟨q_a_all, hF⟩ := gd_some hF
  refine g_start hl (by decide) (Nat.le_of_ble_eq_true rfl) rfl fun X h hE => ?_
  have h : gOk X "PagewrightModel" cX8_areMapped 7 0 0 0 := h
  have hE : gEnd X l w bs 0 (some FieldType.boolean) 0 (some (0, r0)) (m, s0) := hE
  show G X 0 0 0 [(11, 0), (0, a_s), (0, a_from), (0, a_count), (0, a_all), (1, 0), (1, 0)] [] (m, s)
  refine g_iconst h 0 dX8_areMapped_0 ?_
  refine g_istore h 1 dX8_areMapped_1 (Nat.le_of_ble_eq_true rfl) rfl (L' := [(11, 0), (0, a_s), (0, a_from), (0, a_count), (0, a_all), (0, 0), (1, 0)]) rfl ?_
  refine g_iconst h 3 dX8_areMapped_3 ?_
  refine g_istore h 4 dX8_areMapped_4 (Nat.le_of_ble_eq_true rfl) rfl (L' := [(11, 0), (0, a_s), (0, a_from), (0, a_count), (0, a_all), (0, 0), (0, 0)]) rfl ?_
  obtain ⟨f1, ef1, hF⟩ := glx2 hF
  have J13 : ∀ (n1 : Nat) (x_n1 x_k1 : Int) (s1 : S2), ((-2147483648) ≤ x_n1 ∧ x_n1 ≤ 2147483647) → (0 ≤ x_k1 ∧ x_k1 ≤ 32) → gl2 n1 f1 x_n1 x_k1 s1 = some (r0, s0) → G X 0 0 6 [(11, 0), (0, a_s), (0, a_from), (0, a_count), (0, a_all), (0, x_n1), (0, x_k1)] [] (m, s1) := by
    intro n1
    induction n1 with
    | zero => intro x_n1 x_k1 s1 _ _ hF; exact (gl2_0 hF).elim
    | succ n1 ih1 =>
      intro x_n1 x_k1 s1 q1 q2 hF
      obtain ⟨k1, ek1, hF⟩ := glu2 hF ef1
      have J2 : x_k1 < a_count → G X 0 0 12 [(11, 0), (0, a_s), (0, a_from), (0, a_count), (0, a_all), (0, x_n1), (0, x_k1)] [] (m, s1) := by
        intro h2
        have hF := ite_t h2 hF
        refine G_typ fun hT_s1 => ?_
        have t1 : 0 ≤ s1 111 (((32 * a_s) + a_from) + x_k1) ∧ s1 111 (((32 * a_s) + a_from) + x_k1) ≤ 3 := hT_s1.2 111 (((32 * a_s) + a_from) + x_k1)
        obtain ⟨q3, hF⟩ := gd_some hF
        refine g_iload h 12 dX8_areMapped_12 rfl ?_
        suffices J4 : ∀ v1 : Int, v1 = (if 0 < s1 111 (((32 * a_s) + a_from) + x_k1) then 1 else 0 : Int) → G X 0 0 36 [(11, 0), (0, a_s), (0, a_from), (0, a_count), (0, a_all), (0, x_n1), (0, x_k1)] [(0, v1), (0, x_n1)] (m, s1) by
          have J5 : 0 < s1 111 (((32 * a_s) + a_from) + x_k1) → G X 0 0 31 [(11, 0), (0, a_s), (0, a_from), (0, a_count), (0, a_all), (0, x_n1), (0, x_k1)] [(0, x_n1)] (m, s1) := by
            intro h4
            refine g_iconst h 31 dX8_areMapped_31 ?_
            refine g_goto h 32 36 dX8_areMapped_32 (by decide) ?_
            exact J4 _ (if_pos h4).symm
          have J6 : ¬ (0 < s1 111 (((32 * a_s) + a_from) + x_k1)) → G X 0 0 35 [(11, 0), (0, a_s), (0, a_from), (0, a_count), (0, a_all), (0, x_n1), (0, x_k1)] [(0, x_n1)] (m, s1) := by
            intro h5
            refine g_iconst h 35 dX8_areMapped_35 ?_
            exact J4 _ (if_neg h5).symm
          refine g_aload_nq h 14 dX8_areMapped_14 rfl rfl ?_
          refine gf_M_rights h 15 dX8_areMapped_15 kw_1017 ?_
          refine g_bipush h 18 dX8_areMapped_18 (by decide) ?_
          refine g_iload_n h 20 dX8_areMapped_20 rfl ?_
          refine g_imul h 21 dX8_areMapped_21 ?_
          refine g_iload_n h 22 dX8_areMapped_22 rfl ?_
          refine g_iadd h 23 dX8_areMapped_23 ?_
          refine g_iload h 24 dX8_areMapped_24 rfl ?_
          refine g_iadd h 26 dX8_areMapped_26 ?_
          refine al_M_rights h 27 dX8_areMapped_27 (by omega) ?_
          refine g_if_le h 28 35 (gRi (by omega)) dX8_areMapped_28 (by decide) (fun h3 => ?_) (fun h3 => ?_)
          · exact J6 (Int.not_lt.mpr h3)
          · exact J5 h3
        intro v1 e1
        subst e1
        refine g_iadd h 36 dX8_areMapped_36 ?_
        refine g_istore h 37 dX8_areMapped_37 (Nat.le_of_ble_eq_true rfl) rfl (L' := [(11, 0), (0, a_s), (0, a_from), (0, a_count), (0, a_all), (0, x_n1 + (if 0 < s1 111 (((32 * a_s) + a_from) + x_k1) then 1 else 0 : Int)), (0, x_k1)]) rfl ?_
        refine g_iinc h 39 dX8_areMapped_39 rfl rfl (L' := [(11, 0), (0, a_s), (0, a_from), (0, a_count), (0, a_all), (0, x_n1 + (if 0 < s1 111 (((32 * a_s) + a_from) + x_k1) then 1 else 0 : Int)), (0, x_k1 + 1)]) rfl ?_
        refine g_goto h 42 6 dX8_areMapped_42 (by decide) ?_
        obtain ⟨q4, hF⟩ := gd_some hF
        rw [ek1] at hF
        exact ih1 _ _ _ (by omega) (by omega) hF
      have J3 : ¬ (x_k1 < a_count) → G X 0 0 45 [(11, 0), (0, a_s), (0, a_from), (0, a_count), (0, a_all), (0, x_n1), (0, x_k1)] [] (m, s1) := by
        intro h6
        have hF := ite_f h6 hF
        suffices J7 : ∀ v3 : Int, v3 = (if x_n1 = (if a_all ≠ 0 then a_count else 0 : Int) then 1 else 0 : Int) → G X 0 0 65 [(11, 0), (0, a_s), (0, a_from), (0, a_count), (0, a_all), (0, x_n1), (0, x_k1)] [(0, v3)] (m, s1) by
          have J8 : x_n1 = (if a_all ≠ 0 then a_count else 0 : Int) → G X 0 0 60 [(11, 0), (0, a_s), (0, a_from), (0, a_count), (0, a_all), (0, x_n1), (0, x_k1)] [] (m, s1) := by
            intro h11
            refine g_iconst h 60 dX8_areMapped_60 ?_
            refine g_goto h 61 65 dX8_areMapped_61 (by decide) ?_
            exact J7 _ (if_pos h11).symm
          have J9 : ¬ (x_n1 = (if a_all ≠ 0 then a_count else 0 : Int)) → G X 0 0 64 [(11, 0), (0, a_s), (0, a_from), (0, a_count), (0, a_all), (0, x_n1), (0, x_k1)] [] (m, s1) := by
            intro h12
            refine g_iconst h 64 dX8_areMapped_64 ?_
            exact J7 _ (if_neg h12).symm
          refine g_iload h 45 dX8_areMapped_45 rfl ?_
          suffices J10 : ∀ v2 : Int, v2 = (if a_all ≠ 0 then a_count else 0 : Int) → G X 0 0 57 [(11, 0), (0, a_s), (0, a_from), (0, a_count), (0, a_all), (0, x_n1), (0, x_k1)] [(0, v2), (0, x_n1)] (m, s1) by
            have J11 : a_all ≠ 0 → G X 0 0 52 [(11, 0), (0, a_s), (0, a_from), (0, a_count), (0, a_all), (0, x_n1), (0, x_k1)] [(0, x_n1)] (m, s1) := by
              intro h8
              refine g_iload_n h 52 dX8_areMapped_52 rfl ?_
              refine g_goto h 53 57 dX8_areMapped_53 (by decide) ?_
              exact J10 _ (if_pos h8).symm
            have J12 : ¬ (a_all ≠ 0) → G X 0 0 56 [(11, 0), (0, a_s), (0, a_from), (0, a_count), (0, a_all), (0, x_n1), (0, x_k1)] [(0, x_n1)] (m, s1) := by
              intro h9
              refine g_iconst h 56 dX8_areMapped_56 ?_
              exact J10 _ (if_neg h9).symm
            refine g_iload h 47 dX8_areMapped_47 rfl ?_
            refine g_if_eq h 49 56 (gRi (by omega)) dX8_areMapped_49 (by decide) (fun h7 => ?_) (fun h7 => ?_)
            · exact J12 (fun q => q h7)
            · exact J11 h7
          intro v2 e2
          subst e2
          refine g_icmp_ne h 57 64 (gRi (by omega)) (gRi (by omega)) dX8_areMapped_57 (by decide) (fun h10 => ?_) (fun h10 => ?_)
          · exact J9 h10
          · exact J8 h10
        intro v3 e3
        subst e3
        obtain ⟨e1, e2⟩ := some_2 hF
        rw [← e1, ← e2] at hE
        exact g_iret h 65 dX8_areMapped_65 hE rfl (g_nb (by rw [← e1] at hr; exact hr)) ⟨(Nat.le_of_ble_eq_true rfl), (Nat.le_of_ble_eq_true rfl)⟩
      refine g_iload h 6 dX8_areMapped_6 rfl ?_
      refine g_iload_n h 8 dX8_areMapped_8 rfl ?_
      refine g_icmp_ge h 9 45 (gRi (by omega)) (gRi (by omega)) dX8_areMapped_9 (by decide) (fun h1 => ?_) (fun h1 => ?_)
      · exact J3 (Int.not_lt.mpr h1)
      · exact J2 h1
  exact J13 _ _ _ _ (by omega) (by omega) hF
-- PagewrightModel.asked
def FX8_asked (a_is : Int) (s : S2) : Option (Int × S2) :=
  rgd 0 1 <| gd (0 ≤ a_is ∧ a_is ≤ 1) <| bn (upd2 s 101 0 (if a_is ≠ 0 then 0 else 1 : Int)) fun s1 => some (a_is, s1)
theorem rgX8_asked {a_is : Int} {s s0 : S2} {r0 : Int} (hF : FX8_asked a_is s = some (r0, s0)) : 0 ≤ r0 ∧ r0 ≤ 1 := (rgd_some hF).2
set_option maxRecDepth 100000 in
set_option maxHeartbeats 4000000 in
theorem ctX8_asked {l : Launch} {w : gW} {bs : Nat} (hl : l.stackTraces = false) {a_is : Int} {s m s0 : S2} {r0 : Int} (hF : FX8_asked a_is s = some (r0, s0)) : gMet l w bs yX8_asked cX8_asked 2 (some FieldType.boolean) 0 0 [(11, 0), (0, a_is)] (m, s) 0 (some (0, r0)) (m, s0) := by
  unfold FX8_asked at hF
  obtain ⟨hF, hr⟩ := rgd_some hF
  obtain ⟨q_a_is, hF⟩ := gd_some hF
  refine g_start hl (by decide) (Nat.le_of_ble_eq_true rfl) rfl fun X h hE => ?_
  have h : gOk X "PagewrightModel" cX8_asked 2 0 0 0 := h
  have hE : gEnd X l w bs 0 (some FieldType.boolean) 0 (some (0, r0)) (m, s0) := hE
  show G X 0 0 0 [(11, 0), (0, a_is)] [] (m, s)
  refine g_aload_nq h 0 dX8_asked_0 rfl rfl ?_
  suffices J1 : ∀ v1 : Int, v1 = (if a_is ≠ 0 then 0 else 1 : Int) → G X 0 0 10 [(11, 0), (0, a_is)] [(0, v1), (11, 0)] (m, s) by
    have J2 : a_is ≠ 0 → G X 0 0 5 [(11, 0), (0, a_is)] [(11, 0)] (m, s) := by
      intro h2
      refine g_iconst h 5 dX8_asked_5 ?_
      refine g_goto h 6 10 dX8_asked_6 (by decide) ?_
      exact J1 _ (if_pos h2).symm
    have J3 : ¬ (a_is ≠ 0) → G X 0 0 9 [(11, 0), (0, a_is)] [(11, 0)] (m, s) := by
      intro h3
      refine g_iconst h 9 dX8_asked_9 ?_
      exact J1 _ (if_neg h3).symm
    refine g_iload_n h 1 dX8_asked_1 rfl ?_
    refine g_if_eq h 2 9 (gRi (by omega)) dX8_asked_2 (by decide) (fun h1 => ?_) (fun h1 => ?_)
    · exact J3 (fun q => q h1)
    · exact J2 h1
  intro v1 e1
  subst e1
  obtain ⟨s1, es1, hF⟩ := bn_ex hF
  refine pf_M_thrown h 10 dX8_asked_10 kw_1010 (by omega) ?_
  rw [← es1]
  refine g_iload_n h 13 dX8_asked_13 rfl ?_
  obtain ⟨e1, e2⟩ := some_2 hF
  rw [← e1, ← e2] at hE
  exact g_iret h 14 dX8_asked_14 hE rfl (g_nb (by rw [← e1] at hr; exact hr)) ⟨(Nat.le_of_ble_eq_true rfl), (Nat.le_of_ble_eq_true rfl)⟩
-- PagewrightModel.asked
def FX8_asked_ (a_is a_right : Int) (s : S2) : Option (Int × S2) :=
  rgd 0 1 <| gd (0 ≤ a_is ∧ a_is ≤ 1) <| gd (0 ≤ a_right ∧ a_right ≤ 1) <| bn (upd2 s 101 0 (if ¬ (a_is ≠ 0) then 1 else (if a_right ≠ 0 then 0 else 2 : Int) : Int)) fun s1 => some ((if s1 101 0 = 0 then 1 else 0 : Int), s1)
theorem rgX8_asked_ {a_is a_right : Int} {s s0 : S2} {r0 : Int} (hF : FX8_asked_ a_is a_right s = some (r0, s0)) : 0 ≤ r0 ∧ r0 ≤ 1 := (rgd_some hF).2
set_option maxRecDepth 100000 in
set_option maxHeartbeats 4000000 in
theorem ctX8_asked_ {l : Launch} {w : gW} {bs : Nat} (hl : l.stackTraces = false) {a_is a_right : Int} {s m s0 : S2} {r0 : Int} (hF : FX8_asked_ a_is a_right s = some (r0, s0)) : gMet l w bs yX8_asked_ cX8_asked_ 3 (some FieldType.boolean) 0 0 [(11, 0), (0, a_is), (0, a_right)] (m, s) 0 (some (0, r0)) (m, s0) := by
  unfold FX8_asked_ at hF
  obtain ⟨hF, hr⟩ := rgd_some hF
  obtain ⟨q_a_is, hF⟩ := gd_some hF
  obtain ⟨q_a_right, hF⟩ := gd_some hF
  refine g_start hl (by decide) (Nat.le_of_ble_eq_true rfl) rfl fun X h hE => ?_
  have h : gOk X "PagewrightModel" cX8_asked_ 3 0 0 0 := h
  have hE : gEnd X l w bs 0 (some FieldType.boolean) 0 (some (0, r0)) (m, s0) := hE
  show G X 0 0 0 [(11, 0), (0, a_is), (0, a_right)] [] (m, s)
  refine g_aload_nq h 0 dX8_asked__0 rfl rfl ?_
  suffices J1 : ∀ v2 : Int, v2 = (if ¬ (a_is ≠ 0) then 1 else (if a_right ≠ 0 then 0 else 2 : Int) : Int) → G X 0 0 18 [(11, 0), (0, a_is), (0, a_right)] [(0, v2), (11, 0)] (m, s) by
    have J2 : ¬ (a_is ≠ 0) → G X 0 0 5 [(11, 0), (0, a_is), (0, a_right)] [(11, 0)] (m, s) := by
      intro h2
      refine g_iconst h 5 dX8_asked__5 ?_
      refine g_goto h 6 18 dX8_asked__6 (by decide) ?_
      exact J1 _ (if_pos h2).symm
    have J3 : ¬ (¬ (a_is ≠ 0)) → G X 0 0 9 [(11, 0), (0, a_is), (0, a_right)] [(11, 0)] (m, s) := by
      intro h3
      suffices J4 : ∀ v1 : Int, v1 = (if a_right ≠ 0 then 0 else 2 : Int) → G X 0 0 18 [(11, 0), (0, a_is), (0, a_right)] [(0, v1), (11, 0)] (m, s) by
        have J5 : a_right ≠ 0 → G X 0 0 13 [(11, 0), (0, a_is), (0, a_right)] [(11, 0)] (m, s) := by
          intro h5
          refine g_iconst h 13 dX8_asked__13 ?_
          refine g_goto h 14 18 dX8_asked__14 (by decide) ?_
          exact J4 _ (if_pos h5).symm
        have J6 : ¬ (a_right ≠ 0) → G X 0 0 17 [(11, 0), (0, a_is), (0, a_right)] [(11, 0)] (m, s) := by
          intro h6
          refine g_iconst h 17 dX8_asked__17 ?_
          exact J4 _ (if_neg h6).symm
        refine g_iload_n h 9 dX8_asked__9 rfl ?_
        refine g_if_eq h 10 17 (gRi (by omega)) dX8_asked__10 (by decide) (fun h4 => ?_) (fun h4 => ?_)
        · exact J6 (fun q => q h4)
        · exact J5 h4
      intro v1 e1
      subst e1
      exact J1 _ (if_neg h3).symm
    refine g_iload_n h 1 dX8_asked__1 rfl ?_
    refine g_if_ne h 2 9 (gRi (by omega)) dX8_asked__2 (by decide) (fun h1 => ?_) (fun h1 => ?_)
    · exact J3 (fun q => q h1)
    · exact J2 (fun q => q h1)
  intro v2 e2
  subst e2
  obtain ⟨s1, es1, hF⟩ := bn_ex hF
  refine pf_M_thrown h 18 dX8_asked__18 kw_1010 (by omega) ?_
  rw [← es1]
  refine G_typ fun hT_s1 => ?_
  have t1 : 0 ≤ s1 101 0 ∧ s1 101 0 ≤ 3 := hT_s1.2 101 0
  suffices J7 : ∀ v3 : Int, v3 = (if s1 101 0 = 0 then 1 else 0 : Int) → G X 0 0 33 [(11, 0), (0, a_is), (0, a_right)] [(0, v3)] (m, s1) by
    have J8 : s1 101 0 = 0 → G X 0 0 28 [(11, 0), (0, a_is), (0, a_right)] [] (m, s1) := by
      intro h8
      refine g_iconst h 28 dX8_asked__28 ?_
      refine g_goto h 29 33 dX8_asked__29 (by decide) ?_
      exact J7 _ (if_pos h8).symm
    have J9 : ¬ (s1 101 0 = 0) → G X 0 0 32 [(11, 0), (0, a_is), (0, a_right)] [] (m, s1) := by
      intro h9
      refine g_iconst h 32 dX8_asked__32 ?_
      exact J7 _ (if_neg h9).symm
    refine g_aload_nq h 21 dX8_asked__21 rfl rfl ?_
    refine gf_M_thrown h 22 dX8_asked__22 kw_1010 ?_
    refine g_if_ne h 25 32 (gRi (by omega)) dX8_asked__25 (by decide) (fun h7 => ?_) (fun h7 => ?_)
    · exact J9 h7
    · exact J8 h7
  intro v3 e3
  subst e3
  obtain ⟨e1, e2⟩ := some_2 hF
  rw [← e1, ← e2] at hE
  exact g_iret h 33 dX8_asked__33 hE rfl (g_nb (by rw [← e1] at hr; exact hr)) ⟨(Nat.le_of_ble_eq_true rfl), (Nat.le_of_ble_eq_true rfl)⟩
-- PagewrightModel.asked
def FX8_asked__ (a_is a_right a_can : Int) (s : S2) : Option (Int × S2) :=
  rgd 0 1 <| gd (0 ≤ a_is ∧ a_is ≤ 1) <| gd (0 ≤ a_right ∧ a_right ≤ 1) <| gd (0 ≤ a_can ∧ a_can ≤ 1) <| bn (upd2 s 101 0 (if ¬ (a_is ≠ 0) then 1 else (if ¬ (a_right ≠ 0) then 2 else (if a_can ≠ 0 then 0 else 3 : Int) : Int) : Int)) fun s1 => some ((if s1 101 0 = 0 then 1 else 0 : Int), s1)
theorem rgX8_asked__ {a_is a_right a_can : Int} {s s0 : S2} {r0 : Int} (hF : FX8_asked__ a_is a_right a_can s = some (r0, s0)) : 0 ≤ r0 ∧ r0 ≤ 1 := (rgd_some hF).2
set_option maxRecDepth 100000 in
set_option maxHeartbeats 4000000 in
theorem ctX8_asked__ {l : Launch} {w : gW} {bs : Nat} (hl : l.stackTraces = false) {a_is a_right a_can : Int} {s m s0 : S2} {r0 : Int} (hF : FX8_asked__ a_is a_right a_can s = some (r0, s0)) : gMet l w bs yX8_asked__ cX8_asked__ 4 (some FieldType.boolean) 0 0 [(11, 0), (0, a_is), (0, a_right), (0, a_can)] (m, s) 0 (some (0, r0)) (m, s0) := by
  unfold FX8_asked__ at hF
  obtain ⟨hF, hr⟩ := rgd_some hF
  obtain ⟨q_a_is, hF⟩ := gd_some hF
  obtain ⟨q_a_right, hF⟩ := gd_some hF
  obtain ⟨q_a_can, hF⟩ := gd_some hF
  refine g_start hl (by decide) (Nat.le_of_ble_eq_true rfl) rfl fun X h hE => ?_
  have h : gOk X "PagewrightModel" cX8_asked__ 4 0 0 0 := h
  have hE : gEnd X l w bs 0 (some FieldType.boolean) 0 (some (0, r0)) (m, s0) := hE
  show G X 0 0 0 [(11, 0), (0, a_is), (0, a_right), (0, a_can)] [] (m, s)
  refine g_aload_nq h 0 dX8_asked___0 rfl rfl ?_
  suffices J1 : ∀ v3 : Int, v3 = (if ¬ (a_is ≠ 0) then 1 else (if ¬ (a_right ≠ 0) then 2 else (if a_can ≠ 0 then 0 else 3 : Int) : Int) : Int) → G X 0 0 26 [(11, 0), (0, a_is), (0, a_right), (0, a_can)] [(0, v3), (11, 0)] (m, s) by
    have J2 : ¬ (a_is ≠ 0) → G X 0 0 5 [(11, 0), (0, a_is), (0, a_right), (0, a_can)] [(11, 0)] (m, s) := by
      intro h2
      refine g_iconst h 5 dX8_asked___5 ?_
      refine g_goto h 6 26 dX8_asked___6 (by decide) ?_
      exact J1 _ (if_pos h2).symm
    have J3 : ¬ (¬ (a_is ≠ 0)) → G X 0 0 9 [(11, 0), (0, a_is), (0, a_right), (0, a_can)] [(11, 0)] (m, s) := by
      intro h3
      suffices J4 : ∀ v2 : Int, v2 = (if ¬ (a_right ≠ 0) then 2 else (if a_can ≠ 0 then 0 else 3 : Int) : Int) → G X 0 0 26 [(11, 0), (0, a_is), (0, a_right), (0, a_can)] [(0, v2), (11, 0)] (m, s) by
        have J5 : ¬ (a_right ≠ 0) → G X 0 0 13 [(11, 0), (0, a_is), (0, a_right), (0, a_can)] [(11, 0)] (m, s) := by
          intro h5
          refine g_iconst h 13 dX8_asked___13 ?_
          refine g_goto h 14 26 dX8_asked___14 (by decide) ?_
          exact J4 _ (if_pos h5).symm
        have J6 : ¬ (¬ (a_right ≠ 0)) → G X 0 0 17 [(11, 0), (0, a_is), (0, a_right), (0, a_can)] [(11, 0)] (m, s) := by
          intro h6
          suffices J7 : ∀ v1 : Int, v1 = (if a_can ≠ 0 then 0 else 3 : Int) → G X 0 0 26 [(11, 0), (0, a_is), (0, a_right), (0, a_can)] [(0, v1), (11, 0)] (m, s) by
            have J8 : a_can ≠ 0 → G X 0 0 21 [(11, 0), (0, a_is), (0, a_right), (0, a_can)] [(11, 0)] (m, s) := by
              intro h8
              refine g_iconst h 21 dX8_asked___21 ?_
              refine g_goto h 22 26 dX8_asked___22 (by decide) ?_
              exact J7 _ (if_pos h8).symm
            have J9 : ¬ (a_can ≠ 0) → G X 0 0 25 [(11, 0), (0, a_is), (0, a_right), (0, a_can)] [(11, 0)] (m, s) := by
              intro h9
              refine g_iconst h 25 dX8_asked___25 ?_
              exact J7 _ (if_neg h9).symm
            refine g_iload_n h 17 dX8_asked___17 rfl ?_
            refine g_if_eq h 18 25 (gRi (by omega)) dX8_asked___18 (by decide) (fun h7 => ?_) (fun h7 => ?_)
            · exact J9 (fun q => q h7)
            · exact J8 h7
          intro v1 e1
          subst e1
          exact J4 _ (if_neg h6).symm
        refine g_iload_n h 9 dX8_asked___9 rfl ?_
        refine g_if_ne h 10 17 (gRi (by omega)) dX8_asked___10 (by decide) (fun h4 => ?_) (fun h4 => ?_)
        · exact J6 (fun q => q h4)
        · exact J5 (fun q => q h4)
      intro v2 e2
      subst e2
      exact J1 _ (if_neg h3).symm
    refine g_iload_n h 1 dX8_asked___1 rfl ?_
    refine g_if_ne h 2 9 (gRi (by omega)) dX8_asked___2 (by decide) (fun h1 => ?_) (fun h1 => ?_)
    · exact J3 (fun q => q h1)
    · exact J2 (fun q => q h1)
  intro v3 e3
  subst e3
  obtain ⟨s1, es1, hF⟩ := bn_ex hF
  refine pf_M_thrown h 26 dX8_asked___26 kw_1010 (by omega) ?_
  rw [← es1]
  refine G_typ fun hT_s1 => ?_
  have t1 : 0 ≤ s1 101 0 ∧ s1 101 0 ≤ 3 := hT_s1.2 101 0
  suffices J10 : ∀ v4 : Int, v4 = (if s1 101 0 = 0 then 1 else 0 : Int) → G X 0 0 41 [(11, 0), (0, a_is), (0, a_right), (0, a_can)] [(0, v4)] (m, s1) by
    have J11 : s1 101 0 = 0 → G X 0 0 36 [(11, 0), (0, a_is), (0, a_right), (0, a_can)] [] (m, s1) := by
      intro h11
      refine g_iconst h 36 dX8_asked___36 ?_
      refine g_goto h 37 41 dX8_asked___37 (by decide) ?_
      exact J10 _ (if_pos h11).symm
    have J12 : ¬ (s1 101 0 = 0) → G X 0 0 40 [(11, 0), (0, a_is), (0, a_right), (0, a_can)] [] (m, s1) := by
      intro h12
      refine g_iconst h 40 dX8_asked___40 ?_
      exact J10 _ (if_neg h12).symm
    refine g_aload_nq h 29 dX8_asked___29 rfl rfl ?_
    refine gf_M_thrown h 30 dX8_asked___30 kw_1010 ?_
    refine g_if_ne h 33 40 (gRi (by omega)) dX8_asked___33 (by decide) (fun h10 => ?_) (fun h10 => ?_)
    · exact J12 h10
    · exact J11 h10
  intro v4 e4
  subst e4
  obtain ⟨e1, e2⟩ := some_2 hF
  rw [← e1, ← e2] at hE
  exact g_iret h 41 dX8_asked___41 hE rfl (g_nb (by rw [← e1] at hr; exact hr)) ⟨(Nat.le_of_ble_eq_true rfl), (Nat.le_of_ble_eq_true rfl)⟩
-- PagewrightModel.blocksOf
def FX8_blocksOf (a_s : Int) (s : S2) : Option (Int × S2) :=
  rgd 0 8 <| gd (0 ≤ a_s ∧ a_s ≤ 5) <| gl2 1000 (fun k1 (x_n1 : Int) (x_a1 : Int) (s1 : S2) => if x_a1 < 32 then gd ((-2147483648) ≤ x_n1 + (if s1 120 ((32 * a_s) + x_a1) ≠ 0 then 1 else 0 : Int) ∧ x_n1 + (if s1 120 ((32 * a_s) + x_a1) ≠ 0 then 1 else 0 : Int) ≤ 2147483647) <| k1 (x_n1 + (if s1 120 ((32 * a_s) + x_a1) ≠ 0 then 1 else 0 : Int)) (x_a1 + 4) s1 else some (x_n1, s1)) 0 0 s
theorem rgX8_blocksOf {a_s : Int} {s s0 : S2} {r0 : Int} (hF : FX8_blocksOf a_s s = some (r0, s0)) : 0 ≤ r0 ∧ r0 ≤ 8 := (rgd_some hF).2
set_option maxRecDepth 100000 in
set_option maxHeartbeats 4000000 in
theorem ctX8_blocksOf {l : Launch} {w : gW} {bs : Nat} (hl : l.stackTraces = false) {a_s : Int} {s m s0 : S2} {r0 : Int} (hF : FX8_blocksOf a_s s = some (r0, s0)) : gMet l w bs yX8_blocksOf cX8_blocksOf 4 (some FieldType.int) 0 0 [(11, 0), (0, a_s)] (m, s) 0 (some (0, r0)) (m, s0) := by
  unfold FX8_blocksOf at hF
  obtain ⟨hF, hr⟩ := rgd_some hF
  obtain ⟨q_a_s, hF⟩ := gd_some hF
  refine g_start hl (by decide) (Nat.le_of_ble_eq_true rfl) rfl fun X h hE => ?_
  have h : gOk X "PagewrightModel" cX8_blocksOf 4 0 0 0 := h
  have hE : gEnd X l w bs 0 (some FieldType.int) 0 (some (0, r0)) (m, s0) := hE
  show G X 0 0 0 [(11, 0), (0, a_s), (1, 0), (1, 0)] [] (m, s)
  refine g_iconst h 0 dX8_blocksOf_0 ?_
  refine g_istore_n h 1 dX8_blocksOf_1 (Nat.le_of_ble_eq_true rfl) rfl (L' := [(11, 0), (0, a_s), (0, 0), (1, 0)]) rfl ?_
  refine g_iconst h 2 dX8_blocksOf_2 ?_
  refine g_istore_n h 3 dX8_blocksOf_3 (Nat.le_of_ble_eq_true rfl) rfl (L' := [(11, 0), (0, a_s), (0, 0), (0, 0)]) rfl ?_
  obtain ⟨f1, ef1, hF⟩ := glx2 hF
  have J7 : ∀ (n1 : Nat) (x_n1 x_a1 : Int) (s1 : S2), ((-2147483648) ≤ x_n1 ∧ x_n1 ≤ 2147483647) → (0 ≤ x_a1 ∧ x_a1 ≤ 35) → gl2 n1 f1 x_n1 x_a1 s1 = some (r0, s0) → G X 0 0 4 [(11, 0), (0, a_s), (0, x_n1), (0, x_a1)] [] (m, s1) := by
    intro n1
    induction n1 with
    | zero => intro x_n1 x_a1 s1 _ _ hF; exact (gl2_0 hF).elim
    | succ n1 ih1 =>
      intro x_n1 x_a1 s1 q1 q2 hF
      obtain ⟨k1, ek1, hF⟩ := glu2 hF ef1
      have J2 : x_a1 < 32 → G X 0 0 10 [(11, 0), (0, a_s), (0, x_n1), (0, x_a1)] [] (m, s1) := by
        intro h2
        have hF := ite_t h2 hF
        refine G_typ fun hT_s1 => ?_
        have t1 : 0 ≤ s1 120 ((32 * a_s) + x_a1) ∧ s1 120 ((32 * a_s) + x_a1) ≤ 1 := hT_s1.2 120 ((32 * a_s) + x_a1)
        refine g_iload_n h 10 dX8_blocksOf_10 rfl ?_
        suffices J4 : ∀ v1 : Int, v1 = (if s1 120 ((32 * a_s) + x_a1) ≠ 0 then 1 else 0 : Int) → G X 0 0 30 [(11, 0), (0, a_s), (0, x_n1), (0, x_a1)] [(0, v1), (0, x_n1)] (m, s1) by
          have J5 : s1 120 ((32 * a_s) + x_a1) ≠ 0 → G X 0 0 25 [(11, 0), (0, a_s), (0, x_n1), (0, x_a1)] [(0, x_n1)] (m, s1) := by
            intro h4
            refine g_iconst h 25 dX8_blocksOf_25 ?_
            refine g_goto h 26 30 dX8_blocksOf_26 (by decide) ?_
            exact J4 _ (if_pos h4).symm
          have J6 : ¬ (s1 120 ((32 * a_s) + x_a1) ≠ 0) → G X 0 0 29 [(11, 0), (0, a_s), (0, x_n1), (0, x_a1)] [(0, x_n1)] (m, s1) := by
            intro h5
            refine g_iconst h 29 dX8_blocksOf_29 ?_
            exact J4 _ (if_neg h5).symm
          refine g_aload_nq h 11 dX8_blocksOf_11 rfl rfl ?_
          refine gf_M_block h 12 dX8_blocksOf_12 kw_1026 ?_
          refine g_bipush h 15 dX8_blocksOf_15 (by decide) ?_
          refine g_iload_n h 17 dX8_blocksOf_17 rfl ?_
          refine g_imul h 18 dX8_blocksOf_18 ?_
          refine g_iload_n h 19 dX8_blocksOf_19 rfl ?_
          refine g_iadd h 20 dX8_blocksOf_20 ?_
          refine al_M_block h 21 dX8_blocksOf_21 (by omega) ?_
          refine g_if_eq h 22 29 (gRi (by omega)) dX8_blocksOf_22 (by decide) (fun h3 => ?_) (fun h3 => ?_)
          · exact J6 (fun q => q h3)
          · exact J5 h3
        intro v1 e1
        subst e1
        refine g_iadd h 30 dX8_blocksOf_30 ?_
        refine g_istore_n h 31 dX8_blocksOf_31 (Nat.le_of_ble_eq_true rfl) rfl (L' := [(11, 0), (0, a_s), (0, x_n1 + (if s1 120 ((32 * a_s) + x_a1) ≠ 0 then 1 else 0 : Int)), (0, x_a1)]) rfl ?_
        refine g_iinc h 32 dX8_blocksOf_32 rfl rfl (L' := [(11, 0), (0, a_s), (0, x_n1 + (if s1 120 ((32 * a_s) + x_a1) ≠ 0 then 1 else 0 : Int)), (0, x_a1 + 4)]) rfl ?_
        refine g_goto h 35 4 dX8_blocksOf_35 (by decide) ?_
        obtain ⟨q3, hF⟩ := gd_some hF
        rw [ek1] at hF
        exact ih1 _ _ _ (by omega) (by omega) hF
      have J3 : ¬ (x_a1 < 32) → G X 0 0 38 [(11, 0), (0, a_s), (0, x_n1), (0, x_a1)] [] (m, s1) := by
        intro h6
        have hF := ite_f h6 hF
        refine g_iload_n h 38 dX8_blocksOf_38 rfl ?_
        obtain ⟨e1, e2⟩ := some_2 hF
        rw [← e1, ← e2] at hE
        exact g_iret h 39 dX8_blocksOf_39 hE rfl rfl ⟨(Nat.le_of_ble_eq_true rfl), (Nat.le_of_ble_eq_true rfl)⟩
      refine g_iload_n h 4 dX8_blocksOf_4 rfl ?_
      refine g_bipush h 5 dX8_blocksOf_5 (by decide) ?_
      refine g_icmp_ge h 7 38 (gRi (by omega)) (gRi (by omega)) dX8_blocksOf_7 (by decide) (fun h1 => ?_) (fun h1 => ?_)
      · exact J3 (Int.not_lt.mpr h1)
      · exact J2 h1
  exact J7 _ _ _ _ (by omega) (by omega) hF
-- PagewrightModel.enlist
def FX8_enlist (a_f a_l : Int) (s : S2) : Option (Int × S2) :=
  gd (0 ≤ a_f ∧ a_f ≤ 23) <| gd (0 ≤ a_l ∧ a_l ≤ 1) <| bn (upd2 s 123 a_f a_l) fun s1 => gd (0 ≤ (24 * a_l) + (s1 129 a_l) ∧ (24 * a_l) + (s1 129 a_l) ≤ 47) <| bn (upd2 s1 128 ((24 * a_l) + (s1 129 a_l)) a_f) fun s2 => gd (0 ≤ (s2 129 a_l) + 1 ∧ (s2 129 a_l) + 1 ≤ 24) <| bn (upd2 s2 129 a_l ((s2 129 a_l) + 1)) fun s3 => some (0, s3)
set_option maxRecDepth 100000 in
set_option maxHeartbeats 4000000 in
theorem ctX8_enlist {l : Launch} {w : gW} {bs : Nat} (hl : l.stackTraces = false) {a_f a_l : Int} {s m s0 : S2} {r0 : Int} (hF : FX8_enlist a_f a_l s = some (r0, s0)) : gMet l w bs yX8_enlist cX8_enlist 3 none 0 0 [(11, 0), (0, a_f), (0, a_l)] (m, s) 0 none (m, s0) := by
  unfold FX8_enlist at hF
  obtain ⟨q_a_f, hF⟩ := gd_some hF
  obtain ⟨q_a_l, hF⟩ := gd_some hF
  refine g_start hl (by decide) (Nat.le_of_ble_eq_true rfl) rfl fun X h hE => ?_
  have h : gOk X "PagewrightModel" cX8_enlist 3 0 0 0 := h
  have hE : gEnd X l w bs 0 none 0 none (m, s0) := hE
  show G X 0 0 0 [(11, 0), (0, a_f), (0, a_l)] [] (m, s)
  refine g_aload_nq h 0 dX8_enlist_0 rfl rfl ?_
  refine gf_M_list h 1 dX8_enlist_1 kw_1029 ?_
  refine g_iload_n h 4 dX8_enlist_4 rfl ?_
  refine g_iload_n h 5 dX8_enlist_5 rfl ?_
  obtain ⟨s1, es1, hF⟩ := bn_ex hF
  refine as_M_list h 6 dX8_enlist_6 (by omega) (by omega) ?_
  rw [← es1]
  refine g_aload_nq h 7 dX8_enlist_7 rfl rfl ?_
  refine gf_M_row h 8 dX8_enlist_8 kw_1034 ?_
  refine G_typ fun hT_s1 => ?_
  have t1 : 0 ≤ s1 129 a_l ∧ s1 129 a_l ≤ 24 := hT_s1.2 129 a_l
  refine g_bipush h 11 dX8_enlist_11 (by decide) ?_
  refine g_iload_n h 13 dX8_enlist_13 rfl ?_
  refine g_imul h 14 dX8_enlist_14 ?_
  refine g_aload_nq h 15 dX8_enlist_15 rfl rfl ?_
  refine gf_M_many h 16 dX8_enlist_16 kw_1035 ?_
  refine g_iload_n h 19 dX8_enlist_19 rfl ?_
  refine al_M_many h 20 dX8_enlist_20 (by omega) ?_
  refine g_iadd h 21 dX8_enlist_21 ?_
  obtain ⟨q1, hF⟩ := gd_some hF
  refine g_iload_n h 22 dX8_enlist_22 rfl ?_
  obtain ⟨s2, es2, hF⟩ := bn_ex hF
  refine as_M_row h 23 dX8_enlist_23 (by omega) (by omega) ?_
  rw [← es2]
  refine g_aload_nq h 24 dX8_enlist_24 rfl rfl ?_
  refine gf_M_many h 25 dX8_enlist_25 kw_1035 ?_
  refine g_iload_n h 28 dX8_enlist_28 rfl ?_
  refine G_typ fun hT_s2 => ?_
  have t2 : 0 ≤ s2 129 a_l ∧ s2 129 a_l ≤ 24 := hT_s2.2 129 a_l
  refine g_dup2 h 29 dX8_enlist_29 (show (0 : Nat) ≠ 2 by decide) (show (47 : Nat) ≠ 2 by decide) ?_
  refine al_M_many h 30 dX8_enlist_30 (by omega) ?_
  refine g_iconst h 31 dX8_enlist_31 ?_
  refine g_iadd h 32 dX8_enlist_32 ?_
  obtain ⟨q2, hF⟩ := gd_some hF
  obtain ⟨s3, es3, hF⟩ := bn_ex hF
  refine as_M_many h 33 dX8_enlist_33 (by omega) (by omega) ?_
  rw [← es3]
  obtain ⟨e1, e2⟩ := some_2 hF
  rw [← e2] at hE
  exact g_vret h 34 dX8_enlist_34 hE rfl ⟨(Nat.le_of_ble_eq_true rfl), (Nat.le_of_ble_eq_true rfl)⟩
-- PagewrightModel.forgets
def FX8_forgets (a_e : Int) (s : S2) : Option (Int × S2) :=
  gd (0 ≤ a_e ∧ a_e ≤ 191) <| gl1 1000 (fun k1 (x_k1 : Int) (s1 : S2) => if x_k1 < s1 105 0 then bn (upd2 s1 141 x_k1 (if s1 141 x_k1 = a_e then (-1) else s1 141 x_k1 : Int)) fun s2 => k1 (x_k1 + 1) s2 else some (0, s1)) 0 s
set_option maxRecDepth 100000 in
set_option maxHeartbeats 4000000 in
theorem ctX8_forgets {l : Launch} {w : gW} {bs : Nat} (hl : l.stackTraces = false) {a_e : Int} {s m s0 : S2} {r0 : Int} (hF : FX8_forgets a_e s = some (r0, s0)) : gMet l w bs yX8_forgets cX8_forgets 3 none 0 0 [(11, 0), (0, a_e)] (m, s) 0 none (m, s0) := by
  unfold FX8_forgets at hF
  obtain ⟨q_a_e, hF⟩ := gd_some hF
  refine g_start hl (by decide) (Nat.le_of_ble_eq_true rfl) rfl fun X h hE => ?_
  have h : gOk X "PagewrightModel" cX8_forgets 3 0 0 0 := h
  have hE : gEnd X l w bs 0 none 0 none (m, s0) := hE
  show G X 0 0 0 [(11, 0), (0, a_e), (1, 0)] [] (m, s)
  refine g_iconst h 0 dX8_forgets_0 ?_
  refine g_istore_n h 1 dX8_forgets_1 (Nat.le_of_ble_eq_true rfl) rfl (L' := [(11, 0), (0, a_e), (0, 0)]) rfl ?_
  obtain ⟨f1, ef1, hF⟩ := glx1 hF
  have J7 : ∀ (n1 : Nat) (x_k1 : Int) (s1 : S2), (0 ≤ x_k1 ∧ x_k1 ≤ 192) → gl1 n1 f1 x_k1 s1 = some (r0, s0) → G X 0 0 2 [(11, 0), (0, a_e), (0, x_k1)] [] (m, s1) := by
    intro n1
    induction n1 with
    | zero => intro x_k1 s1 _ hF; exact (gl1_0 hF).elim
    | succ n1 ih1 =>
      intro x_k1 s1 q1 hF
      obtain ⟨k1, ek1, hF⟩ := glu1 hF ef1
      refine G_typ fun hT_s1 => ?_
      have t1 : 0 ≤ s1 105 0 ∧ s1 105 0 ≤ 192 := hT_s1.2 105 0
      have J2 : x_k1 < s1 105 0 → G X 0 0 10 [(11, 0), (0, a_e), (0, x_k1)] [] (m, s1) := by
        intro h2
        have hF := ite_t h2 hF
        refine g_aload_nq h 10 dX8_forgets_10 rfl rfl ?_
        refine gf_M_looks h 11 dX8_forgets_11 kw_1050 ?_
        refine g_iload_n h 14 dX8_forgets_14 rfl ?_
        have t2 : (-1) ≤ s1 141 x_k1 ∧ s1 141 x_k1 ≤ 191 := hT_s1.2 141 x_k1
        suffices J4 : ∀ v1 : Int, v1 = (if s1 141 x_k1 = a_e then (-1) else s1 141 x_k1 : Int) → G X 0 0 35 [(11, 0), (0, a_e), (0, x_k1)] [(0, v1), (0, x_k1), (59, 0)] (m, s1) by
          have J5 : s1 141 x_k1 = a_e → G X 0 0 25 [(11, 0), (0, a_e), (0, x_k1)] [(0, x_k1), (59, 0)] (m, s1) := by
            intro h4
            refine g_iconst h 25 dX8_forgets_25 ?_
            refine g_goto h 26 35 dX8_forgets_26 (by decide) ?_
            exact J4 _ (if_pos h4).symm
          have J6 : ¬ (s1 141 x_k1 = a_e) → G X 0 0 29 [(11, 0), (0, a_e), (0, x_k1)] [(0, x_k1), (59, 0)] (m, s1) := by
            intro h5
            refine g_aload_nq h 29 dX8_forgets_29 rfl rfl ?_
            refine gf_M_looks h 30 dX8_forgets_30 kw_1050 ?_
            refine g_iload_n h 33 dX8_forgets_33 rfl ?_
            refine al_M_looks h 34 dX8_forgets_34 (by omega) ?_
            exact J4 _ (if_neg h5).symm
          refine g_aload_nq h 15 dX8_forgets_15 rfl rfl ?_
          refine gf_M_looks h 16 dX8_forgets_16 kw_1050 ?_
          refine g_iload_n h 19 dX8_forgets_19 rfl ?_
          refine al_M_looks h 20 dX8_forgets_20 (by omega) ?_
          refine g_iload_n h 21 dX8_forgets_21 rfl ?_
          refine g_icmp_ne h 22 29 (gRi (by omega)) (gRi (by omega)) dX8_forgets_22 (by decide) (fun h3 => ?_) (fun h3 => ?_)
          · exact J6 h3
          · exact J5 h3
        intro v1 e1
        subst e1
        obtain ⟨s2, es2, hF⟩ := bn_ex hF
        refine as_M_looks h 35 dX8_forgets_35 (by omega) (by omega) ?_
        rw [← es2]
        refine g_iinc h 36 dX8_forgets_36 rfl rfl (L' := [(11, 0), (0, a_e), (0, x_k1 + 1)]) rfl ?_
        refine g_goto h 39 2 dX8_forgets_39 (by decide) ?_
        rw [ek1] at hF
        exact ih1 _ _ (by omega) hF
      have J3 : ¬ (x_k1 < s1 105 0) → G X 0 0 42 [(11, 0), (0, a_e), (0, x_k1)] [] (m, s1) := by
        intro h6
        have hF := ite_f h6 hF
        obtain ⟨e1, e2⟩ := some_2 hF
        rw [← e2] at hE
        exact g_vret h 42 dX8_forgets_42 hE rfl ⟨(Nat.le_of_ble_eq_true rfl), (Nat.le_of_ble_eq_true rfl)⟩
      refine g_iload_n h 2 dX8_forgets_2 rfl ?_
      refine g_aload_nq h 3 dX8_forgets_3 rfl rfl ?_
      refine gf_M_looked h 4 dX8_forgets_4 kw_1049 ?_
      refine g_icmp_ge h 7 42 (gRi (by omega)) (gRi (by omega)) dX8_forgets_7 (by decide) (fun h1 => ?_) (fun h1 => ?_)
      · exact J3 (Int.not_lt.mpr h1)
      · exact J2 h1
  exact J7 _ _ _ (by omega) hF
-- PagewrightModel.freePlace
def FX8_freePlace (s : S2) : Option (Int × S2) :=
  rgd (-1) 9 <| gl1 1000 (fun k1 (x_p1 : Int) (s1 : S2) => if x_p1 < 10 then gl2 1000 (fun k2 (x_free1 : Int) (x_r1 : Int) (s2 : S2) => if x_r1 < 18 then k2 (gAnd x_free1 (if s2 132 x_r1 ≠ x_p1 then 1 else 0 : Int)) (x_r1 + 1) s2 else if x_free1 ≠ 0 then some (x_p1, s2) else k1 (x_p1 + 1) s2) 1 0 s1 else some ((-1), s1)) 0 s
theorem rgX8_freePlace {s s0 : S2} {r0 : Int} (hF : FX8_freePlace s = some (r0, s0)) : (-1) ≤ r0 ∧ r0 ≤ 9 := (rgd_some hF).2
set_option maxRecDepth 100000 in
set_option maxHeartbeats 4000000 in
theorem ctX8_freePlace {l : Launch} {w : gW} {bs : Nat} (hl : l.stackTraces = false) {s m s0 : S2} {r0 : Int} (hF : FX8_freePlace s = some (r0, s0)) : gMet l w bs yX8_freePlace cX8_freePlace 4 (some FieldType.int) 0 0 [(11, 0)] (m, s) 0 (some (0, r0)) (m, s0) := by
  unfold FX8_freePlace at hF
  obtain ⟨hF, hr⟩ := rgd_some hF
  refine g_start hl (by decide) (Nat.le_of_ble_eq_true rfl) rfl fun X h hE => ?_
  have h : gOk X "PagewrightModel" cX8_freePlace 4 0 0 0 := h
  have hE : gEnd X l w bs 0 (some FieldType.int) 0 (some (0, r0)) (m, s0) := hE
  show G X 0 0 0 [(11, 0), (1, 0), (1, 0), (1, 0)] [] (m, s)
  refine g_iconst h 0 dX8_freePlace_0 ?_
  refine g_istore_n h 1 dX8_freePlace_1 (Nat.le_of_ble_eq_true rfl) rfl (L' := [(11, 0), (0, 0), (1, 0), (1, 0)]) rfl ?_
  obtain ⟨f1, ef1, hF⟩ := glx1 hF
  have J13 : ∀ (n1 : Nat) (x_p1 : Int) (s1 : S2), (0 ≤ x_p1 ∧ x_p1 ≤ 10) → gl1 n1 f1 x_p1 s1 = some (r0, s0) → G X 0 0 2 [(11, 0), (0, x_p1), (1, 0), (1, 0)] [] (m, s1) := by
    intro n1
    induction n1 with
    | zero => intro x_p1 s1 _ hF; exact (gl1_0 hF).elim
    | succ n1 ih1 =>
      intro x_p1 s1 q1 hF
      obtain ⟨k1, ek1, hF⟩ := glu1 hF ef1
      have J2 : x_p1 < 10 → G X 0 0 8 [(11, 0), (0, x_p1), (1, 0), (1, 0)] [] (m, s1) := by
        intro h2
        have hF := ite_t h2 hF
        refine g_iconst h 8 dX8_freePlace_8 ?_
        refine g_istore_n h 9 dX8_freePlace_9 (Nat.le_of_ble_eq_true rfl) rfl (L' := [(11, 0), (0, x_p1), (0, 1), (1, 0)]) rfl ?_
        refine g_iconst h 10 dX8_freePlace_10 ?_
        refine g_istore_n h 11 dX8_freePlace_11 (Nat.le_of_ble_eq_true rfl) rfl (L' := [(11, 0), (0, x_p1), (0, 1), (0, 0)]) rfl ?_
        obtain ⟨f2, ef2, hF⟩ := glx2 hF
        have J12 : ∀ (n2 : Nat) (x_free1 x_r1 : Int) (s2 : S2), (0 ≤ x_free1 ∧ x_free1 ≤ 1) → (0 ≤ x_r1 ∧ x_r1 ≤ 18) → gl2 n2 f2 x_free1 x_r1 s2 = some (r0, s0) → G X 0 0 12 [(11, 0), (0, x_p1), (0, x_free1), (0, x_r1)] [] (m, s2) := by
          intro n2
          induction n2 with
          | zero => intro x_free1 x_r1 s2 _ _ hF; exact (gl2_0 hF).elim
          | succ n2 ih2 =>
            intro x_free1 x_r1 s2 q2 q3 hF
            obtain ⟨k2, ek2, hF⟩ := glu2 hF ef2
            have J5 : x_r1 < 18 → G X 0 0 18 [(11, 0), (0, x_p1), (0, x_free1), (0, x_r1)] [] (m, s2) := by
              intro h4
              have hF := ite_t h4 hF
              refine G_typ fun hT_s2 => ?_
              have t1 : (-1) ≤ s2 132 x_r1 ∧ s2 132 x_r1 ≤ 10 := hT_s2.2 132 x_r1
              have t2 : 0 ≤ gAnd x_free1 (if s2 132 x_r1 ≠ x_p1 then 1 else 0 : Int) ∧ gAnd x_free1 (if s2 132 x_r1 ≠ x_p1 then 1 else 0 : Int) ≤ 1 := gAnd_01 (by omega) (by omega)
              refine g_iload_n h 18 dX8_freePlace_18 rfl ?_
              suffices J7 : ∀ v1 : Int, v1 = (if s2 132 x_r1 ≠ x_p1 then 1 else 0 : Int) → G X 0 0 34 [(11, 0), (0, x_p1), (0, x_free1), (0, x_r1)] [(0, v1), (0, x_free1)] (m, s2) by
                have J8 : s2 132 x_r1 ≠ x_p1 → G X 0 0 29 [(11, 0), (0, x_p1), (0, x_free1), (0, x_r1)] [(0, x_free1)] (m, s2) := by
                  intro h6
                  refine g_iconst h 29 dX8_freePlace_29 ?_
                  refine g_goto h 30 34 dX8_freePlace_30 (by decide) ?_
                  exact J7 _ (if_pos h6).symm
                have J9 : ¬ (s2 132 x_r1 ≠ x_p1) → G X 0 0 33 [(11, 0), (0, x_p1), (0, x_free1), (0, x_r1)] [(0, x_free1)] (m, s2) := by
                  intro h7
                  refine g_iconst h 33 dX8_freePlace_33 ?_
                  exact J7 _ (if_neg h7).symm
                refine g_aload_nq h 19 dX8_freePlace_19 rfl rfl ?_
                refine gf_M_place h 20 dX8_freePlace_20 kw_1038 ?_
                refine g_iload_n h 23 dX8_freePlace_23 rfl ?_
                refine al_M_place h 24 dX8_freePlace_24 (by omega) ?_
                refine g_iload_n h 25 dX8_freePlace_25 rfl ?_
                refine g_icmp_eq h 26 33 (gRi (by omega)) (gRi (by omega)) dX8_freePlace_26 (by decide) (fun h5 => ?_) (fun h5 => ?_)
                · exact J9 (fun q => q h5)
                · exact J8 h5
              intro v1 e1
              subst e1
              refine g_iand h 34 dX8_freePlace_34 ?_
              refine g_istore_n h 35 dX8_freePlace_35 (Nat.le_of_ble_eq_true rfl) rfl (L' := [(11, 0), (0, x_p1), (0, gAnd x_free1 (if s2 132 x_r1 ≠ x_p1 then 1 else 0 : Int)), (0, x_r1)]) rfl ?_
              refine g_iinc h 36 dX8_freePlace_36 rfl rfl (L' := [(11, 0), (0, x_p1), (0, gAnd x_free1 (if s2 132 x_r1 ≠ x_p1 then 1 else 0 : Int)), (0, x_r1 + 1)]) rfl ?_
              refine g_goto h 39 12 dX8_freePlace_39 (by decide) ?_
              rw [ek2] at hF
              exact ih2 _ _ _ (by omega) (by omega) hF
            have J6 : ¬ (x_r1 < 18) → G X 0 0 42 [(11, 0), (0, x_p1), (0, x_free1), (0, x_r1)] [] (m, s2) := by
              intro h8
              have hF := ite_f h8 hF
              have J10 : x_free1 ≠ 0 → G X 0 0 46 [(11, 0), (0, x_p1), (0, x_free1), (0, x_r1)] [] (m, s2) := by
                intro h10
                have hF := ite_t h10 hF
                refine g_iload_n h 46 dX8_freePlace_46 rfl ?_
                obtain ⟨e1, e2⟩ := some_2 hF
                rw [← e1, ← e2] at hE
                exact g_iret h 47 dX8_freePlace_47 hE rfl rfl ⟨(Nat.le_of_ble_eq_true rfl), (Nat.le_of_ble_eq_true rfl)⟩
              have J11 : ¬ (x_free1 ≠ 0) → G X 0 0 48 [(11, 0), (0, x_p1), (0, x_free1), (0, x_r1)] [] (m, s2) := by
                intro h11
                have hF := ite_f h11 hF
                refine g_iinc h 48 dX8_freePlace_48 rfl rfl (L' := [(11, 0), (0, x_p1 + 1), (0, x_free1), (0, x_r1)]) rfl ?_
                refine g_goto h 51 2 dX8_freePlace_51 (by decide) ?_
                refine G_weak (L' := [(11, 0), (0, x_p1 + 1), (1, 0), (1, 0)]) ⟨Or.inr rfl, Or.inr rfl, Or.inl rfl, Or.inl rfl, trivial⟩ ?_
                rw [ek1] at hF
                exact ih1 _ _ (by omega) hF
              refine g_iload_n h 42 dX8_freePlace_42 rfl ?_
              refine g_if_eq h 43 48 (gRi (by omega)) dX8_freePlace_43 (by decide) (fun h9 => ?_) (fun h9 => ?_)
              · exact J11 (fun q => q h9)
              · exact J10 h9
            refine g_iload_n h 12 dX8_freePlace_12 rfl ?_
            refine g_bipush h 13 dX8_freePlace_13 (by decide) ?_
            refine g_icmp_ge h 15 42 (gRi (by omega)) (gRi (by omega)) dX8_freePlace_15 (by decide) (fun h3 => ?_) (fun h3 => ?_)
            · exact J6 (Int.not_lt.mpr h3)
            · exact J5 h3
        exact J12 _ _ _ _ (by omega) (by omega) hF
      have J3 : ¬ (x_p1 < 10) → G X 0 0 54 [(11, 0), (0, x_p1), (1, 0), (1, 0)] [] (m, s1) := by
        intro h12
        have hF := ite_f h12 hF
        refine g_iconst h 54 dX8_freePlace_54 ?_
        obtain ⟨e1, e2⟩ := some_2 hF
        rw [← e1, ← e2] at hE
        exact g_iret h 55 dX8_freePlace_55 hE rfl rfl ⟨(Nat.le_of_ble_eq_true rfl), (Nat.le_of_ble_eq_true rfl)⟩
      refine g_iload_n h 2 dX8_freePlace_2 rfl ?_
      refine g_bipush h 3 dX8_freePlace_3 (by decide) ?_
      refine g_icmp_ge h 5 54 (gRi (by omega)) (gRi (by omega)) dX8_freePlace_5 (by decide) (fun h1 => ?_) (fun h1 => ?_)
      · exact J3 (Int.not_lt.mpr h1)
      · exact J2 h1
  exact J13 _ _ _ (by omega) hF
-- PagewrightModel.handles
def FX8_handles (a_p : Int) (s : S2) : Option (Int × S2) :=
  rgd 0 4 <| gd (0 ≤ a_p ∧ a_p ≤ 1) <| gd ((-2147483648) ≤ 4 * a_p ∧ 4 * a_p ≤ 2147483647) <| gl3 1000 (fun k1 (x_n1 : Int) (x_to1 : Int) (x_t1 : Int) (s1 : S2) => if x_t1 < (4 * a_p) + (s1 135 a_p) then bn (fun (x_n2 x_to2 : Int) (s2 : S2) => k1 x_n2 x_to2 (x_t1 + 1) s2) fun k2 => gd (0 ≤ x_t1 ∧ x_t1 ≤ 7) <| if s1 139 x_t1 ≠ 0 then gd ((-2147483648) ≤ x_n1 + 1 ∧ x_n1 + 1 ≤ 2147483647) <| k2 (x_n1 + 1) x_to1 s1 else gd (0 ≤ x_to1 ∧ x_to1 ≤ 7) <| bn (upd2 s1 136 x_to1 (s1 136 x_t1)) fun s3 => bn (upd2 s3 137 x_to1 (s3 137 x_t1)) fun s4 => bn (upd2 s4 138 x_to1 (s4 138 x_t1)) fun s5 => bn (upd2 s5 139 x_to1 0) fun s6 => k2 x_n1 (x_to1 + 1) s6 else gd (0 ≤ x_to1 - (4 * a_p) ∧ x_to1 - (4 * a_p) ≤ 4) <| bn (upd2 s1 135 a_p (x_to1 - (4 * a_p))) fun s7 => some (x_n1, s7)) 0 (4 * a_p) (4 * a_p) s
theorem rgX8_handles {a_p : Int} {s s0 : S2} {r0 : Int} (hF : FX8_handles a_p s = some (r0, s0)) : 0 ≤ r0 ∧ r0 ≤ 4 := (rgd_some hF).2
set_option maxRecDepth 100000 in
set_option maxHeartbeats 4000000 in
theorem ctX8_handles {l : Launch} {w : gW} {bs : Nat} (hl : l.stackTraces = false) {a_p : Int} {s m s0 : S2} {r0 : Int} (hF : FX8_handles a_p s = some (r0, s0)) : gMet l w bs yX8_handles cX8_handles 5 (some FieldType.int) 0 0 [(11, 0), (0, a_p)] (m, s) 0 (some (0, r0)) (m, s0) := by
  unfold FX8_handles at hF
  obtain ⟨hF, hr⟩ := rgd_some hF
  obtain ⟨q_a_p, hF⟩ := gd_some hF
  refine g_start hl (by decide) (Nat.le_of_ble_eq_true rfl) rfl fun X h hE => ?_
  have h : gOk X "PagewrightModel" cX8_handles 5 0 0 0 := h
  have hE : gEnd X l w bs 0 (some FieldType.int) 0 (some (0, r0)) (m, s0) := hE
  show G X 0 0 0 [(11, 0), (0, a_p), (1, 0), (1, 0), (1, 0)] [] (m, s)
  refine g_iconst h 0 dX8_handles_0 ?_
  refine g_istore_n h 1 dX8_handles_1 (Nat.le_of_ble_eq_true rfl) rfl (L' := [(11, 0), (0, a_p), (0, 0), (1, 0), (1, 0)]) rfl ?_
  refine g_iconst h 2 dX8_handles_2 ?_
  refine g_iload_n h 3 dX8_handles_3 rfl ?_
  refine g_imul h 4 dX8_handles_4 ?_
  refine g_istore_n h 5 dX8_handles_5 (Nat.le_of_ble_eq_true rfl) rfl (L' := [(11, 0), (0, a_p), (0, 0), (0, 4 * a_p), (1, 0)]) rfl ?_
  refine g_iconst h 6 dX8_handles_6 ?_
  refine g_iload_n h 7 dX8_handles_7 rfl ?_
  refine g_imul h 8 dX8_handles_8 ?_
  refine g_istore h 9 dX8_handles_9 (Nat.le_of_ble_eq_true rfl) rfl (L' := [(11, 0), (0, a_p), (0, 0), (0, 4 * a_p), (0, 4 * a_p)]) rfl ?_
  obtain ⟨q10, hF⟩ := gd_some hF
  obtain ⟨f1, ef1, hF⟩ := glx3 hF
  have J7 : ∀ (n1 : Nat) (x_n1 x_to1 x_t1 : Int) (s1 : S2), ((-2147483648) ≤ x_n1 ∧ x_n1 ≤ 2147483647) → ((-2147483648) ≤ x_to1 ∧ x_to1 ≤ 2147483647) → ((-2147483648) ≤ x_t1 ∧ x_t1 ≤ 2147483647) → gl3 n1 f1 x_n1 x_to1 x_t1 s1 = some (r0, s0) → G X 0 0 11 [(11, 0), (0, a_p), (0, x_n1), (0, x_to1), (0, x_t1)] [] (m, s1) := by
    intro n1
    induction n1 with
    | zero => intro x_n1 x_to1 x_t1 s1 _ _ _ hF; exact (gl3_0 hF).elim
    | succ n1 ih1 =>
      intro x_n1 x_to1 x_t1 s1 q1 q2 q3 hF
      obtain ⟨k1, ek1, hF⟩ := glu3 hF ef1
      refine G_typ fun hT_s1 => ?_
      have t1 : 0 ≤ s1 135 a_p ∧ s1 135 a_p ≤ 4 := hT_s1.2 135 a_p
      have J2 : x_t1 < (4 * a_p) + (s1 135 a_p) → G X 0 0 26 [(11, 0), (0, a_p), (0, x_n1), (0, x_to1), (0, x_t1)] [] (m, s1) := by
        intro h2
        have hF := ite_t h2 hF
        obtain ⟨k2, ek2, hF⟩ := bn_ex hF
        have J4 : ∀ (x_n2 x_to2 : Int) (s2 : S2), ((-2147483648) ≤ x_n2 ∧ x_n2 ≤ 2147483647) → ((-2147483648) ≤ x_to2 ∧ x_to2 ≤ 2147483647) → k2 x_n2 x_to2 s2 = some (r0, s0) → G X 0 0 91 [(11, 0), (0, a_p), (0, x_n2), (0, x_to2), (0, x_t1)] [] (m, s2) := by
          intro x_n2 x_to2 s2 q7 q8 hF
          rw [ek2] at hF
          refine g_iinc h 91 dX8_handles_91 rfl rfl (L' := [(11, 0), (0, a_p), (0, x_n2), (0, x_to2), (0, x_t1 + 1)]) rfl ?_
          refine g_goto h 94 11 dX8_handles_94 (by decide) ?_
          rw [ek1] at hF
          exact ih1 _ _ _ _ (by omega) (by omega) (by omega) hF
        have t2 : 0 ≤ s1 139 x_t1 ∧ s1 139 x_t1 ≤ 1 := hT_s1.2 139 x_t1
        obtain ⟨q4, hF⟩ := gd_some hF
        have J5 : s1 139 x_t1 ≠ 0 → G X 0 0 36 [(11, 0), (0, a_p), (0, x_n1), (0, x_to1), (0, x_t1)] [] (m, s1) := by
          intro h4
          have hF := ite_t h4 hF
          refine g_iinc h 36 dX8_handles_36 rfl rfl (L' := [(11, 0), (0, a_p), (0, x_n1 + 1), (0, x_to1), (0, x_t1)]) rfl ?_
          refine g_goto h 39 91 dX8_handles_39 (by decide) ?_
          obtain ⟨q5, hF⟩ := gd_some hF
          exact J4 _ _ _ (by omega) (by omega) hF
        have J6 : ¬ (s1 139 x_t1 ≠ 0) → G X 0 0 42 [(11, 0), (0, a_p), (0, x_n1), (0, x_to1), (0, x_t1)] [] (m, s1) := by
          intro h5
          have hF := ite_f h5 hF
          refine g_aload_nq h 42 dX8_handles_42 rfl rfl ?_
          refine gf_M_entry h 43 dX8_handles_43 kw_1043 ?_
          refine g_iload_n h 46 dX8_handles_46 rfl ?_
          obtain ⟨q6, hF⟩ := gd_some hF
          have t3 : 0 ≤ s1 136 x_t1 ∧ s1 136 x_t1 ≤ 191 := hT_s1.2 136 x_t1
          refine g_aload_nq h 47 dX8_handles_47 rfl rfl ?_
          refine gf_M_entry h 48 dX8_handles_48 kw_1043 ?_
          refine g_iload h 51 dX8_handles_51 rfl ?_
          refine al_M_entry h 53 dX8_handles_53 (by omega) ?_
          obtain ⟨s3, es3, hF⟩ := bn_ex hF
          refine as_M_entry h 54 dX8_handles_54 (by omega) (by omega) ?_
          rw [← es3]
          refine g_aload_nq h 55 dX8_handles_55 rfl rfl ?_
          refine gf_M_frame h 56 dX8_handles_56 kw_1044 ?_
          refine g_iload_n h 59 dX8_handles_59 rfl ?_
          refine G_typ fun hT_s3 => ?_
          have t4 : 0 ≤ s3 137 x_t1 ∧ s3 137 x_t1 ≤ 23 := hT_s3.2 137 x_t1
          refine g_aload_nq h 60 dX8_handles_60 rfl rfl ?_
          refine gf_M_frame h 61 dX8_handles_61 kw_1044 ?_
          refine g_iload h 64 dX8_handles_64 rfl ?_
          refine al_M_frame h 66 dX8_handles_66 (by omega) ?_
          obtain ⟨s4, es4, hF⟩ := bn_ex hF
          refine as_M_frame h 67 dX8_handles_67 (by omega) (by omega) ?_
          rw [← es4]
          refine g_aload_nq h 68 dX8_handles_68 rfl rfl ?_
          refine gf_M_may h 69 dX8_handles_69 kw_1045 ?_
          refine g_iload_n h 72 dX8_handles_72 rfl ?_
          refine G_typ fun hT_s4 => ?_
          have t5 : 0 ≤ s4 138 x_t1 ∧ s4 138 x_t1 ≤ 1 := hT_s4.2 138 x_t1
          refine g_aload_nq h 73 dX8_handles_73 rfl rfl ?_
          refine gf_M_may h 74 dX8_handles_74 kw_1045 ?_
          refine g_iload h 77 dX8_handles_77 rfl ?_
          refine al_M_may h 79 dX8_handles_79 (by omega) ?_
          obtain ⟨s5, es5, hF⟩ := bn_ex hF
          refine as_M_may h 80 dX8_handles_80 (by omega) (by omega) ?_
          rw [← es5]
          refine g_aload_nq h 81 dX8_handles_81 rfl rfl ?_
          refine gf_M_waits h 82 dX8_handles_82 kw_1046 ?_
          refine g_iload_n h 85 dX8_handles_85 rfl ?_
          refine g_iconst h 86 dX8_handles_86 ?_
          obtain ⟨s6, es6, hF⟩ := bn_ex hF
          refine as_M_waits h 87 dX8_handles_87 (by omega) (by omega) ?_
          rw [← es6]
          refine g_iinc h 88 dX8_handles_88 rfl rfl (L' := [(11, 0), (0, a_p), (0, x_n1), (0, x_to1 + 1), (0, x_t1)]) rfl ?_
          exact J4 _ _ _ (by omega) (by omega) hF
        refine g_aload_nq h 26 dX8_handles_26 rfl rfl ?_
        refine gf_M_waits h 27 dX8_handles_27 kw_1046 ?_
        refine g_iload h 30 dX8_handles_30 rfl ?_
        refine al_M_waits h 32 dX8_handles_32 (by omega) ?_
        refine g_if_eq h 33 42 (gRi (by omega)) dX8_handles_33 (by decide) (fun h3 => ?_) (fun h3 => ?_)
        · exact J6 (fun q => q h3)
        · exact J5 h3
      have J3 : ¬ (x_t1 < (4 * a_p) + (s1 135 a_p)) → G X 0 0 97 [(11, 0), (0, a_p), (0, x_n1), (0, x_to1), (0, x_t1)] [] (m, s1) := by
        intro h6
        have hF := ite_f h6 hF
        refine g_aload_nq h 97 dX8_handles_97 rfl rfl ?_
        refine gf_M_cached h 98 dX8_handles_98 kw_1042 ?_
        refine g_iload_n h 101 dX8_handles_101 rfl ?_
        refine g_iload_n h 102 dX8_handles_102 rfl ?_
        refine g_iconst h 103 dX8_handles_103 ?_
        refine g_iload_n h 104 dX8_handles_104 rfl ?_
        refine g_imul h 105 dX8_handles_105 ?_
        refine g_isub h 106 dX8_handles_106 ?_
        obtain ⟨q9, hF⟩ := gd_some hF
        obtain ⟨s7, es7, hF⟩ := bn_ex hF
        refine as_M_cached h 107 dX8_handles_107 (by omega) (by omega) ?_
        rw [← es7]
        refine g_iload_n h 108 dX8_handles_108 rfl ?_
        obtain ⟨e1, e2⟩ := some_2 hF
        rw [← e1, ← e2] at hE
        exact g_iret h 109 dX8_handles_109 hE rfl rfl ⟨(Nat.le_of_ble_eq_true rfl), (Nat.le_of_ble_eq_true rfl)⟩
      refine g_iload h 11 dX8_handles_11 rfl ?_
      refine g_iconst h 13 dX8_handles_13 ?_
      refine g_iload_n h 14 dX8_handles_14 rfl ?_
      refine g_imul h 15 dX8_handles_15 ?_
      refine g_aload_nq h 16 dX8_handles_16 rfl rfl ?_
      refine gf_M_cached h 17 dX8_handles_17 kw_1042 ?_
      refine g_iload_n h 20 dX8_handles_20 rfl ?_
      refine al_M_cached h 21 dX8_handles_21 (by omega) ?_
      refine g_iadd h 22 dX8_handles_22 ?_
      refine g_icmp_ge h 23 97 (gRi (by omega)) (gRi (by omega)) dX8_handles_23 (by decide) (fun h1 => ?_) (fun h1 => ?_)
      · exact J3 (Int.not_lt.mpr h1)
      · exact J2 h1
  exact J7 _ _ _ _ _ (by omega) (by omega) (by omega) hF
-- PagewrightModel.has
set_option maxRecDepth 100000 in
theorem cpX8_has {l : Launch} {w : gW} {bs : Nat} (hl : l.stackTraces = false) {a_e a_f : Int} {s m : S2} (q_a_e : 0 ≤ a_e ∧ a_e ≤ 191) (q_a_f : (-2147483648) ≤ a_f ∧ a_f ≤ 2147483647) : gMet l w bs yX8_has cX8_has 3 (some FieldType.boolean) 0 0 [(11, 0), (0, a_e), (0, a_f)] (m, s) 0 (some (0, (if ((0 < s 111 a_e) ∧ (s 116 a_e = 1)) ∧ (s 117 a_e = a_f) then 1 else 0 : Int))) (m, s) := by
  refine g_start hl (by decide) (Nat.le_of_ble_eq_true rfl) rfl fun X h hE => ?_
  have h : gOk X "PagewrightModel" cX8_has 3 0 0 0 := h
  show G X 0 0 0 [(11, 0), (0, a_e), (0, a_f)] [] (m, s)
  refine G_typ fun hT_s => ?_
  have t1 : 0 ≤ s 111 a_e ∧ s 111 a_e ≤ 3 := hT_s.2 111 a_e
  have t2 : 0 ≤ s 116 a_e ∧ s 116 a_e ≤ 2 := hT_s.2 116 a_e
  have t3 : 0 ≤ s 117 a_e ∧ s 117 a_e ≤ 23 := hT_s.2 117 a_e
  suffices J1 : ∀ v1 : Int, v1 = (if ((0 < s 111 a_e) ∧ (s 116 a_e = 1)) ∧ (s 117 a_e = a_f) then 1 else 0 : Int) → G X 0 0 34 [(11, 0), (0, a_e), (0, a_f)] [(0, v1)] (m, s) by
    have J2 : ((0 < s 111 a_e) ∧ (s 116 a_e = 1)) ∧ (s 117 a_e = a_f) → G X 0 0 29 [(11, 0), (0, a_e), (0, a_f)] [] (m, s) := by
      intro h4
      refine g_iconst h 29 dX8_has_29 ?_
      refine g_goto h 30 34 dX8_has_30 (by decide) ?_
      exact J1 _ (if_pos h4).symm
    have J3 : ¬ (((0 < s 111 a_e) ∧ (s 116 a_e = 1)) ∧ (s 117 a_e = a_f)) → G X 0 0 33 [(11, 0), (0, a_e), (0, a_f)] [] (m, s) := by
      intro h5
      refine g_iconst h 33 dX8_has_33 ?_
      exact J1 _ (if_neg h5).symm
    refine g_aload_nq h 0 dX8_has_0 rfl rfl ?_
    refine gf_M_rights h 1 dX8_has_1 kw_1017 ?_
    refine g_iload_n h 4 dX8_has_4 rfl ?_
    refine al_M_rights h 5 dX8_has_5 (by omega) ?_
    refine g_if_le h 6 33 (gRi (by omega)) dX8_has_6 (by decide) (fun h1 => ?_) (fun h1 => ?_)
    · exact J3 (fun q => (fun q => (Int.not_lt.mpr h1) q.1) q.1)
    · refine g_aload_nq h 9 dX8_has_9 rfl rfl ?_
      refine gf_M_state h 10 dX8_has_10 kw_1022 ?_
      refine g_iload_n h 13 dX8_has_13 rfl ?_
      refine al_M_state h 14 dX8_has_14 (by omega) ?_
      refine g_iconst h 15 dX8_has_15 ?_
      refine g_icmp_ne h 16 33 (gRi (by omega)) (gRi (by omega)) dX8_has_16 (by decide) (fun h2 => ?_) (fun h2 => ?_)
      · exact J3 (fun q => (fun q => h2 q.2) q.1)
      · refine g_aload_nq h 19 dX8_has_19 rfl rfl ?_
        refine gf_M_page h 20 dX8_has_20 kw_1023 ?_
        refine g_iload_n h 23 dX8_has_23 rfl ?_
        refine al_M_page h 24 dX8_has_24 (by omega) ?_
        refine g_iload_n h 25 dX8_has_25 rfl ?_
        refine g_icmp_ne h 26 33 (gRi (by omega)) (gRi (by omega)) dX8_has_26 (by decide) (fun h3 => ?_) (fun h3 => ?_)
        · exact J3 (fun q => h3 q.2)
        · exact J2 ⟨⟨h1, h2⟩, h3⟩
  intro v1 e1
  subst e1
  exact g_iret h 34 dX8_has_34 hE rfl (g_nb (by first | omega | (split <;> decide))) ⟨(Nat.le_of_ble_eq_true rfl), (Nat.le_of_ble_eq_true rfl)⟩
-- PagewrightModel.in
set_option maxRecDepth 100000 in
theorem cpX8_in {l : Launch} {w : gW} {bs : Nat} (hl : l.stackTraces = false) {a_v a_low a_high : Int} {s m : S2} (q_a_v : (-2147483648) ≤ a_v ∧ a_v ≤ 2147483647) (q_a_low : (-2147483648) ≤ a_low ∧ a_low ≤ 2147483647) (q_a_high : (-2147483648) ≤ a_high ∧ a_high ≤ 2147483647) : gMet l w bs yX8_in cX8_in 3 (some FieldType.boolean) 0 0 [(0, a_v), (0, a_low), (0, a_high)] (m, s) 0 (some (0, (if (a_low ≤ a_v) ∧ (a_v ≤ a_high) then 1 else 0 : Int))) (m, s) := by
  refine g_start hl (by decide) (Nat.le_of_ble_eq_true rfl) rfl fun X h hE => ?_
  have h : gOk X "PagewrightModel" cX8_in 3 0 0 0 := h
  show G X 0 0 0 [(0, a_v), (0, a_low), (0, a_high)] [] (m, s)
  suffices J1 : ∀ v1 : Int, v1 = (if (a_low ≤ a_v) ∧ (a_v ≤ a_high) then 1 else 0 : Int) → G X 0 0 15 [(0, a_v), (0, a_low), (0, a_high)] [(0, v1)] (m, s) by
    have J2 : (a_low ≤ a_v) ∧ (a_v ≤ a_high) → G X 0 0 10 [(0, a_v), (0, a_low), (0, a_high)] [] (m, s) := by
      intro h3
      refine g_iconst h 10 dX8_in_10 ?_
      refine g_goto h 11 15 dX8_in_11 (by decide) ?_
      exact J1 _ (if_pos h3).symm
    have J3 : ¬ ((a_low ≤ a_v) ∧ (a_v ≤ a_high)) → G X 0 0 14 [(0, a_v), (0, a_low), (0, a_high)] [] (m, s) := by
      intro h4
      refine g_iconst h 14 dX8_in_14 ?_
      exact J1 _ (if_neg h4).symm
    refine g_iload_n h 0 dX8_in_0 rfl ?_
    refine g_iload_n h 1 dX8_in_1 rfl ?_
    refine g_icmp_lt h 2 14 (gRi (by omega)) (gRi (by omega)) dX8_in_2 (by decide) (fun h1 => ?_) (fun h1 => ?_)
    · exact J3 (fun q => (Int.not_le.mpr h1) q.1)
    · refine g_iload_n h 5 dX8_in_5 rfl ?_
      refine g_iload_n h 6 dX8_in_6 rfl ?_
      refine g_icmp_gt h 7 14 (gRi (by omega)) (gRi (by omega)) dX8_in_7 (by decide) (fun h2 => ?_) (fun h2 => ?_)
      · exact J3 (fun q => (Int.not_le.mpr h2) q.2)
      · exact J2 ⟨h1, h2⟩
  intro v1 e1
  subst e1
  exact g_iret h 15 dX8_in_15 hE rfl (g_nb (by first | omega | (split <;> decide))) ⟨(Nat.le_of_ble_eq_true rfl), (Nat.le_of_ble_eq_true rfl)⟩
-- PagewrightModel.inState
def FX8_inState (a_s a_its : Int) (s : S2) : Option (Int × S2) :=
  rgd 0 32 <| gd (0 ≤ a_s ∧ a_s ≤ 5) <| gd (0 ≤ a_its ∧ a_its ≤ 2) <| gd ((-2147483648) ≤ 32 * a_s ∧ 32 * a_s ≤ 2147483647) <| gl2 1000 (fun k1 (x_n1 : Int) (x_e1 : Int) (s1 : S2) => if x_e1 < (32 * a_s) + 32 then gd (0 ≤ x_e1 ∧ x_e1 ≤ 191) <| gd ((-2147483648) ≤ x_n1 + (if (0 < s1 111 x_e1) ∧ (s1 116 x_e1 = a_its) then 1 else 0 : Int) ∧ x_n1 + (if (0 < s1 111 x_e1) ∧ (s1 116 x_e1 = a_its) then 1 else 0 : Int) ≤ 2147483647) <| k1 (x_n1 + (if (0 < s1 111 x_e1) ∧ (s1 116 x_e1 = a_its) then 1 else 0 : Int)) (x_e1 + 1) s1 else some (x_n1, s1)) 0 (32 * a_s) s
theorem rgX8_inState {a_s a_its : Int} {s s0 : S2} {r0 : Int} (hF : FX8_inState a_s a_its s = some (r0, s0)) : 0 ≤ r0 ∧ r0 ≤ 32 := (rgd_some hF).2
set_option maxRecDepth 100000 in
set_option maxHeartbeats 4000000 in
theorem ctX8_inState {l : Launch} {w : gW} {bs : Nat} (hl : l.stackTraces = false) {a_s a_its : Int} {s m s0 : S2} {r0 : Int} (hF : FX8_inState a_s a_its s = some (r0, s0)) : gMet l w bs yX8_inState cX8_inState 5 (some FieldType.int) 0 0 [(11, 0), (0, a_s), (0, a_its)] (m, s) 0 (some (0, r0)) (m, s0) := by
  unfold FX8_inState at hF
  obtain ⟨hF, hr⟩ := rgd_some hF
  obtain ⟨q_a_s, hF⟩ := gd_some hF
  obtain ⟨q_a_its, hF⟩ := gd_some hF
  refine g_start hl (by decide) (Nat.le_of_ble_eq_true rfl) rfl fun X h hE => ?_
  have h : gOk X "PagewrightModel" cX8_inState 5 0 0 0 := h
  have hE : gEnd X l w bs 0 (some FieldType.int) 0 (some (0, r0)) (m, s0) := hE
  show G X 0 0 0 [(11, 0), (0, a_s), (0, a_its), (1, 0), (1, 0)] [] (m, s)
  refine g_iconst h 0 dX8_inState_0 ?_
  refine g_istore_n h 1 dX8_inState_1 (Nat.le_of_ble_eq_true rfl) rfl (L' := [(11, 0), (0, a_s), (0, a_its), (0, 0), (1, 0)]) rfl ?_
  refine g_bipush h 2 dX8_inState_2 (by decide) ?_
  refine g_iload_n h 4 dX8_inState_4 rfl ?_
  refine g_imul h 5 dX8_inState_5 ?_
  refine g_istore h 6 dX8_inState_6 (Nat.le_of_ble_eq_true rfl) rfl (L' := [(11, 0), (0, a_s), (0, a_its), (0, 0), (0, 32 * a_s)]) rfl ?_
  obtain ⟨q5, hF⟩ := gd_some hF
  obtain ⟨f1, ef1, hF⟩ := glx2 hF
  have J7 : ∀ (n1 : Nat) (x_n1 x_e1 : Int) (s1 : S2), ((-2147483648) ≤ x_n1 ∧ x_n1 ≤ 2147483647) → ((-2147483648) ≤ x_e1 ∧ x_e1 ≤ 2147483647) → gl2 n1 f1 x_n1 x_e1 s1 = some (r0, s0) → G X 0 0 8 [(11, 0), (0, a_s), (0, a_its), (0, x_n1), (0, x_e1)] [] (m, s1) := by
    intro n1
    induction n1 with
    | zero => intro x_n1 x_e1 s1 _ _ hF; exact (gl2_0 hF).elim
    | succ n1 ih1 =>
      intro x_n1 x_e1 s1 q1 q2 hF
      obtain ⟨k1, ek1, hF⟩ := glu2 hF ef1
      have J2 : x_e1 < (32 * a_s) + 32 → G X 0 0 20 [(11, 0), (0, a_s), (0, a_its), (0, x_n1), (0, x_e1)] [] (m, s1) := by
        intro h2
        have hF := ite_t h2 hF
        refine G_typ fun hT_s1 => ?_
        have t1 : 0 ≤ s1 111 x_e1 ∧ s1 111 x_e1 ≤ 3 := hT_s1.2 111 x_e1
        have t2 : 0 ≤ s1 116 x_e1 ∧ s1 116 x_e1 ≤ 2 := hT_s1.2 116 x_e1
        obtain ⟨q3, hF⟩ := gd_some hF
        refine g_iload_n h 20 dX8_inState_20 rfl ?_
        suffices J4 : ∀ v1 : Int, v1 = (if (0 < s1 111 x_e1) ∧ (s1 116 x_e1 = a_its) then 1 else 0 : Int) → G X 0 0 47 [(11, 0), (0, a_s), (0, a_its), (0, x_n1), (0, x_e1)] [(0, v1), (0, x_n1)] (m, s1) by
          have J5 : (0 < s1 111 x_e1) ∧ (s1 116 x_e1 = a_its) → G X 0 0 42 [(11, 0), (0, a_s), (0, a_its), (0, x_n1), (0, x_e1)] [(0, x_n1)] (m, s1) := by
            intro h5
            refine g_iconst h 42 dX8_inState_42 ?_
            refine g_goto h 43 47 dX8_inState_43 (by decide) ?_
            exact J4 _ (if_pos h5).symm
          have J6 : ¬ ((0 < s1 111 x_e1) ∧ (s1 116 x_e1 = a_its)) → G X 0 0 46 [(11, 0), (0, a_s), (0, a_its), (0, x_n1), (0, x_e1)] [(0, x_n1)] (m, s1) := by
            intro h6
            refine g_iconst h 46 dX8_inState_46 ?_
            exact J4 _ (if_neg h6).symm
          refine g_aload_nq h 21 dX8_inState_21 rfl rfl ?_
          refine gf_M_rights h 22 dX8_inState_22 kw_1017 ?_
          refine g_iload h 25 dX8_inState_25 rfl ?_
          refine al_M_rights h 27 dX8_inState_27 (by omega) ?_
          refine g_if_le h 28 46 (gRi (by omega)) dX8_inState_28 (by decide) (fun h3 => ?_) (fun h3 => ?_)
          · exact J6 (fun q => (Int.not_lt.mpr h3) q.1)
          · refine g_aload_nq h 31 dX8_inState_31 rfl rfl ?_
            refine gf_M_state h 32 dX8_inState_32 kw_1022 ?_
            refine g_iload h 35 dX8_inState_35 rfl ?_
            refine al_M_state h 37 dX8_inState_37 (by omega) ?_
            refine g_iload_n h 38 dX8_inState_38 rfl ?_
            refine g_icmp_ne h 39 46 (gRi (by omega)) (gRi (by omega)) dX8_inState_39 (by decide) (fun h4 => ?_) (fun h4 => ?_)
            · exact J6 (fun q => h4 q.2)
            · exact J5 ⟨h3, h4⟩
        intro v1 e1
        subst e1
        refine g_iadd h 47 dX8_inState_47 ?_
        refine g_istore_n h 48 dX8_inState_48 (Nat.le_of_ble_eq_true rfl) rfl (L' := [(11, 0), (0, a_s), (0, a_its), (0, x_n1 + (if (0 < s1 111 x_e1) ∧ (s1 116 x_e1 = a_its) then 1 else 0 : Int)), (0, x_e1)]) rfl ?_
        refine g_iinc h 49 dX8_inState_49 rfl rfl (L' := [(11, 0), (0, a_s), (0, a_its), (0, x_n1 + (if (0 < s1 111 x_e1) ∧ (s1 116 x_e1 = a_its) then 1 else 0 : Int)), (0, x_e1 + 1)]) rfl ?_
        refine g_goto h 52 8 dX8_inState_52 (by decide) ?_
        obtain ⟨q4, hF⟩ := gd_some hF
        rw [ek1] at hF
        exact ih1 _ _ _ (by omega) (by omega) hF
      have J3 : ¬ (x_e1 < (32 * a_s) + 32) → G X 0 0 55 [(11, 0), (0, a_s), (0, a_its), (0, x_n1), (0, x_e1)] [] (m, s1) := by
        intro h7
        have hF := ite_f h7 hF
        refine g_iload_n h 55 dX8_inState_55 rfl ?_
        obtain ⟨e1, e2⟩ := some_2 hF
        rw [← e1, ← e2] at hE
        exact g_iret h 56 dX8_inState_56 hE rfl rfl ⟨(Nat.le_of_ble_eq_true rfl), (Nat.le_of_ble_eq_true rfl)⟩
      refine g_iload h 8 dX8_inState_8 rfl ?_
      refine g_bipush h 10 dX8_inState_10 (by decide) ?_
      refine g_iload_n h 12 dX8_inState_12 rfl ?_
      refine g_imul h 13 dX8_inState_13 ?_
      refine g_bipush h 14 dX8_inState_14 (by decide) ?_
      refine g_iadd h 16 dX8_inState_16 ?_
      refine g_icmp_ge h 17 55 (gRi (by omega)) (gRi (by omega)) dX8_inState_17 (by decide) (fun h1 => ?_) (fun h1 => ?_)
      · exact J3 (Int.not_lt.mpr h1)
      · exact J2 h1
  exact J7 _ _ _ _ (by omega) (by omega) hF
-- PagewrightModel.isLoose
set_option maxRecDepth 100000 in
theorem cpX8_isLoose {l : Launch} {w : gW} {bs : Nat} (hl : l.stackTraces = false) {a_e : Int} {s m : S2} (q_a_e : (-1) ≤ a_e ∧ a_e ≤ 191) : gMet l w bs yX8_isLoose cX8_isLoose 2 (some FieldType.boolean) 0 0 [(11, 0), (0, a_e)] (m, s) 0 (some (0, (if ((((a_e ≠ (-1)) ∧ (0 < s 111 a_e)) ∧ (s 116 a_e = 1)) ∧ (s 121 (s 117 a_e) = 1)) ∧ (¬ (s 126 (s 117 a_e) ≠ 0)) then 1 else 0 : Int))) (m, s) := by
  refine g_start hl (by decide) (Nat.le_of_ble_eq_true rfl) rfl fun X h hE => ?_
  have h : gOk X "PagewrightModel" cX8_isLoose 2 0 0 0 := h
  show G X 0 0 0 [(11, 0), (0, a_e)] [] (m, s)
  refine G_typ fun hT_s => ?_
  have t1 : 0 ≤ s 111 a_e ∧ s 111 a_e ≤ 3 := hT_s.2 111 a_e
  have t2 : 0 ≤ s 116 a_e ∧ s 116 a_e ≤ 2 := hT_s.2 116 a_e
  have t3 : 0 ≤ s 117 a_e ∧ s 117 a_e ≤ 23 := hT_s.2 117 a_e
  have t4 : 0 ≤ s 121 (s 117 a_e) ∧ s 121 (s 117 a_e) ≤ 2 := hT_s.2 121 (s 117 a_e)
  have t5 : 0 ≤ s 126 (s 117 a_e) ∧ s 126 (s 117 a_e) ≤ 1 := hT_s.2 126 (s 117 a_e)
  suffices J1 : ∀ v1 : Int, v1 = (if ((((a_e ≠ (-1)) ∧ (0 < s 111 a_e)) ∧ (s 116 a_e = 1)) ∧ (s 121 (s 117 a_e) = 1)) ∧ (¬ (s 126 (s 117 a_e) ≠ 0)) then 1 else 0 : Int) → G X 0 0 58 [(11, 0), (0, a_e)] [(0, v1)] (m, s) by
    have J2 : ((((a_e ≠ (-1)) ∧ (0 < s 111 a_e)) ∧ (s 116 a_e = 1)) ∧ (s 121 (s 117 a_e) = 1)) ∧ (¬ (s 126 (s 117 a_e) ≠ 0)) → G X 0 0 53 [(11, 0), (0, a_e)] [] (m, s) := by
      intro h6
      refine g_iconst h 53 dX8_isLoose_53 ?_
      refine g_goto h 54 58 dX8_isLoose_54 (by decide) ?_
      exact J1 _ (if_pos h6).symm
    have J3 : ¬ (((((a_e ≠ (-1)) ∧ (0 < s 111 a_e)) ∧ (s 116 a_e = 1)) ∧ (s 121 (s 117 a_e) = 1)) ∧ (¬ (s 126 (s 117 a_e) ≠ 0))) → G X 0 0 57 [(11, 0), (0, a_e)] [] (m, s) := by
      intro h7
      refine g_iconst h 57 dX8_isLoose_57 ?_
      exact J1 _ (if_neg h7).symm
    refine g_iload_n h 0 dX8_isLoose_0 rfl ?_
    refine g_iconst h 1 dX8_isLoose_1 ?_
    refine g_icmp_eq h 2 57 (gRi (by omega)) (gRi (by omega)) dX8_isLoose_2 (by decide) (fun h1 => ?_) (fun h1 => ?_)
    · exact J3 (fun q => (fun q => (fun q => (fun q => (fun q => q h1) q.1) q.1) q.1) q.1)
    · refine g_aload_nq h 5 dX8_isLoose_5 rfl rfl ?_
      refine gf_M_rights h 6 dX8_isLoose_6 kw_1017 ?_
      refine g_iload_n h 9 dX8_isLoose_9 rfl ?_
      refine al_M_rights h 10 dX8_isLoose_10 (by omega) ?_
      refine g_if_le h 11 57 (gRi (by omega)) dX8_isLoose_11 (by decide) (fun h2 => ?_) (fun h2 => ?_)
      · exact J3 (fun q => (fun q => (fun q => (fun q => (Int.not_lt.mpr h2) q.2) q.1) q.1) q.1)
      · refine g_aload_nq h 14 dX8_isLoose_14 rfl rfl ?_
        refine gf_M_state h 15 dX8_isLoose_15 kw_1022 ?_
        refine g_iload_n h 18 dX8_isLoose_18 rfl ?_
        refine al_M_state h 19 dX8_isLoose_19 (by omega) ?_
        refine g_iconst h 20 dX8_isLoose_20 ?_
        refine g_icmp_ne h 21 57 (gRi (by omega)) (gRi (by omega)) dX8_isLoose_21 (by decide) (fun h3 => ?_) (fun h3 => ?_)
        · exact J3 (fun q => (fun q => (fun q => h3 q.2) q.1) q.1)
        · refine g_aload_nq h 24 dX8_isLoose_24 rfl rfl ?_
          refine gf_M_kind h 25 dX8_isLoose_25 kw_1027 ?_
          refine g_aload_nq h 28 dX8_isLoose_28 rfl rfl ?_
          refine gf_M_page h 29 dX8_isLoose_29 kw_1023 ?_
          refine g_iload_n h 32 dX8_isLoose_32 rfl ?_
          refine al_M_page h 33 dX8_isLoose_33 (by omega) ?_
          refine al_M_kind h 34 dX8_isLoose_34 (by omega) ?_
          refine g_iconst h 35 dX8_isLoose_35 ?_
          refine g_icmp_ne h 36 57 (gRi (by omega)) (gRi (by omega)) dX8_isLoose_36 (by decide) (fun h4 => ?_) (fun h4 => ?_)
          · exact J3 (fun q => (fun q => h4 q.2) q.1)
          · refine g_aload_nq h 39 dX8_isLoose_39 rfl rfl ?_
            refine gf_M_mark h 40 dX8_isLoose_40 kw_1032 ?_
            refine g_aload_nq h 43 dX8_isLoose_43 rfl rfl ?_
            refine gf_M_page h 44 dX8_isLoose_44 kw_1023 ?_
            refine g_iload_n h 47 dX8_isLoose_47 rfl ?_
            refine al_M_page h 48 dX8_isLoose_48 (by omega) ?_
            refine al_M_mark h 49 dX8_isLoose_49 (by omega) ?_
            refine g_if_ne h 50 57 (gRi (by omega)) dX8_isLoose_50 (by decide) (fun h5 => ?_) (fun h5 => ?_)
            · exact J3 (fun q => (fun q => q h5) q.2)
            · exact J2 ⟨⟨⟨⟨h1, h2⟩, h3⟩, h4⟩, (fun q => q h5)⟩
  intro v1 e1
  subst e1
  exact g_iret h 58 dX8_isLoose_58 hE rfl (g_nb (by first | omega | (split <;> decide))) ⟨(Nat.le_of_ble_eq_true rfl), (Nat.le_of_ble_eq_true rfl)⟩
-- PagewrightModel.isOf
set_option maxRecDepth 100000 in
theorem cpX8_isOf {l : Launch} {w : gW} {bs : Nat} (hl : l.stackTraces = false) {a_f a_g : Int} {s m : S2} (q_a_f : 0 ≤ a_f ∧ a_f ≤ 23) (q_a_g : (-2147483648) ≤ a_g ∧ a_g ≤ 2147483647) : gMet l w bs yX8_isOf cX8_isOf 3 (some FieldType.boolean) 0 0 [(11, 0), (0, a_f), (0, a_g)] (m, s) 0 (some (0, (if (s 121 a_f ≠ 0) ∧ ((a_g = (-1)) ∨ (s 125 a_f = a_g)) then 1 else 0 : Int))) (m, s) := by
  refine g_start hl (by decide) (Nat.le_of_ble_eq_true rfl) rfl fun X h hE => ?_
  have h : gOk X "PagewrightModel" cX8_isOf 3 0 0 0 := h
  show G X 0 0 0 [(11, 0), (0, a_f), (0, a_g)] [] (m, s)
  refine G_typ fun hT_s => ?_
  have t1 : 0 ≤ s 121 a_f ∧ s 121 a_f ≤ 2 := hT_s.2 121 a_f
  have t2 : 0 ≤ s 125 a_f ∧ s 125 a_f ≤ 2 := hT_s.2 125 a_f
  suffices J1 : ∀ v1 : Int, v1 = (if (s 121 a_f ≠ 0) ∧ ((a_g = (-1)) ∨ (s 125 a_f = a_g)) then 1 else 0 : Int) → G X 0 0 29 [(11, 0), (0, a_f), (0, a_g)] [(0, v1)] (m, s) by
    have J2 : (s 121 a_f ≠ 0) ∧ ((a_g = (-1)) ∨ (s 125 a_f = a_g)) → G X 0 0 24 [(11, 0), (0, a_f), (0, a_g)] [] (m, s) := by
      intro h4
      refine g_iconst h 24 dX8_isOf_24 ?_
      refine g_goto h 25 29 dX8_isOf_25 (by decide) ?_
      exact J1 _ (if_pos h4).symm
    have J3 : ¬ ((s 121 a_f ≠ 0) ∧ ((a_g = (-1)) ∨ (s 125 a_f = a_g))) → G X 0 0 28 [(11, 0), (0, a_f), (0, a_g)] [] (m, s) := by
      intro h5
      refine g_iconst h 28 dX8_isOf_28 ?_
      exact J1 _ (if_neg h5).symm
    refine g_aload_nq h 0 dX8_isOf_0 rfl rfl ?_
    refine gf_M_kind h 1 dX8_isOf_1 kw_1027 ?_
    refine g_iload_n h 4 dX8_isOf_4 rfl ?_
    refine al_M_kind h 5 dX8_isOf_5 (by omega) ?_
    refine g_if_eq h 6 28 (gRi (by omega)) dX8_isOf_6 (by decide) (fun h1 => ?_) (fun h1 => ?_)
    · exact J3 (fun q => (fun q => q h1) q.1)
    · refine g_iload_n h 9 dX8_isOf_9 rfl ?_
      refine g_iconst h 10 dX8_isOf_10 ?_
      refine g_icmp_eq h 11 24 (gRi (by omega)) (gRi (by omega)) dX8_isOf_11 (by decide) (fun h2 => ?_) (fun h2 => ?_)
      · exact J2 ⟨h1, (Or.inl h2)⟩
      · refine g_aload_nq h 14 dX8_isOf_14 rfl rfl ?_
        refine gf_M_owner h 15 dX8_isOf_15 kw_1031 ?_
        refine g_iload_n h 18 dX8_isOf_18 rfl ?_
        refine al_M_owner h 19 dX8_isOf_19 (by omega) ?_
        refine g_iload_n h 20 dX8_isOf_20 rfl ?_
        refine g_icmp_ne h 21 28 (gRi (by omega)) (gRi (by omega)) dX8_isOf_21 (by decide) (fun h3 => ?_) (fun h3 => ?_)
        · exact J3 (fun q => (fun q => q.elim h2 h3) q.2)
        · exact J2 ⟨h1, (Or.inr h3)⟩
  intro v1 e1
  subst e1
  exact g_iret h 29 dX8_isOf_29 hE rfl (g_nb (by first | omega | (split <;> decide))) ⟨(Nat.le_of_ble_eq_true rfl), (Nat.le_of_ble_eq_true rfl)⟩
-- PagewrightModel.lays
def FX8_lays (a_e a_r a_its a_i a_isShared a_does : Int) (s : S2) : Option (Int × S2) :=
  gd (0 ≤ a_e ∧ a_e ≤ 191) <| gd (0 ≤ a_r ∧ a_r ≤ 3) <| gd ((-1) ≤ a_its ∧ a_its ≤ 2) <| gd (0 ≤ a_isShared ∧ a_isShared ≤ 1) <| gd (0 ≤ a_does ∧ a_does ≤ 1) <| bn (upd2 s 111 a_e a_r) fun s1 => bn (upd2 s1 112 a_e a_its) fun s2 => gd (0 ≤ (if a_its = (-1) then 0 else a_i : Int) ∧ (if a_its = (-1) then 0 else a_i : Int) ≤ 7) <| bn (upd2 s2 113 a_e (if a_its = (-1) then 0 else a_i : Int)) fun s3 => bn (upd2 s3 114 a_e (if (a_its ≠ (-1)) ∧ (a_isShared ≠ 0) then 1 else 0 : Int)) fun s4 => bn (upd2 s4 115 a_e a_does) fun s5 => bn (upd2 s5 116 a_e 0) fun s6 => bn (upd2 s6 118 a_e 0) fun s7 => bn (upd2 s7 120 a_e 0) fun s8 => some (0, s8)
set_option maxRecDepth 100000 in
set_option maxHeartbeats 4000000 in
theorem ctX8_lays {l : Launch} {w : gW} {bs : Nat} (hl : l.stackTraces = false) {a_e a_r a_its a_i a_isShared a_does : Int} {s m s0 : S2} {r0 : Int} (hF : FX8_lays a_e a_r a_its a_i a_isShared a_does s = some (r0, s0)) : gMet l w bs yX8_lays cX8_lays 7 none 0 0 [(11, 0), (0, a_e), (0, a_r), (0, a_its), (0, a_i), (0, a_isShared), (0, a_does)] (m, s) 0 none (m, s0) := by
  unfold FX8_lays at hF
  obtain ⟨q_a_e, hF⟩ := gd_some hF
  obtain ⟨q_a_r, hF⟩ := gd_some hF
  obtain ⟨q_a_its, hF⟩ := gd_some hF
  obtain ⟨q_a_isShared, hF⟩ := gd_some hF
  obtain ⟨q_a_does, hF⟩ := gd_some hF
  refine g_start hl (by decide) (Nat.le_of_ble_eq_true rfl) rfl fun X h hE => ?_
  have h : gOk X "PagewrightModel" cX8_lays 7 0 0 0 := h
  have hE : gEnd X l w bs 0 none 0 none (m, s0) := hE
  show G X 0 0 0 [(11, 0), (0, a_e), (0, a_r), (0, a_its), (0, a_i), (0, a_isShared), (0, a_does)] [] (m, s)
  refine g_aload_nq h 0 dX8_lays_0 rfl rfl ?_
  refine gf_M_rights h 1 dX8_lays_1 kw_1017 ?_
  refine g_iload_n h 4 dX8_lays_4 rfl ?_
  refine g_iload_n h 5 dX8_lays_5 rfl ?_
  obtain ⟨s1, es1, hF⟩ := bn_ex hF
  refine as_M_rights h 6 dX8_lays_6 (by omega) (by omega) ?_
  rw [← es1]
  refine g_aload_nq h 7 dX8_lays_7 rfl rfl ?_
  refine gf_M_file h 8 dX8_lays_8 kw_1018 ?_
  refine g_iload_n h 11 dX8_lays_11 rfl ?_
  refine g_iload_n h 12 dX8_lays_12 rfl ?_
  obtain ⟨s2, es2, hF⟩ := bn_ex hF
  refine as_M_file h 13 dX8_lays_13 (by omega) (by omega) ?_
  rw [← es2]
  refine g_aload_nq h 14 dX8_lays_14 rfl rfl ?_
  refine gf_M_index h 15 dX8_lays_15 kw_1019 ?_
  refine g_iload_n h 18 dX8_lays_18 rfl ?_
  suffices J1 : ∀ v1 : Int, v1 = (if a_its = (-1) then 0 else a_i : Int) → G X 0 0 30 [(11, 0), (0, a_e), (0, a_r), (0, a_its), (0, a_i), (0, a_isShared), (0, a_does)] [(0, v1), (0, a_e), (31, 0)] (m, s2) by
    have J2 : a_its = (-1) → G X 0 0 24 [(11, 0), (0, a_e), (0, a_r), (0, a_its), (0, a_i), (0, a_isShared), (0, a_does)] [(0, a_e), (31, 0)] (m, s2) := by
      intro h2
      refine g_iconst h 24 dX8_lays_24 ?_
      refine g_goto h 25 30 dX8_lays_25 (by decide) ?_
      exact J1 _ (if_pos h2).symm
    have J3 : ¬ (a_its = (-1)) → G X 0 0 28 [(11, 0), (0, a_e), (0, a_r), (0, a_its), (0, a_i), (0, a_isShared), (0, a_does)] [(0, a_e), (31, 0)] (m, s2) := by
      intro h3
      refine g_iload h 28 dX8_lays_28 rfl ?_
      exact J1 _ (if_neg h3).symm
    refine g_iload_n h 19 dX8_lays_19 rfl ?_
    refine g_iconst h 20 dX8_lays_20 ?_
    refine g_icmp_ne h 21 28 (gRi (by omega)) (gRi (by omega)) dX8_lays_21 (by decide) (fun h1 => ?_) (fun h1 => ?_)
    · exact J3 h1
    · exact J2 h1
  intro v1 e1
  subst e1
  obtain ⟨q1, hF⟩ := gd_some hF
  obtain ⟨s3, es3, hF⟩ := bn_ex hF
  refine as_M_index h 30 dX8_lays_30 (by omega) (by omega) ?_
  rw [← es3]
  refine g_aload_nq h 31 dX8_lays_31 rfl rfl ?_
  refine gf_M_shared h 32 dX8_lays_32 kw_1020 ?_
  refine g_iload_n h 35 dX8_lays_35 rfl ?_
  suffices J4 : ∀ v2 : Int, v2 = (if (a_its ≠ (-1)) ∧ (a_isShared ≠ 0) then 1 else 0 : Int) → G X 0 0 51 [(11, 0), (0, a_e), (0, a_r), (0, a_its), (0, a_i), (0, a_isShared), (0, a_does)] [(0, v2), (0, a_e), (32, 0)] (m, s3) by
    have J5 : (a_its ≠ (-1)) ∧ (a_isShared ≠ 0) → G X 0 0 46 [(11, 0), (0, a_e), (0, a_r), (0, a_its), (0, a_i), (0, a_isShared), (0, a_does)] [(0, a_e), (32, 0)] (m, s3) := by
      intro h6
      refine g_iconst h 46 dX8_lays_46 ?_
      refine g_goto h 47 51 dX8_lays_47 (by decide) ?_
      exact J4 _ (if_pos h6).symm
    have J6 : ¬ ((a_its ≠ (-1)) ∧ (a_isShared ≠ 0)) → G X 0 0 50 [(11, 0), (0, a_e), (0, a_r), (0, a_its), (0, a_i), (0, a_isShared), (0, a_does)] [(0, a_e), (32, 0)] (m, s3) := by
      intro h7
      refine g_iconst h 50 dX8_lays_50 ?_
      exact J4 _ (if_neg h7).symm
    refine g_iload_n h 36 dX8_lays_36 rfl ?_
    refine g_iconst h 37 dX8_lays_37 ?_
    refine g_icmp_eq h 38 50 (gRi (by omega)) (gRi (by omega)) dX8_lays_38 (by decide) (fun h4 => ?_) (fun h4 => ?_)
    · exact J6 (fun q => (fun q => q h4) q.1)
    · refine g_iload h 41 dX8_lays_41 rfl ?_
      refine g_if_eq h 43 50 (gRi (by omega)) dX8_lays_43 (by decide) (fun h5 => ?_) (fun h5 => ?_)
      · exact J6 (fun q => (fun q => q h5) q.2)
      · exact J5 ⟨h4, h5⟩
  intro v2 e2
  subst e2
  obtain ⟨s4, es4, hF⟩ := bn_ex hF
  refine as_M_shared h 51 dX8_lays_51 (by omega) (by omega) ?_
  rw [← es4]
  refine g_aload_nq h 52 dX8_lays_52 rfl rfl ?_
  refine gf_M_grows h 53 dX8_lays_53 kw_1021 ?_
  refine g_iload_n h 56 dX8_lays_56 rfl ?_
  refine g_iload h 57 dX8_lays_57 rfl ?_
  obtain ⟨s5, es5, hF⟩ := bn_ex hF
  refine as_M_grows h 59 dX8_lays_59 (by omega) (by omega) ?_
  rw [← es5]
  refine g_aload_nq h 60 dX8_lays_60 rfl rfl ?_
  refine gf_M_state h 61 dX8_lays_61 kw_1022 ?_
  refine g_iload_n h 64 dX8_lays_64 rfl ?_
  refine g_iconst h 65 dX8_lays_65 ?_
  obtain ⟨s6, es6, hF⟩ := bn_ex hF
  refine as_M_state h 66 dX8_lays_66 (by omega) (by omega) ?_
  rw [← es6]
  refine g_aload_nq h 67 dX8_lays_67 rfl rfl ?_
  refine gf_M_writable h 68 dX8_lays_68 kw_1024 ?_
  refine g_iload_n h 71 dX8_lays_71 rfl ?_
  refine g_iconst h 72 dX8_lays_72 ?_
  obtain ⟨s7, es7, hF⟩ := bn_ex hF
  refine as_M_writable h 73 dX8_lays_73 (by omega) (by omega) ?_
  rw [← es7]
  refine g_aload_nq h 74 dX8_lays_74 rfl rfl ?_
  refine gf_M_block h 75 dX8_lays_75 kw_1026 ?_
  refine g_iload_n h 78 dX8_lays_78 rfl ?_
  refine g_iconst h 79 dX8_lays_79 ?_
  obtain ⟨s8, es8, hF⟩ := bn_ex hF
  refine as_M_block h 80 dX8_lays_80 (by omega) (by omega) ?_
  rw [← es8]
  obtain ⟨e1, e2⟩ := some_2 hF
  rw [← e2] at hE
  exact g_vret h 81 dX8_lays_81 hE rfl ⟨(Nat.le_of_ble_eq_true rfl), (Nat.le_of_ble_eq_true rfl)⟩
-- PagewrightModel.lingers
def FX8_lingers (a_f : Int) (s : S2) : Option (Int × S2) :=
  rgd 0 1 <| gd (0 ≤ a_f ∧ a_f ≤ 23) <| gl2 1000 (fun k1 (x_is1 : Int) (x_t1 : Int) (s1 : S2) => if (x_t1 < 8) ∧ (s1 121 a_f = 0) then k1 (gOr x_is1 (if (x_t1 % 4 < s1 135 (x_t1 / 4)) ∧ (s1 137 x_t1 = a_f) then 1 else 0 : Int)) (x_t1 + 1) s1 else some (x_is1, s1)) 0 0 s
theorem rgX8_lingers {a_f : Int} {s s0 : S2} {r0 : Int} (hF : FX8_lingers a_f s = some (r0, s0)) : 0 ≤ r0 ∧ r0 ≤ 1 := (rgd_some hF).2
set_option maxRecDepth 100000 in
set_option maxHeartbeats 4000000 in
theorem ctX8_lingers {l : Launch} {w : gW} {bs : Nat} (hl : l.stackTraces = false) {a_f : Int} {s m s0 : S2} {r0 : Int} (hF : FX8_lingers a_f s = some (r0, s0)) : gMet l w bs yX8_lingers cX8_lingers 4 (some FieldType.boolean) 0 0 [(11, 0), (0, a_f)] (m, s) 0 (some (0, r0)) (m, s0) := by
  unfold FX8_lingers at hF
  obtain ⟨hF, hr⟩ := rgd_some hF
  obtain ⟨q_a_f, hF⟩ := gd_some hF
  refine g_start hl (by decide) (Nat.le_of_ble_eq_true rfl) rfl fun X h hE => ?_
  have h : gOk X "PagewrightModel" cX8_lingers 4 0 0 0 := h
  have hE : gEnd X l w bs 0 (some FieldType.boolean) 0 (some (0, r0)) (m, s0) := hE
  show G X 0 0 0 [(11, 0), (0, a_f), (1, 0), (1, 0)] [] (m, s)
  refine g_iconst h 0 dX8_lingers_0 ?_
  refine g_istore_n h 1 dX8_lingers_1 (Nat.le_of_ble_eq_true rfl) rfl (L' := [(11, 0), (0, a_f), (0, 0), (1, 0)]) rfl ?_
  refine g_iconst h 2 dX8_lingers_2 ?_
  refine g_istore_n h 3 dX8_lingers_3 (Nat.le_of_ble_eq_true rfl) rfl (L' := [(11, 0), (0, a_f), (0, 0), (0, 0)]) rfl ?_
  obtain ⟨f1, ef1, hF⟩ := glx2 hF
  have J7 : ∀ (n1 : Nat) (x_is1 x_t1 : Int) (s1 : S2), (0 ≤ x_is1 ∧ x_is1 ≤ 1) → (0 ≤ x_t1 ∧ x_t1 ≤ 8) → gl2 n1 f1 x_is1 x_t1 s1 = some (r0, s0) → G X 0 0 4 [(11, 0), (0, a_f), (0, x_is1), (0, x_t1)] [] (m, s1) := by
    intro n1
    induction n1 with
    | zero => intro x_is1 x_t1 s1 _ _ hF; exact (gl2_0 hF).elim
    | succ n1 ih1 =>
      intro x_is1 x_t1 s1 q1 q2 hF
      obtain ⟨k1, ek1, hF⟩ := glu2 hF ef1
      refine G_typ fun hT_s1 => ?_
      have t1 : 0 ≤ s1 121 a_f ∧ s1 121 a_f ≤ 2 := hT_s1.2 121 a_f
      have J2 : (x_t1 < 8) ∧ (s1 121 a_f = 0) → G X 0 0 19 [(11, 0), (0, a_f), (0, x_is1), (0, x_t1)] [] (m, s1) := by
        intro h3
        have hF := ite_t h3 hF
        have t2 : 0 ≤ s1 135 (x_t1 / 4) ∧ s1 135 (x_t1 / 4) ≤ 4 := hT_s1.2 135 (x_t1 / 4)
        have t3 : 0 ≤ s1 137 x_t1 ∧ s1 137 x_t1 ≤ 23 := hT_s1.2 137 x_t1
        have t4 : 0 ≤ gOr x_is1 (if (x_t1 % 4 < s1 135 (x_t1 / 4)) ∧ (s1 137 x_t1 = a_f) then 1 else 0 : Int) ∧ gOr x_is1 (if (x_t1 % 4 < s1 135 (x_t1 / 4)) ∧ (s1 137 x_t1 = a_f) then 1 else 0 : Int) ≤ 1 := gOr_01 (by omega) (by omega)
        refine g_iload_n h 19 dX8_lingers_19 rfl ?_
        suffices J4 : ∀ v1 : Int, v1 = (if (x_t1 % 4 < s1 135 (x_t1 / 4)) ∧ (s1 137 x_t1 = a_f) then 1 else 0 : Int) → G X 0 0 49 [(11, 0), (0, a_f), (0, x_is1), (0, x_t1)] [(0, v1), (0, x_is1)] (m, s1) by
          have J5 : (x_t1 % 4 < s1 135 (x_t1 / 4)) ∧ (s1 137 x_t1 = a_f) → G X 0 0 44 [(11, 0), (0, a_f), (0, x_is1), (0, x_t1)] [(0, x_is1)] (m, s1) := by
            intro h6
            refine g_iconst h 44 dX8_lingers_44 ?_
            refine g_goto h 45 49 dX8_lingers_45 (by decide) ?_
            exact J4 _ (if_pos h6).symm
          have J6 : ¬ ((x_t1 % 4 < s1 135 (x_t1 / 4)) ∧ (s1 137 x_t1 = a_f)) → G X 0 0 48 [(11, 0), (0, a_f), (0, x_is1), (0, x_t1)] [(0, x_is1)] (m, s1) := by
            intro h7
            refine g_iconst h 48 dX8_lingers_48 ?_
            exact J4 _ (if_neg h7).symm
          refine g_iload_n h 20 dX8_lingers_20 rfl ?_
          refine g_iconst h 21 dX8_lingers_21 ?_
          refine g_irem h 22 dX8_lingers_22 (by omega) (by omega) ?_
          refine g_aload_nq h 23 dX8_lingers_23 rfl rfl ?_
          refine gf_M_cached h 24 dX8_lingers_24 kw_1042 ?_
          refine g_iload_n h 27 dX8_lingers_27 rfl ?_
          refine g_iconst h 28 dX8_lingers_28 ?_
          refine g_idiv h 29 dX8_lingers_29 (by omega) (by omega) ?_
          refine al_M_cached h 30 dX8_lingers_30 (by omega) ?_
          refine g_icmp_ge h 31 48 (gRi (by omega)) (gRi (by omega)) dX8_lingers_31 (by decide) (fun h4 => ?_) (fun h4 => ?_)
          · exact J6 (fun q => (Int.not_lt.mpr h4) q.1)
          · refine g_aload_nq h 34 dX8_lingers_34 rfl rfl ?_
            refine gf_M_frame h 35 dX8_lingers_35 kw_1044 ?_
            refine g_iload_n h 38 dX8_lingers_38 rfl ?_
            refine al_M_frame h 39 dX8_lingers_39 (by omega) ?_
            refine g_iload_n h 40 dX8_lingers_40 rfl ?_
            refine g_icmp_ne h 41 48 (gRi (by omega)) (gRi (by omega)) dX8_lingers_41 (by decide) (fun h5 => ?_) (fun h5 => ?_)
            · exact J6 (fun q => h5 q.2)
            · exact J5 ⟨h4, h5⟩
        intro v1 e1
        subst e1
        refine g_ior h 49 dX8_lingers_49 ?_
        refine g_istore_n h 50 dX8_lingers_50 (Nat.le_of_ble_eq_true rfl) rfl (L' := [(11, 0), (0, a_f), (0, gOr x_is1 (if (x_t1 % 4 < s1 135 (x_t1 / 4)) ∧ (s1 137 x_t1 = a_f) then 1 else 0 : Int)), (0, x_t1)]) rfl ?_
        refine g_iinc h 51 dX8_lingers_51 rfl rfl (L' := [(11, 0), (0, a_f), (0, gOr x_is1 (if (x_t1 % 4 < s1 135 (x_t1 / 4)) ∧ (s1 137 x_t1 = a_f) then 1 else 0 : Int)), (0, x_t1 + 1)]) rfl ?_
        refine g_goto h 54 4 dX8_lingers_54 (by decide) ?_
        rw [ek1] at hF
        exact ih1 _ _ _ (by omega) (by omega) hF
      have J3 : ¬ ((x_t1 < 8) ∧ (s1 121 a_f = 0)) → G X 0 0 57 [(11, 0), (0, a_f), (0, x_is1), (0, x_t1)] [] (m, s1) := by
        intro h8
        have hF := ite_f h8 hF
        refine g_iload_n h 57 dX8_lingers_57 rfl ?_
        obtain ⟨e1, e2⟩ := some_2 hF
        rw [← e1, ← e2] at hE
        exact g_iret h 58 dX8_lingers_58 hE rfl (g_nb (by rw [← e1] at hr; exact hr)) ⟨(Nat.le_of_ble_eq_true rfl), (Nat.le_of_ble_eq_true rfl)⟩
      refine g_iload_n h 4 dX8_lingers_4 rfl ?_
      refine g_bipush h 5 dX8_lingers_5 (by decide) ?_
      refine g_icmp_ge h 7 57 (gRi (by omega)) (gRi (by omega)) dX8_lingers_7 (by decide) (fun h1 => ?_) (fun h1 => ?_)
      · exact J3 (fun q => (Int.not_lt.mpr h1) q.1)
      · refine g_aload_nq h 10 dX8_lingers_10 rfl rfl ?_
        refine gf_M_kind h 11 dX8_lingers_11 kw_1027 ?_
        refine g_iload_n h 14 dX8_lingers_14 rfl ?_
        refine al_M_kind h 15 dX8_lingers_15 (by omega) ?_
        refine g_if_ne h 16 57 (gRi (by omega)) dX8_lingers_16 (by decide) (fun h2 => ?_) (fun h2 => ?_)
        · exact J3 (fun q => h2 q.2)
        · exact J2 ⟨h1, h2⟩
  exact J7 _ _ _ _ (by omega) (by omega) hF
-- PagewrightModel.oldest
def FX8_oldest (s : S2) : Option (Int × S2) :=
  rgd (-1) 17 <| gl2 1000 (fun k1 (x_best1 : Int) (x_r1 : Int) (s1 : S2) => if x_r1 < 18 then gd ((s1 132 x_r1 = 10) ∧ (¬ (x_best1 = (-1))) → 0 ≤ x_best1 ∧ x_best1 ≤ 17) <| gd ((s1 132 x_r1 = 10) ∧ (¬ (x_best1 = (-1))) → (-2147483648) ≤ s1 134 x_r1 ∧ s1 134 x_r1 ≤ 2147483647) <| gd ((s1 132 x_r1 = 10) ∧ (¬ (x_best1 = (-1))) → (-2147483648) ≤ s1 134 x_best1 ∧ s1 134 x_best1 ≤ 2147483647) <| gd ((-2147483648) ≤ (if (s1 132 x_r1 = 10) ∧ ((x_best1 = (-1)) ∨ (s1 134 x_r1 < s1 134 x_best1)) then x_r1 else x_best1 : Int) ∧ (if (s1 132 x_r1 = 10) ∧ ((x_best1 = (-1)) ∨ (s1 134 x_r1 < s1 134 x_best1)) then x_r1 else x_best1 : Int) ≤ 2147483647) <| k1 (if (s1 132 x_r1 = 10) ∧ ((x_best1 = (-1)) ∨ (s1 134 x_r1 < s1 134 x_best1)) then x_r1 else x_best1 : Int) (x_r1 + 1) s1 else some (x_best1, s1)) (-1) 0 s
theorem rgX8_oldest {s s0 : S2} {r0 : Int} (hF : FX8_oldest s = some (r0, s0)) : (-1) ≤ r0 ∧ r0 ≤ 17 := (rgd_some hF).2
set_option maxRecDepth 100000 in
set_option maxHeartbeats 4000000 in
theorem ctX8_oldest {l : Launch} {w : gW} {bs : Nat} (hl : l.stackTraces = false) {s m s0 : S2} {r0 : Int} (hF : FX8_oldest s = some (r0, s0)) : gMet l w bs yX8_oldest cX8_oldest 3 (some FieldType.int) 0 0 [(11, 0)] (m, s) 0 (some (0, r0)) (m, s0) := by
  unfold FX8_oldest at hF
  obtain ⟨hF, hr⟩ := rgd_some hF
  refine g_start hl (by decide) (Nat.le_of_ble_eq_true rfl) rfl fun X h hE => ?_
  have h : gOk X "PagewrightModel" cX8_oldest 3 0 0 0 := h
  have hE : gEnd X l w bs 0 (some FieldType.int) 0 (some (0, r0)) (m, s0) := hE
  show G X 0 0 0 [(11, 0), (1, 0), (1, 0)] [] (m, s)
  refine g_iconst h 0 dX8_oldest_0 ?_
  refine g_istore_n h 1 dX8_oldest_1 (Nat.le_of_ble_eq_true rfl) rfl (L' := [(11, 0), (0, (-1)), (1, 0)]) rfl ?_
  refine g_iconst h 2 dX8_oldest_2 ?_
  refine g_istore_n h 3 dX8_oldest_3 (Nat.le_of_ble_eq_true rfl) rfl (L' := [(11, 0), (0, (-1)), (0, 0)]) rfl ?_
  obtain ⟨f1, ef1, hF⟩ := glx2 hF
  have J7 : ∀ (n1 : Nat) (x_best1 x_r1 : Int) (s1 : S2), ((-2147483648) ≤ x_best1 ∧ x_best1 ≤ 2147483647) → (0 ≤ x_r1 ∧ x_r1 ≤ 18) → gl2 n1 f1 x_best1 x_r1 s1 = some (r0, s0) → G X 0 0 4 [(11, 0), (0, x_best1), (0, x_r1)] [] (m, s1) := by
    intro n1
    induction n1 with
    | zero => intro x_best1 x_r1 s1 _ _ hF; exact (gl2_0 hF).elim
    | succ n1 ih1 =>
      intro x_best1 x_r1 s1 q1 q2 hF
      obtain ⟨k1, ek1, hF⟩ := glu2 hF ef1
      have J2 : x_r1 < 18 → G X 0 0 10 [(11, 0), (0, x_best1), (0, x_r1)] [] (m, s1) := by
        intro h2
        have hF := ite_t h2 hF
        refine G_typ fun hT_s1 => ?_
        have t1 : (-1) ≤ s1 132 x_r1 ∧ s1 132 x_r1 ≤ 10 := hT_s1.2 132 x_r1
        obtain ⟨q3, hF⟩ := gd_some hF
        obtain ⟨q4, hF⟩ := gd_some hF
        obtain ⟨q5, hF⟩ := gd_some hF
        suffices J4 : ∀ v1 : Int, v1 = (if (s1 132 x_r1 = 10) ∧ ((x_best1 = (-1)) ∨ (s1 134 x_r1 < s1 134 x_best1)) then x_r1 else x_best1 : Int) → G X 0 0 46 [(11, 0), (0, x_best1), (0, x_r1)] [(0, v1)] (m, s1) by
          have J5 : (s1 132 x_r1 = 10) ∧ ((x_best1 = (-1)) ∨ (s1 134 x_r1 < s1 134 x_best1)) → G X 0 0 41 [(11, 0), (0, x_best1), (0, x_r1)] [] (m, s1) := by
            intro h6
            refine g_iload_n h 41 dX8_oldest_41 rfl ?_
            refine g_goto h 42 46 dX8_oldest_42 (by decide) ?_
            exact J4 _ (if_pos h6).symm
          have J6 : ¬ ((s1 132 x_r1 = 10) ∧ ((x_best1 = (-1)) ∨ (s1 134 x_r1 < s1 134 x_best1))) → G X 0 0 45 [(11, 0), (0, x_best1), (0, x_r1)] [] (m, s1) := by
            intro h7
            refine g_iload_n h 45 dX8_oldest_45 rfl ?_
            exact J4 _ (if_neg h7).symm
          refine g_aload_nq h 10 dX8_oldest_10 rfl rfl ?_
          refine gf_M_place h 11 dX8_oldest_11 kw_1038 ?_
          refine g_iload_n h 14 dX8_oldest_14 rfl ?_
          refine al_M_place h 15 dX8_oldest_15 (by omega) ?_
          refine g_bipush h 16 dX8_oldest_16 (by decide) ?_
          refine g_icmp_ne h 18 45 (gRi (by omega)) (gRi (by omega)) dX8_oldest_18 (by decide) (fun h3 => ?_) (fun h3 => ?_)
          · exact J6 (fun q => h3 q.1)
          · refine g_iload_n h 21 dX8_oldest_21 rfl ?_
            refine g_iconst h 22 dX8_oldest_22 ?_
            refine g_icmp_eq h 23 41 (gRi (by omega)) (gRi (by omega)) dX8_oldest_23 (by decide) (fun h4 => ?_) (fun h4 => ?_)
            · exact J5 ⟨h3, (Or.inl h4)⟩
            · refine g_aload_nq h 26 dX8_oldest_26 rfl rfl ?_
              refine gf_M_came h 27 dX8_oldest_27 kw_1040 ?_
              refine g_iload_n h 30 dX8_oldest_30 rfl ?_
              refine al_M_came h 31 dX8_oldest_31 (by omega) ?_
              refine g_aload_nq h 32 dX8_oldest_32 rfl rfl ?_
              refine gf_M_came h 33 dX8_oldest_33 kw_1040 ?_
              refine g_iload_n h 36 dX8_oldest_36 rfl ?_
              refine al_M_came h 37 dX8_oldest_37 (by omega) ?_
              refine g_icmp_ge h 38 45 (gRi (by omega)) (gRi (by omega)) dX8_oldest_38 (by decide) (fun h5 => ?_) (fun h5 => ?_)
              · exact J6 (fun q => (fun q => q.elim h4 (Int.not_lt.mpr h5)) q.2)
              · exact J5 ⟨h3, (Or.inr h5)⟩
        intro v1 e1
        subst e1
        refine g_istore_n h 46 dX8_oldest_46 (Nat.le_of_ble_eq_true rfl) rfl (L' := [(11, 0), (0, (if (s1 132 x_r1 = 10) ∧ ((x_best1 = (-1)) ∨ (s1 134 x_r1 < s1 134 x_best1)) then x_r1 else x_best1 : Int)), (0, x_r1)]) rfl ?_
        refine g_iinc h 47 dX8_oldest_47 rfl rfl (L' := [(11, 0), (0, (if (s1 132 x_r1 = 10) ∧ ((x_best1 = (-1)) ∨ (s1 134 x_r1 < s1 134 x_best1)) then x_r1 else x_best1 : Int)), (0, x_r1 + 1)]) rfl ?_
        refine g_goto h 50 4 dX8_oldest_50 (by decide) ?_
        obtain ⟨q6, hF⟩ := gd_some hF
        rw [ek1] at hF
        exact ih1 _ _ _ (by omega) (by omega) hF
      have J3 : ¬ (x_r1 < 18) → G X 0 0 53 [(11, 0), (0, x_best1), (0, x_r1)] [] (m, s1) := by
        intro h8
        have hF := ite_f h8 hF
        refine g_iload_n h 53 dX8_oldest_53 rfl ?_
        obtain ⟨e1, e2⟩ := some_2 hF
        rw [← e1, ← e2] at hE
        exact g_iret h 54 dX8_oldest_54 hE rfl rfl ⟨(Nat.le_of_ble_eq_true rfl), (Nat.le_of_ble_eq_true rfl)⟩
      refine g_iload_n h 4 dX8_oldest_4 rfl ?_
      refine g_bipush h 5 dX8_oldest_5 (by decide) ?_
      refine g_icmp_ge h 7 53 (gRi (by omega)) (gRi (by omega)) dX8_oldest_7 (by decide) (fun h1 => ?_) (fun h1 => ?_)
      · exact J3 (Int.not_lt.mpr h1)
      · exact J2 h1
  exact J7 _ _ _ _ (by omega) (by omega) hF
-- PagewrightModel.passes
def FX8_passes (a_by : Int) (s : S2) : Option (Int × S2) :=
  gd (1 ≤ a_by ∧ a_by ≤ 32) <| gd (0 ≤ (s 104 0) + a_by ∧ (s 104 0) + a_by ≤ 192) <| bn (upd2 s 104 0 ((s 104 0) + a_by)) fun s1 => bn (fun (s2 : S2) => some (0, s2)) fun k1 => if s1 104 0 = 192 then bn (upd2 s1 104 0 0) fun s3 => bn (upd2 s3 105 0 0) fun s4 => k1 s4 else k1 s1
set_option maxRecDepth 100000 in
set_option maxHeartbeats 4000000 in
theorem ctX8_passes {l : Launch} {w : gW} {bs : Nat} (hl : l.stackTraces = false) {a_by : Int} {s m s0 : S2} {r0 : Int} (hF : FX8_passes a_by s = some (r0, s0)) : gMet l w bs yX8_passes cX8_passes 2 none 0 0 [(11, 0), (0, a_by)] (m, s) 0 none (m, s0) := by
  unfold FX8_passes at hF
  obtain ⟨q_a_by, hF⟩ := gd_some hF
  refine g_start hl (by decide) (Nat.le_of_ble_eq_true rfl) rfl fun X h hE => ?_
  have h : gOk X "PagewrightModel" cX8_passes 2 0 0 0 := h
  have hE : gEnd X l w bs 0 none 0 none (m, s0) := hE
  show G X 0 0 0 [(11, 0), (0, a_by)] [] (m, s)
  refine g_aload_nq h 0 dX8_passes_0 rfl rfl ?_
  refine G_typ fun hT_s => ?_
  have t1 : 0 ≤ s 104 0 ∧ s 104 0 ≤ 192 := hT_s.2 104 0
  refine g_dup h 1 dX8_passes_1 (show (11 : Nat) ≠ 2 by decide) ?_
  refine gf_M_next h 2 dX8_passes_2 kw_1048 ?_
  refine g_iload_n h 5 dX8_passes_5 rfl ?_
  refine g_iadd h 6 dX8_passes_6 ?_
  obtain ⟨q1, hF⟩ := gd_some hF
  obtain ⟨s1, es1, hF⟩ := bn_ex hF
  refine pf_M_next h 7 dX8_passes_7 kw_1048 (by omega) ?_
  rw [← es1]
  obtain ⟨k1, ek1, hF⟩ := bn_ex hF
  have J1 : ∀ (s2 : S2), k1 s2 = some (r0, s0) → G X 0 0 30 [(11, 0), (0, a_by)] [] (m, s2) := by
    intro s2 hF
    rw [ek1] at hF
    obtain ⟨e1, e2⟩ := some_2 hF
    rw [← e2] at hE
    exact g_vret h 30 dX8_passes_30 hE rfl ⟨(Nat.le_of_ble_eq_true rfl), (Nat.le_of_ble_eq_true rfl)⟩
  refine G_typ fun hT_s1 => ?_
  have t2 : 0 ≤ s1 104 0 ∧ s1 104 0 ≤ 192 := hT_s1.2 104 0
  have J2 : s1 104 0 = 192 → G X 0 0 20 [(11, 0), (0, a_by)] [] (m, s1) := by
    intro h2
    have hF := ite_t h2 hF
    refine g_aload_nq h 20 dX8_passes_20 rfl rfl ?_
    refine g_iconst h 21 dX8_passes_21 ?_
    obtain ⟨s3, es3, hF⟩ := bn_ex hF
    refine pf_M_next h 22 dX8_passes_22 kw_1048 (by omega) ?_
    rw [← es3]
    refine g_aload_nq h 25 dX8_passes_25 rfl rfl ?_
    refine g_iconst h 26 dX8_passes_26 ?_
    obtain ⟨s4, es4, hF⟩ := bn_ex hF
    refine pf_M_looked h 27 dX8_passes_27 kw_1049 (by omega) ?_
    rw [← es4]
    exact J1 _ hF
  have J3 : ¬ (s1 104 0 = 192) → G X 0 0 30 [(11, 0), (0, a_by)] [] (m, s1) := by
    intro h3
    have hF := ite_f h3 hF
    exact J1 _ hF
  refine g_aload_nq h 10 dX8_passes_10 rfl rfl ?_
  refine gf_M_next h 11 dX8_passes_11 kw_1048 ?_
  refine g_sipush h 14 dX8_passes_14 (by decide) ?_
  refine g_icmp_ne h 17 30 (gRi (by omega)) (gRi (by omega)) dX8_passes_17 (by decide) (fun h1 => ?_) (fun h1 => ?_)
  · exact J3 h1
  · exact J2 h1
-- PagewrightModel.scoreOf
def FX8_scoreOf (a_s : Int) (s : S2) : Option (Int × S2) :=
  rgd (-50) 82 <| gd (0 ≤ a_s ∧ a_s ≤ 5) <| gl2 1000 (fun k1 (x_n1 : Int) (x_a1 : Int) (s1 : S2) => if x_a1 < 32 then gd ((-2147483648) ≤ x_n1 + (if (0 < s1 111 ((32 * a_s) + x_a1)) ∧ (s1 116 ((32 * a_s) + x_a1) ≠ 0) then 1 else 0 : Int) ∧ x_n1 + (if (0 < s1 111 ((32 * a_s) + x_a1)) ∧ (s1 116 ((32 * a_s) + x_a1) ≠ 0) then 1 else 0 : Int) ≤ 2147483647) <| k1 (x_n1 + (if (0 < s1 111 ((32 * a_s) + x_a1)) ∧ (s1 116 ((32 * a_s) + x_a1) ≠ 0) then 1 else 0 : Int)) (x_a1 + 1) s1 else some (x_n1, s1)) (s 108 a_s) 0 s
theorem rgX8_scoreOf {a_s : Int} {s s0 : S2} {r0 : Int} (hF : FX8_scoreOf a_s s = some (r0, s0)) : (-50) ≤ r0 ∧ r0 ≤ 82 := (rgd_some hF).2
set_option maxRecDepth 100000 in
set_option maxHeartbeats 4000000 in
theorem ctX8_scoreOf {l : Launch} {w : gW} {bs : Nat} (hl : l.stackTraces = false) {a_s : Int} {s m s0 : S2} {r0 : Int} (hF : FX8_scoreOf a_s s = some (r0, s0)) : gMet l w bs yX8_scoreOf cX8_scoreOf 4 (some FieldType.int) 0 0 [(11, 0), (0, a_s)] (m, s) 0 (some (0, r0)) (m, s0) := by
  unfold FX8_scoreOf at hF
  obtain ⟨hF, hr⟩ := rgd_some hF
  obtain ⟨q_a_s, hF⟩ := gd_some hF
  refine g_start hl (by decide) (Nat.le_of_ble_eq_true rfl) rfl fun X h hE => ?_
  have h : gOk X "PagewrightModel" cX8_scoreOf 4 0 0 0 := h
  have hE : gEnd X l w bs 0 (some FieldType.int) 0 (some (0, r0)) (m, s0) := hE
  show G X 0 0 0 [(11, 0), (0, a_s), (1, 0), (1, 0)] [] (m, s)
  refine G_typ fun hT_s => ?_
  have t1 : (-50) ≤ s 108 a_s ∧ s 108 a_s ≤ 50 := hT_s.2 108 a_s
  refine g_aload_nq h 0 dX8_scoreOf_0 rfl rfl ?_
  refine gf_M_adjusted h 1 dX8_scoreOf_1 kw_1014 ?_
  refine g_iload_n h 4 dX8_scoreOf_4 rfl ?_
  refine al_M_adjusted h 5 dX8_scoreOf_5 (by omega) ?_
  refine g_istore_n h 6 dX8_scoreOf_6 (Nat.le_of_ble_eq_true rfl) rfl (L' := [(11, 0), (0, a_s), (0, s 108 a_s), (1, 0)]) rfl ?_
  refine g_iconst h 7 dX8_scoreOf_7 ?_
  refine g_istore_n h 8 dX8_scoreOf_8 (Nat.le_of_ble_eq_true rfl) rfl (L' := [(11, 0), (0, a_s), (0, s 108 a_s), (0, 0)]) rfl ?_
  obtain ⟨f1, ef1, hF⟩ := glx2 hF
  have J7 : ∀ (n1 : Nat) (x_n1 x_a1 : Int) (s1 : S2), ((-2147483648) ≤ x_n1 ∧ x_n1 ≤ 2147483647) → (0 ≤ x_a1 ∧ x_a1 ≤ 32) → gl2 n1 f1 x_n1 x_a1 s1 = some (r0, s0) → G X 0 0 9 [(11, 0), (0, a_s), (0, x_n1), (0, x_a1)] [] (m, s1) := by
    intro n1
    induction n1 with
    | zero => intro x_n1 x_a1 s1 _ _ hF; exact (gl2_0 hF).elim
    | succ n1 ih1 =>
      intro x_n1 x_a1 s1 q1 q2 hF
      obtain ⟨k1, ek1, hF⟩ := glu2 hF ef1
      have J2 : x_a1 < 32 → G X 0 0 15 [(11, 0), (0, a_s), (0, x_n1), (0, x_a1)] [] (m, s1) := by
        intro h2
        have hF := ite_t h2 hF
        refine G_typ fun hT_s1 => ?_
        have t2 : 0 ≤ s1 111 ((32 * a_s) + x_a1) ∧ s1 111 ((32 * a_s) + x_a1) ≤ 3 := hT_s1.2 111 ((32 * a_s) + x_a1)
        have t3 : 0 ≤ s1 116 ((32 * a_s) + x_a1) ∧ s1 116 ((32 * a_s) + x_a1) ≤ 2 := hT_s1.2 116 ((32 * a_s) + x_a1)
        refine g_iload_n h 15 dX8_scoreOf_15 rfl ?_
        suffices J4 : ∀ v1 : Int, v1 = (if (0 < s1 111 ((32 * a_s) + x_a1)) ∧ (s1 116 ((32 * a_s) + x_a1) ≠ 0) then 1 else 0 : Int) → G X 0 0 49 [(11, 0), (0, a_s), (0, x_n1), (0, x_a1)] [(0, v1), (0, x_n1)] (m, s1) by
          have J5 : (0 < s1 111 ((32 * a_s) + x_a1)) ∧ (s1 116 ((32 * a_s) + x_a1) ≠ 0) → G X 0 0 44 [(11, 0), (0, a_s), (0, x_n1), (0, x_a1)] [(0, x_n1)] (m, s1) := by
            intro h5
            refine g_iconst h 44 dX8_scoreOf_44 ?_
            refine g_goto h 45 49 dX8_scoreOf_45 (by decide) ?_
            exact J4 _ (if_pos h5).symm
          have J6 : ¬ ((0 < s1 111 ((32 * a_s) + x_a1)) ∧ (s1 116 ((32 * a_s) + x_a1) ≠ 0)) → G X 0 0 48 [(11, 0), (0, a_s), (0, x_n1), (0, x_a1)] [(0, x_n1)] (m, s1) := by
            intro h6
            refine g_iconst h 48 dX8_scoreOf_48 ?_
            exact J4 _ (if_neg h6).symm
          refine g_aload_nq h 16 dX8_scoreOf_16 rfl rfl ?_
          refine gf_M_rights h 17 dX8_scoreOf_17 kw_1017 ?_
          refine g_bipush h 20 dX8_scoreOf_20 (by decide) ?_
          refine g_iload_n h 22 dX8_scoreOf_22 rfl ?_
          refine g_imul h 23 dX8_scoreOf_23 ?_
          refine g_iload_n h 24 dX8_scoreOf_24 rfl ?_
          refine g_iadd h 25 dX8_scoreOf_25 ?_
          refine al_M_rights h 26 dX8_scoreOf_26 (by omega) ?_
          refine g_if_le h 27 48 (gRi (by omega)) dX8_scoreOf_27 (by decide) (fun h3 => ?_) (fun h3 => ?_)
          · exact J6 (fun q => (Int.not_lt.mpr h3) q.1)
          · refine g_aload_nq h 30 dX8_scoreOf_30 rfl rfl ?_
            refine gf_M_state h 31 dX8_scoreOf_31 kw_1022 ?_
            refine g_bipush h 34 dX8_scoreOf_34 (by decide) ?_
            refine g_iload_n h 36 dX8_scoreOf_36 rfl ?_
            refine g_imul h 37 dX8_scoreOf_37 ?_
            refine g_iload_n h 38 dX8_scoreOf_38 rfl ?_
            refine g_iadd h 39 dX8_scoreOf_39 ?_
            refine al_M_state h 40 dX8_scoreOf_40 (by omega) ?_
            refine g_if_eq h 41 48 (gRi (by omega)) dX8_scoreOf_41 (by decide) (fun h4 => ?_) (fun h4 => ?_)
            · exact J6 (fun q => (fun q => q h4) q.2)
            · exact J5 ⟨h3, h4⟩
        intro v1 e1
        subst e1
        refine g_iadd h 49 dX8_scoreOf_49 ?_
        refine g_istore_n h 50 dX8_scoreOf_50 (Nat.le_of_ble_eq_true rfl) rfl (L' := [(11, 0), (0, a_s), (0, x_n1 + (if (0 < s1 111 ((32 * a_s) + x_a1)) ∧ (s1 116 ((32 * a_s) + x_a1) ≠ 0) then 1 else 0 : Int)), (0, x_a1)]) rfl ?_
        refine g_iinc h 51 dX8_scoreOf_51 rfl rfl (L' := [(11, 0), (0, a_s), (0, x_n1 + (if (0 < s1 111 ((32 * a_s) + x_a1)) ∧ (s1 116 ((32 * a_s) + x_a1) ≠ 0) then 1 else 0 : Int)), (0, x_a1 + 1)]) rfl ?_
        refine g_goto h 54 9 dX8_scoreOf_54 (by decide) ?_
        obtain ⟨q3, hF⟩ := gd_some hF
        rw [ek1] at hF
        exact ih1 _ _ _ (by omega) (by omega) hF
      have J3 : ¬ (x_a1 < 32) → G X 0 0 57 [(11, 0), (0, a_s), (0, x_n1), (0, x_a1)] [] (m, s1) := by
        intro h7
        have hF := ite_f h7 hF
        refine g_iload_n h 57 dX8_scoreOf_57 rfl ?_
        obtain ⟨e1, e2⟩ := some_2 hF
        rw [← e1, ← e2] at hE
        exact g_iret h 58 dX8_scoreOf_58 hE rfl rfl ⟨(Nat.le_of_ble_eq_true rfl), (Nat.le_of_ble_eq_true rfl)⟩
      refine g_iload_n h 9 dX8_scoreOf_9 rfl ?_
      refine g_bipush h 10 dX8_scoreOf_10 (by decide) ?_
      refine g_icmp_ge h 12 57 (gRi (by omega)) (gRi (by omega)) dX8_scoreOf_12 (by decide) (fun h1 => ?_) (fun h1 => ?_)
      · exact J3 (Int.not_lt.mpr h1)
      · exact J2 h1
  exact J7 _ _ _ _ (by omega) (by omega) hF
-- PagewrightModel.takesValue
def FX8_takesValue (a_f a_stores a_v : Int) (s : S2) : Option (Int × S2) :=
  rgd (-2147483648) 2147483647 <| gd (0 ≤ a_f ∧ a_f ≤ 23) <| gd (0 ≤ a_stores ∧ a_stores ≤ 1) <| gd (0 ≤ a_v ∧ a_v ≤ 99999) <| bn (upd2 s 124 a_f 1) fun s1 => bn (upd2 s1 122 a_f (if a_stores ≠ 0 then a_v else s 122 a_f : Int)) fun s2 => bn (upd2 s2 126 a_f (gOr (s2 126 a_f) (if (a_stores ≠ 0) ∧ (s2 121 a_f = 2) then 1 else 0 : Int))) fun s3 => some (s 122 a_f, s3)
theorem rgX8_takesValue {a_f a_stores a_v : Int} {s s0 : S2} {r0 : Int} (hF : FX8_takesValue a_f a_stores a_v s = some (r0, s0)) : (-2147483648) ≤ r0 ∧ r0 ≤ 2147483647 := (rgd_some hF).2
set_option maxRecDepth 100000 in
set_option maxHeartbeats 4000000 in
theorem ctX8_takesValue {l : Launch} {w : gW} {bs : Nat} (hl : l.stackTraces = false) {a_f a_stores a_v : Int} {s m s0 : S2} {r0 : Int} (hF : FX8_takesValue a_f a_stores a_v s = some (r0, s0)) : gMet l w bs yX8_takesValue cX8_takesValue 5 (some FieldType.int) 0 0 [(11, 0), (0, a_f), (0, a_stores), (0, a_v)] (m, s) 0 (some (0, r0)) (m, s0) := by
  unfold FX8_takesValue at hF
  obtain ⟨hF, hr⟩ := rgd_some hF
  obtain ⟨q_a_f, hF⟩ := gd_some hF
  obtain ⟨q_a_stores, hF⟩ := gd_some hF
  obtain ⟨q_a_v, hF⟩ := gd_some hF
  refine g_start hl (by decide) (Nat.le_of_ble_eq_true rfl) rfl fun X h hE => ?_
  have h : gOk X "PagewrightModel" cX8_takesValue 5 0 0 0 := h
  have hE : gEnd X l w bs 0 (some FieldType.int) 0 (some (0, r0)) (m, s0) := hE
  show G X 0 0 0 [(11, 0), (0, a_f), (0, a_stores), (0, a_v), (1, 0)] [] (m, s)
  refine G_typ fun hT_s => ?_
  have t1 : 0 ≤ s 122 a_f ∧ s 122 a_f ≤ 99999 := hT_s.2 122 a_f
  refine g_aload_nq h 0 dX8_takesValue_0 rfl rfl ?_
  refine gf_M_value h 1 dX8_takesValue_1 kw_1028 ?_
  refine g_iload_n h 4 dX8_takesValue_4 rfl ?_
  refine al_M_value h 5 dX8_takesValue_5 (by omega) ?_
  refine g_istore h 6 dX8_takesValue_6 (Nat.le_of_ble_eq_true rfl) rfl (L' := [(11, 0), (0, a_f), (0, a_stores), (0, a_v), (0, s 122 a_f)]) rfl ?_
  refine g_aload_nq h 8 dX8_takesValue_8 rfl rfl ?_
  refine gf_M_seen h 9 dX8_takesValue_9 kw_1030 ?_
  refine g_iload_n h 12 dX8_takesValue_12 rfl ?_
  refine g_iconst h 13 dX8_takesValue_13 ?_
  obtain ⟨s1, es1, hF⟩ := bn_ex hF
  refine as_M_seen h 14 dX8_takesValue_14 (by omega) (by omega) ?_
  rw [← es1]
  refine g_aload_nq h 15 dX8_takesValue_15 rfl rfl ?_
  refine gf_M_value h 16 dX8_takesValue_16 kw_1028 ?_
  refine g_iload_n h 19 dX8_takesValue_19 rfl ?_
  suffices J1 : ∀ v1 : Int, v1 = (if a_stores ≠ 0 then a_v else s 122 a_f : Int) → G X 0 0 30 [(11, 0), (0, a_f), (0, a_stores), (0, a_v), (0, s 122 a_f)] [(0, v1), (0, a_f), (40, 0)] (m, s1) by
    have J2 : a_stores ≠ 0 → G X 0 0 24 [(11, 0), (0, a_f), (0, a_stores), (0, a_v), (0, s 122 a_f)] [(0, a_f), (40, 0)] (m, s1) := by
      intro h2
      refine g_iload_n h 24 dX8_takesValue_24 rfl ?_
      refine g_goto h 25 30 dX8_takesValue_25 (by decide) ?_
      exact J1 _ (if_pos h2).symm
    have J3 : ¬ (a_stores ≠ 0) → G X 0 0 28 [(11, 0), (0, a_f), (0, a_stores), (0, a_v), (0, s 122 a_f)] [(0, a_f), (40, 0)] (m, s1) := by
      intro h3
      refine g_iload h 28 dX8_takesValue_28 rfl ?_
      exact J1 _ (if_neg h3).symm
    refine g_iload_n h 20 dX8_takesValue_20 rfl ?_
    refine g_if_eq h 21 28 (gRi (by omega)) dX8_takesValue_21 (by decide) (fun h1 => ?_) (fun h1 => ?_)
    · exact J3 (fun q => q h1)
    · exact J2 h1
  intro v1 e1
  subst e1
  obtain ⟨s2, es2, hF⟩ := bn_ex hF
  refine as_M_value h 30 dX8_takesValue_30 (by omega) (by omega) ?_
  rw [← es2]
  refine g_aload_nq h 31 dX8_takesValue_31 rfl rfl ?_
  refine gf_M_mark h 32 dX8_takesValue_32 kw_1032 ?_
  refine g_iload_n h 35 dX8_takesValue_35 rfl ?_
  refine G_typ fun hT_s2 => ?_
  have t2 : 0 ≤ s2 126 a_f ∧ s2 126 a_f ≤ 1 := hT_s2.2 126 a_f
  refine g_dup2 h 36 dX8_takesValue_36 (show (0 : Nat) ≠ 2 by decide) (show (44 : Nat) ≠ 2 by decide) ?_
  refine al_M_mark h 37 dX8_takesValue_37 (by omega) ?_
  have t3 : 0 ≤ s2 121 a_f ∧ s2 121 a_f ≤ 2 := hT_s2.2 121 a_f
  suffices J4 : ∀ v2 : Int, v2 = (if (a_stores ≠ 0) ∧ (s2 121 a_f = 2) then 1 else 0 : Int) → G X 0 0 57 [(11, 0), (0, a_f), (0, a_stores), (0, a_v), (0, s 122 a_f)] [(0, v2), (0, s2 126 a_f), (0, a_f), (44, 0)] (m, s2) by
    have J5 : (a_stores ≠ 0) ∧ (s2 121 a_f = 2) → G X 0 0 52 [(11, 0), (0, a_f), (0, a_stores), (0, a_v), (0, s 122 a_f)] [(0, s2 126 a_f), (0, a_f), (44, 0)] (m, s2) := by
      intro h6
      refine g_iconst h 52 dX8_takesValue_52 ?_
      refine g_goto h 53 57 dX8_takesValue_53 (by decide) ?_
      exact J4 _ (if_pos h6).symm
    have J6 : ¬ ((a_stores ≠ 0) ∧ (s2 121 a_f = 2)) → G X 0 0 56 [(11, 0), (0, a_f), (0, a_stores), (0, a_v), (0, s 122 a_f)] [(0, s2 126 a_f), (0, a_f), (44, 0)] (m, s2) := by
      intro h7
      refine g_iconst h 56 dX8_takesValue_56 ?_
      exact J4 _ (if_neg h7).symm
    refine g_iload_n h 38 dX8_takesValue_38 rfl ?_
    refine g_if_eq h 39 56 (gRi (by omega)) dX8_takesValue_39 (by decide) (fun h4 => ?_) (fun h4 => ?_)
    · exact J6 (fun q => (fun q => q h4) q.1)
    · refine g_aload_nq h 42 dX8_takesValue_42 rfl rfl ?_
      refine gf_M_kind h 43 dX8_takesValue_43 kw_1027 ?_
      refine g_iload_n h 46 dX8_takesValue_46 rfl ?_
      refine al_M_kind h 47 dX8_takesValue_47 (by omega) ?_
      refine g_iconst h 48 dX8_takesValue_48 ?_
      refine g_icmp_ne h 49 56 (gRi (by omega)) (gRi (by omega)) dX8_takesValue_49 (by decide) (fun h5 => ?_) (fun h5 => ?_)
      · exact J6 (fun q => h5 q.2)
      · exact J5 ⟨h4, h5⟩
  intro v2 e2
  subst e2
  have t4 : 0 ≤ gOr (s2 126 a_f) (if (a_stores ≠ 0) ∧ (s2 121 a_f = 2) then 1 else 0 : Int) ∧ gOr (s2 126 a_f) (if (a_stores ≠ 0) ∧ (s2 121 a_f = 2) then 1 else 0 : Int) ≤ 1 := gOr_01 (by omega) (by omega)
  refine g_ior h 57 dX8_takesValue_57 ?_
  obtain ⟨s3, es3, hF⟩ := bn_ex hF
  refine as_M_mark h 58 dX8_takesValue_58 (by omega) (by omega) ?_
  rw [← es3]
  refine g_iload h 59 dX8_takesValue_59 rfl ?_
  obtain ⟨e1, e2⟩ := some_2 hF
  rw [← e1, ← e2] at hE
  exact g_iret h 61 dX8_takesValue_61 hE rfl rfl ⟨(Nat.le_of_ble_eq_true rfl), (Nat.le_of_ble_eq_true rfl)⟩
-- PagewrightModel.tells
def FX8_tells (a_e : Int) (s : S2) : Option (Int × S2) :=
  gd (0 ≤ a_e ∧ a_e ≤ 191) <| gl1 1000 (fun k1 (x_t1 : Int) (s1 : S2) => if x_t1 < 8 then bn (upd2 s1 139 x_t1 (gOr (s1 139 x_t1) (if (x_t1 % 4 < s1 135 (x_t1 / 4)) ∧ (s1 136 x_t1 = a_e) then 1 else 0 : Int))) fun s2 => k1 (x_t1 + 1) s2 else some (0, s1)) 0 s
set_option maxRecDepth 100000 in
set_option maxHeartbeats 4000000 in
theorem ctX8_tells {l : Launch} {w : gW} {bs : Nat} (hl : l.stackTraces = false) {a_e : Int} {s m s0 : S2} {r0 : Int} (hF : FX8_tells a_e s = some (r0, s0)) : gMet l w bs yX8_tells cX8_tells 3 none 0 0 [(11, 0), (0, a_e)] (m, s) 0 none (m, s0) := by
  unfold FX8_tells at hF
  obtain ⟨q_a_e, hF⟩ := gd_some hF
  refine g_start hl (by decide) (Nat.le_of_ble_eq_true rfl) rfl fun X h hE => ?_
  have h : gOk X "PagewrightModel" cX8_tells 3 0 0 0 := h
  have hE : gEnd X l w bs 0 none 0 none (m, s0) := hE
  show G X 0 0 0 [(11, 0), (0, a_e), (1, 0)] [] (m, s)
  refine g_iconst h 0 dX8_tells_0 ?_
  refine g_istore_n h 1 dX8_tells_1 (Nat.le_of_ble_eq_true rfl) rfl (L' := [(11, 0), (0, a_e), (0, 0)]) rfl ?_
  obtain ⟨f1, ef1, hF⟩ := glx1 hF
  have J7 : ∀ (n1 : Nat) (x_t1 : Int) (s1 : S2), (0 ≤ x_t1 ∧ x_t1 ≤ 8) → gl1 n1 f1 x_t1 s1 = some (r0, s0) → G X 0 0 2 [(11, 0), (0, a_e), (0, x_t1)] [] (m, s1) := by
    intro n1
    induction n1 with
    | zero => intro x_t1 s1 _ hF; exact (gl1_0 hF).elim
    | succ n1 ih1 =>
      intro x_t1 s1 q1 hF
      obtain ⟨k1, ek1, hF⟩ := glu1 hF ef1
      have J2 : x_t1 < 8 → G X 0 0 8 [(11, 0), (0, a_e), (0, x_t1)] [] (m, s1) := by
        intro h2
        have hF := ite_t h2 hF
        refine g_aload_nq h 8 dX8_tells_8 rfl rfl ?_
        refine gf_M_waits h 9 dX8_tells_9 kw_1046 ?_
        refine g_iload_n h 12 dX8_tells_12 rfl ?_
        refine G_typ fun hT_s1 => ?_
        have t1 : 0 ≤ s1 139 x_t1 ∧ s1 139 x_t1 ≤ 1 := hT_s1.2 139 x_t1
        refine g_dup2 h 13 dX8_tells_13 (show (0 : Nat) ≠ 2 by decide) (show (57 : Nat) ≠ 2 by decide) ?_
        refine al_M_waits h 14 dX8_tells_14 (by omega) ?_
        have t2 : 0 ≤ s1 135 (x_t1 / 4) ∧ s1 135 (x_t1 / 4) ≤ 4 := hT_s1.2 135 (x_t1 / 4)
        have t3 : 0 ≤ s1 136 x_t1 ∧ s1 136 x_t1 ≤ 191 := hT_s1.2 136 x_t1
        suffices J4 : ∀ v1 : Int, v1 = (if (x_t1 % 4 < s1 135 (x_t1 / 4)) ∧ (s1 136 x_t1 = a_e) then 1 else 0 : Int) → G X 0 0 44 [(11, 0), (0, a_e), (0, x_t1)] [(0, v1), (0, s1 139 x_t1), (0, x_t1), (57, 0)] (m, s1) by
          have J5 : (x_t1 % 4 < s1 135 (x_t1 / 4)) ∧ (s1 136 x_t1 = a_e) → G X 0 0 39 [(11, 0), (0, a_e), (0, x_t1)] [(0, s1 139 x_t1), (0, x_t1), (57, 0)] (m, s1) := by
            intro h5
            refine g_iconst h 39 dX8_tells_39 ?_
            refine g_goto h 40 44 dX8_tells_40 (by decide) ?_
            exact J4 _ (if_pos h5).symm
          have J6 : ¬ ((x_t1 % 4 < s1 135 (x_t1 / 4)) ∧ (s1 136 x_t1 = a_e)) → G X 0 0 43 [(11, 0), (0, a_e), (0, x_t1)] [(0, s1 139 x_t1), (0, x_t1), (57, 0)] (m, s1) := by
            intro h6
            refine g_iconst h 43 dX8_tells_43 ?_
            exact J4 _ (if_neg h6).symm
          refine g_iload_n h 15 dX8_tells_15 rfl ?_
          refine g_iconst h 16 dX8_tells_16 ?_
          refine g_irem h 17 dX8_tells_17 (by omega) (by omega) ?_
          refine g_aload_nq h 18 dX8_tells_18 rfl rfl ?_
          refine gf_M_cached h 19 dX8_tells_19 kw_1042 ?_
          refine g_iload_n h 22 dX8_tells_22 rfl ?_
          refine g_iconst h 23 dX8_tells_23 ?_
          refine g_idiv h 24 dX8_tells_24 (by omega) (by omega) ?_
          refine al_M_cached h 25 dX8_tells_25 (by omega) ?_
          refine g_icmp_ge h 26 43 (gRi (by omega)) (gRi (by omega)) dX8_tells_26 (by decide) (fun h3 => ?_) (fun h3 => ?_)
          · exact J6 (fun q => (Int.not_lt.mpr h3) q.1)
          · refine g_aload_nq h 29 dX8_tells_29 rfl rfl ?_
            refine gf_M_entry h 30 dX8_tells_30 kw_1043 ?_
            refine g_iload_n h 33 dX8_tells_33 rfl ?_
            refine al_M_entry h 34 dX8_tells_34 (by omega) ?_
            refine g_iload_n h 35 dX8_tells_35 rfl ?_
            refine g_icmp_ne h 36 43 (gRi (by omega)) (gRi (by omega)) dX8_tells_36 (by decide) (fun h4 => ?_) (fun h4 => ?_)
            · exact J6 (fun q => h4 q.2)
            · exact J5 ⟨h3, h4⟩
        intro v1 e1
        subst e1
        have t4 : 0 ≤ gOr (s1 139 x_t1) (if (x_t1 % 4 < s1 135 (x_t1 / 4)) ∧ (s1 136 x_t1 = a_e) then 1 else 0 : Int) ∧ gOr (s1 139 x_t1) (if (x_t1 % 4 < s1 135 (x_t1 / 4)) ∧ (s1 136 x_t1 = a_e) then 1 else 0 : Int) ≤ 1 := gOr_01 (by omega) (by omega)
        refine g_ior h 44 dX8_tells_44 ?_
        obtain ⟨s2, es2, hF⟩ := bn_ex hF
        refine as_M_waits h 45 dX8_tells_45 (by omega) (by omega) ?_
        rw [← es2]
        refine g_iinc h 46 dX8_tells_46 rfl rfl (L' := [(11, 0), (0, a_e), (0, x_t1 + 1)]) rfl ?_
        refine g_goto h 49 2 dX8_tells_49 (by decide) ?_
        rw [ek1] at hF
        exact ih1 _ _ (by omega) hF
      have J3 : ¬ (x_t1 < 8) → G X 0 0 52 [(11, 0), (0, a_e), (0, x_t1)] [] (m, s1) := by
        intro h7
        have hF := ite_f h7 hF
        obtain ⟨e1, e2⟩ := some_2 hF
        rw [← e2] at hE
        exact g_vret h 52 dX8_tells_52 hE rfl ⟨(Nat.le_of_ble_eq_true rfl), (Nat.le_of_ble_eq_true rfl)⟩
      refine g_iload_n h 2 dX8_tells_2 rfl ?_
      refine g_bipush h 3 dX8_tells_3 (by decide) ?_
      refine g_icmp_ge h 5 52 (gRi (by omega)) (gRi (by omega)) dX8_tells_5 (by decide) (fun h1 => ?_) (fun h1 => ?_)
      · exact J3 (Int.not_lt.mpr h1)
      · exact J2 h1
  exact J7 _ _ _ (by omega) hF
-- PagewrightModel.thrown
set_option maxRecDepth 100000 in
theorem cpX8_thrown {l : Launch} {w : gW} {bs : Nat} (hl : l.stackTraces = false) {s m : S2} : gMet l w bs yX8_thrown cX8_thrown 1 (some FieldType.int) 0 0 [(11, 0)] (m, s) 0 (some (0, s 101 0)) (m, s) := by
  refine g_start hl (by decide) (Nat.le_of_ble_eq_true rfl) rfl fun X h hE => ?_
  have h : gOk X "PagewrightModel" cX8_thrown 1 0 0 0 := h
  show G X 0 0 0 [(11, 0)] [] (m, s)
  refine G_typ fun hT_s => ?_
  have t1 : 0 ≤ s 101 0 ∧ s 101 0 ≤ 3 := hT_s.2 101 0
  refine g_aload_nq h 0 dX8_thrown_0 rfl rfl ?_
  refine gf_M_thrown h 1 dX8_thrown_1 kw_1010 ?_
  exact g_iret h 4 dX8_thrown_4 hE rfl rfl ⟨(Nat.le_of_ble_eq_true rfl), (Nat.le_of_ble_eq_true rfl)⟩
-- PagewrightModel.translationOf
def FX8_translationOf (a_p a_e : Int) (s : S2) : Option (Int × S2) :=
  rgd (-1) 7 <| gd (0 ≤ a_p ∧ a_p ≤ 1) <| gd (0 ≤ a_e ∧ a_e ≤ 191) <| gd ((-2147483648) ≤ 4 * a_p ∧ 4 * a_p ≤ 2147483647) <| gl1 1000 (fun k1 (x_t1 : Int) (s1 : S2) => if x_t1 < (4 * a_p) + (s1 135 a_p) then gd (0 ≤ x_t1 ∧ x_t1 ≤ 7) <| if s1 136 x_t1 = a_e then some (x_t1, s1) else k1 (x_t1 + 1) s1 else some ((-1), s1)) (4 * a_p) s
theorem rgX8_translationOf {a_p a_e : Int} {s s0 : S2} {r0 : Int} (hF : FX8_translationOf a_p a_e s = some (r0, s0)) : (-1) ≤ r0 ∧ r0 ≤ 7 := (rgd_some hF).2
set_option maxRecDepth 100000 in
set_option maxHeartbeats 4000000 in
theorem ctX8_translationOf {l : Launch} {w : gW} {bs : Nat} (hl : l.stackTraces = false) {a_p a_e : Int} {s m s0 : S2} {r0 : Int} (hF : FX8_translationOf a_p a_e s = some (r0, s0)) : gMet l w bs yX8_translationOf cX8_translationOf 4 (some FieldType.int) 0 0 [(11, 0), (0, a_p), (0, a_e)] (m, s) 0 (some (0, r0)) (m, s0) := by
  unfold FX8_translationOf at hF
  obtain ⟨hF, hr⟩ := rgd_some hF
  obtain ⟨q_a_p, hF⟩ := gd_some hF
  obtain ⟨q_a_e, hF⟩ := gd_some hF
  refine g_start hl (by decide) (Nat.le_of_ble_eq_true rfl) rfl fun X h hE => ?_
  have h : gOk X "PagewrightModel" cX8_translationOf 4 0 0 0 := h
  have hE : gEnd X l w bs 0 (some FieldType.int) 0 (some (0, r0)) (m, s0) := hE
  show G X 0 0 0 [(11, 0), (0, a_p), (0, a_e), (1, 0)] [] (m, s)
  refine g_iconst h 0 dX8_translationOf_0 ?_
  refine g_iload_n h 1 dX8_translationOf_1 rfl ?_
  refine g_imul h 2 dX8_translationOf_2 ?_
  refine g_istore_n h 3 dX8_translationOf_3 (Nat.le_of_ble_eq_true rfl) rfl (L' := [(11, 0), (0, a_p), (0, a_e), (0, 4 * a_p)]) rfl ?_
  obtain ⟨q3, hF⟩ := gd_some hF
  obtain ⟨f1, ef1, hF⟩ := glx1 hF
  have J6 : ∀ (n1 : Nat) (x_t1 : Int) (s1 : S2), ((-2147483648) ≤ x_t1 ∧ x_t1 ≤ 2147483647) → gl1 n1 f1 x_t1 s1 = some (r0, s0) → G X 0 0 4 [(11, 0), (0, a_p), (0, a_e), (0, x_t1)] [] (m, s1) := by
    intro n1
    induction n1 with
    | zero => intro x_t1 s1 _ hF; exact (gl1_0 hF).elim
    | succ n1 ih1 =>
      intro x_t1 s1 q1 hF
      obtain ⟨k1, ek1, hF⟩ := glu1 hF ef1
      refine G_typ fun hT_s1 => ?_
      have t1 : 0 ≤ s1 135 a_p ∧ s1 135 a_p ≤ 4 := hT_s1.2 135 a_p
      have J2 : x_t1 < (4 * a_p) + (s1 135 a_p) → G X 0 0 18 [(11, 0), (0, a_p), (0, a_e), (0, x_t1)] [] (m, s1) := by
        intro h2
        have hF := ite_t h2 hF
        have t2 : 0 ≤ s1 136 x_t1 ∧ s1 136 x_t1 ≤ 191 := hT_s1.2 136 x_t1
        obtain ⟨q2, hF⟩ := gd_some hF
        have J4 : s1 136 x_t1 = a_e → G X 0 0 28 [(11, 0), (0, a_p), (0, a_e), (0, x_t1)] [] (m, s1) := by
          intro h4
          have hF := ite_t h4 hF
          refine g_iload_n h 28 dX8_translationOf_28 rfl ?_
          obtain ⟨e1, e2⟩ := some_2 hF
          rw [← e1, ← e2] at hE
          exact g_iret h 29 dX8_translationOf_29 hE rfl rfl ⟨(Nat.le_of_ble_eq_true rfl), (Nat.le_of_ble_eq_true rfl)⟩
        have J5 : ¬ (s1 136 x_t1 = a_e) → G X 0 0 30 [(11, 0), (0, a_p), (0, a_e), (0, x_t1)] [] (m, s1) := by
          intro h5
          have hF := ite_f h5 hF
          refine g_iinc h 30 dX8_translationOf_30 rfl rfl (L' := [(11, 0), (0, a_p), (0, a_e), (0, x_t1 + 1)]) rfl ?_
          refine g_goto h 33 4 dX8_translationOf_33 (by decide) ?_
          rw [ek1] at hF
          exact ih1 _ _ (by omega) hF
        refine g_aload_nq h 18 dX8_translationOf_18 rfl rfl ?_
        refine gf_M_entry h 19 dX8_translationOf_19 kw_1043 ?_
        refine g_iload_n h 22 dX8_translationOf_22 rfl ?_
        refine al_M_entry h 23 dX8_translationOf_23 (by omega) ?_
        refine g_iload_n h 24 dX8_translationOf_24 rfl ?_
        refine g_icmp_ne h 25 30 (gRi (by omega)) (gRi (by omega)) dX8_translationOf_25 (by decide) (fun h3 => ?_) (fun h3 => ?_)
        · exact J5 h3
        · exact J4 h3
      have J3 : ¬ (x_t1 < (4 * a_p) + (s1 135 a_p)) → G X 0 0 36 [(11, 0), (0, a_p), (0, a_e), (0, x_t1)] [] (m, s1) := by
        intro h6
        have hF := ite_f h6 hF
        refine g_iconst h 36 dX8_translationOf_36 ?_
        obtain ⟨e1, e2⟩ := some_2 hF
        rw [← e1, ← e2] at hE
        exact g_iret h 37 dX8_translationOf_37 hE rfl rfl ⟨(Nat.le_of_ble_eq_true rfl), (Nat.le_of_ble_eq_true rfl)⟩
      refine g_iload_n h 4 dX8_translationOf_4 rfl ?_
      refine g_iconst h 5 dX8_translationOf_5 ?_
      refine g_iload_n h 6 dX8_translationOf_6 rfl ?_
      refine g_imul h 7 dX8_translationOf_7 ?_
      refine g_aload_nq h 8 dX8_translationOf_8 rfl rfl ?_
      refine gf_M_cached h 9 dX8_translationOf_9 kw_1042 ?_
      refine g_iload_n h 12 dX8_translationOf_12 rfl ?_
      refine al_M_cached h 13 dX8_translationOf_13 (by omega) ?_
      refine g_iadd h 14 dX8_translationOf_14 ?_
      refine g_icmp_ge h 15 36 (gRi (by omega)) (gRi (by omega)) dX8_translationOf_15 (by decide) (fun h1 => ?_) (fun h1 => ?_)
      · exact J3 (Int.not_lt.mpr h1)
      · exact J2 h1
  exact J6 _ _ _ (by omega) hF
-- PagewrightModel.unblocks
def FX8_unblocks (a_e : Int) (s : S2) : Option (Int × S2) :=
  gd (0 ≤ a_e ∧ a_e ≤ 191) <| gl1 1000 (fun k1 (x_k1 : Int) (s1 : S2) => if x_k1 < 4 then bn (upd2 s1 120 (((a_e / 4) * 4) + x_k1) 0) fun s2 => k1 (x_k1 + 1) s2 else some (0, s1)) 0 s
set_option maxRecDepth 100000 in
set_option maxHeartbeats 4000000 in
theorem ctX8_unblocks {l : Launch} {w : gW} {bs : Nat} (hl : l.stackTraces = false) {a_e : Int} {s m s0 : S2} {r0 : Int} (hF : FX8_unblocks a_e s = some (r0, s0)) : gMet l w bs yX8_unblocks cX8_unblocks 3 none 0 0 [(11, 0), (0, a_e)] (m, s) 0 none (m, s0) := by
  unfold FX8_unblocks at hF
  obtain ⟨q_a_e, hF⟩ := gd_some hF
  refine g_start hl (by decide) (Nat.le_of_ble_eq_true rfl) rfl fun X h hE => ?_
  have h : gOk X "PagewrightModel" cX8_unblocks 3 0 0 0 := h
  have hE : gEnd X l w bs 0 none 0 none (m, s0) := hE
  show G X 0 0 0 [(11, 0), (0, a_e), (1, 0)] [] (m, s)
  refine g_iconst h 0 dX8_unblocks_0 ?_
  refine g_istore_n h 1 dX8_unblocks_1 (Nat.le_of_ble_eq_true rfl) rfl (L' := [(11, 0), (0, a_e), (0, 0)]) rfl ?_
  obtain ⟨f1, ef1, hF⟩ := glx1 hF
  have J4 : ∀ (n1 : Nat) (x_k1 : Int) (s1 : S2), (0 ≤ x_k1 ∧ x_k1 ≤ 4) → gl1 n1 f1 x_k1 s1 = some (r0, s0) → G X 0 0 2 [(11, 0), (0, a_e), (0, x_k1)] [] (m, s1) := by
    intro n1
    induction n1 with
    | zero => intro x_k1 s1 _ hF; exact (gl1_0 hF).elim
    | succ n1 ih1 =>
      intro x_k1 s1 q1 hF
      obtain ⟨k1, ek1, hF⟩ := glu1 hF ef1
      have J2 : x_k1 < 4 → G X 0 0 7 [(11, 0), (0, a_e), (0, x_k1)] [] (m, s1) := by
        intro h2
        have hF := ite_t h2 hF
        refine g_aload_nq h 7 dX8_unblocks_7 rfl rfl ?_
        refine gf_M_block h 8 dX8_unblocks_8 kw_1026 ?_
        refine g_iload_n h 11 dX8_unblocks_11 rfl ?_
        refine g_iconst h 12 dX8_unblocks_12 ?_
        refine g_idiv h 13 dX8_unblocks_13 (by omega) (by omega) ?_
        refine g_iconst h 14 dX8_unblocks_14 ?_
        refine g_imul h 15 dX8_unblocks_15 ?_
        refine g_iload_n h 16 dX8_unblocks_16 rfl ?_
        refine g_iadd h 17 dX8_unblocks_17 ?_
        refine g_iconst h 18 dX8_unblocks_18 ?_
        obtain ⟨s2, es2, hF⟩ := bn_ex hF
        refine as_M_block h 19 dX8_unblocks_19 (by omega) (by omega) ?_
        rw [← es2]
        refine g_iinc h 20 dX8_unblocks_20 rfl rfl (L' := [(11, 0), (0, a_e), (0, x_k1 + 1)]) rfl ?_
        refine g_goto h 23 2 dX8_unblocks_23 (by decide) ?_
        rw [ek1] at hF
        exact ih1 _ _ (by omega) hF
      have J3 : ¬ (x_k1 < 4) → G X 0 0 26 [(11, 0), (0, a_e), (0, x_k1)] [] (m, s1) := by
        intro h3
        have hF := ite_f h3 hF
        obtain ⟨e1, e2⟩ := some_2 hF
        rw [← e2] at hE
        exact g_vret h 26 dX8_unblocks_26 hE rfl ⟨(Nat.le_of_ble_eq_true rfl), (Nat.le_of_ble_eq_true rfl)⟩
      refine g_iload_n h 2 dX8_unblocks_2 rfl ?_
      refine g_iconst h 3 dX8_unblocks_3 ?_
      refine g_icmp_ge h 4 26 (gRi (by omega)) (gRi (by omega)) dX8_unblocks_4 (by decide) (fun h1 => ?_) (fun h1 => ?_)
      · exact J3 (Int.not_lt.mpr h1)
      · exact J2 h1
  exact J4 _ _ _ (by omega) hF
-- PagewrightModel.unlist
def FX8_unlist (a_f : Int) (s : S2) : Option (Int × S2) :=
  gd (0 ≤ a_f ∧ a_f ≤ 23) <| gl2 1000 (fun k1 (x_to1 : Int) (x_k1 : Int) (s1 : S2) => if x_k1 < s1 129 (s 123 a_f) then gd (0 ≤ (24 * (s 123 a_f)) + x_to1 ∧ (24 * (s 123 a_f)) + x_to1 ≤ 47) <| bn (upd2 s1 128 ((24 * (s 123 a_f)) + x_to1) (s1 128 ((24 * (s 123 a_f)) + x_k1))) fun s2 => gd ((-2147483648) ≤ x_to1 + (if s1 128 ((24 * (s 123 a_f)) + x_k1) = a_f then 0 else 1 : Int) ∧ x_to1 + (if s1 128 ((24 * (s 123 a_f)) + x_k1) = a_f then 0 else 1 : Int) ≤ 2147483647) <| k1 (x_to1 + (if s1 128 ((24 * (s 123 a_f)) + x_k1) = a_f then 0 else 1 : Int)) (x_k1 + 1) s2 else gd (0 ≤ x_to1 ∧ x_to1 ≤ 24) <| bn (upd2 s1 129 (s 123 a_f) x_to1) fun s3 => some (0, s3)) 0 0 s
set_option maxRecDepth 100000 in
set_option maxHeartbeats 4000000 in
theorem ctX8_unlist {l : Launch} {w : gW} {bs : Nat} (hl : l.stackTraces = false) {a_f : Int} {s m s0 : S2} {r0 : Int} (hF : FX8_unlist a_f s = some (r0, s0)) : gMet l w bs yX8_unlist cX8_unlist 6 none 0 0 [(11, 0), (0, a_f)] (m, s) 0 none (m, s0) := by
  unfold FX8_unlist at hF
  obtain ⟨q_a_f, hF⟩ := gd_some hF
  refine g_start hl (by decide) (Nat.le_of_ble_eq_true rfl) rfl fun X h hE => ?_
  have h : gOk X "PagewrightModel" cX8_unlist 6 0 0 0 := h
  have hE : gEnd X l w bs 0 none 0 none (m, s0) := hE
  show G X 0 0 0 [(11, 0), (0, a_f), (1, 0), (1, 0), (1, 0), (1, 0)] [] (m, s)
  refine G_typ fun hT_s => ?_
  have t1 : 0 ≤ s 123 a_f ∧ s 123 a_f ≤ 1 := hT_s.2 123 a_f
  refine g_aload_nq h 0 dX8_unlist_0 rfl rfl ?_
  refine gf_M_list h 1 dX8_unlist_1 kw_1029 ?_
  refine g_iload_n h 4 dX8_unlist_4 rfl ?_
  refine al_M_list h 5 dX8_unlist_5 (by omega) ?_
  refine g_istore_n h 6 dX8_unlist_6 (Nat.le_of_ble_eq_true rfl) rfl (L' := [(11, 0), (0, a_f), (0, s 123 a_f), (1, 0), (1, 0), (1, 0)]) rfl ?_
  refine g_iconst h 7 dX8_unlist_7 ?_
  refine g_istore_n h 8 dX8_unlist_8 (Nat.le_of_ble_eq_true rfl) rfl (L' := [(11, 0), (0, a_f), (0, s 123 a_f), (0, 0), (1, 0), (1, 0)]) rfl ?_
  refine g_iconst h 9 dX8_unlist_9 ?_
  refine g_istore h 10 dX8_unlist_10 (Nat.le_of_ble_eq_true rfl) rfl (L' := [(11, 0), (0, a_f), (0, s 123 a_f), (0, 0), (0, 0), (1, 0)]) rfl ?_
  obtain ⟨f1, ef1, hF⟩ := glx2 hF
  have J7 : ∀ (n1 : Nat) (x_to1 x_k1 : Int) (s1 : S2), ((-2147483648) ≤ x_to1 ∧ x_to1 ≤ 2147483647) → (0 ≤ x_k1 ∧ x_k1 ≤ 24) → gl2 n1 f1 x_to1 x_k1 s1 = some (r0, s0) → G X 0 0 12 [(11, 0), (0, a_f), (0, s 123 a_f), (0, x_to1), (0, x_k1), (1, 0)] [] (m, s1) := by
    intro n1
    induction n1 with
    | zero => intro x_to1 x_k1 s1 _ _ hF; exact (gl2_0 hF).elim
    | succ n1 ih1 =>
      intro x_to1 x_k1 s1 q1 q2 hF
      obtain ⟨k1, ek1, hF⟩ := glu2 hF ef1
      refine G_typ fun hT_s1 => ?_
      have t2 : 0 ≤ s1 129 (s 123 a_f) ∧ s1 129 (s 123 a_f) ≤ 24 := hT_s1.2 129 (s 123 a_f)
      have J2 : x_k1 < s1 129 (s 123 a_f) → G X 0 0 23 [(11, 0), (0, a_f), (0, s 123 a_f), (0, x_to1), (0, x_k1), (1, 0)] [] (m, s1) := by
        intro h2
        have hF := ite_t h2 hF
        have t3 : 0 ≤ s1 128 ((24 * (s 123 a_f)) + x_k1) ∧ s1 128 ((24 * (s 123 a_f)) + x_k1) ≤ 23 := hT_s1.2 128 ((24 * (s 123 a_f)) + x_k1)
        refine g_aload_nq h 23 dX8_unlist_23 rfl rfl ?_
        refine gf_M_row h 24 dX8_unlist_24 kw_1034 ?_
        refine g_bipush h 27 dX8_unlist_27 (by decide) ?_
        refine g_iload_n h 29 dX8_unlist_29 rfl ?_
        refine g_imul h 30 dX8_unlist_30 ?_
        refine g_iload h 31 dX8_unlist_31 rfl ?_
        refine g_iadd h 33 dX8_unlist_33 ?_
        refine al_M_row h 34 dX8_unlist_34 (by omega) ?_
        refine g_istore h 35 dX8_unlist_35 (Nat.le_of_ble_eq_true rfl) rfl (L' := [(11, 0), (0, a_f), (0, s 123 a_f), (0, x_to1), (0, x_k1), (0, s1 128 ((24 * (s 123 a_f)) + x_k1))]) rfl ?_
        refine g_aload_nq h 37 dX8_unlist_37 rfl rfl ?_
        refine gf_M_row h 38 dX8_unlist_38 kw_1034 ?_
        refine g_bipush h 41 dX8_unlist_41 (by decide) ?_
        refine g_iload_n h 43 dX8_unlist_43 rfl ?_
        refine g_imul h 44 dX8_unlist_44 ?_
        refine g_iload_n h 45 dX8_unlist_45 rfl ?_
        refine g_iadd h 46 dX8_unlist_46 ?_
        obtain ⟨q3, hF⟩ := gd_some hF
        refine g_iload h 47 dX8_unlist_47 rfl ?_
        obtain ⟨s2, es2, hF⟩ := bn_ex hF
        refine as_M_row h 49 dX8_unlist_49 (by omega) (by omega) ?_
        rw [← es2]
        refine g_iload_n h 50 dX8_unlist_50 rfl ?_
        suffices J4 : ∀ v1 : Int, v1 = (if s1 128 ((24 * (s 123 a_f)) + x_k1) = a_f then 0 else 1 : Int) → G X 0 0 62 [(11, 0), (0, a_f), (0, s 123 a_f), (0, x_to1), (0, x_k1), (0, s1 128 ((24 * (s 123 a_f)) + x_k1))] [(0, v1), (0, x_to1)] (m, s2) by
          have J5 : s1 128 ((24 * (s 123 a_f)) + x_k1) = a_f → G X 0 0 57 [(11, 0), (0, a_f), (0, s 123 a_f), (0, x_to1), (0, x_k1), (0, s1 128 ((24 * (s 123 a_f)) + x_k1))] [(0, x_to1)] (m, s2) := by
            intro h4
            refine g_iconst h 57 dX8_unlist_57 ?_
            refine g_goto h 58 62 dX8_unlist_58 (by decide) ?_
            exact J4 _ (if_pos h4).symm
          have J6 : ¬ (s1 128 ((24 * (s 123 a_f)) + x_k1) = a_f) → G X 0 0 61 [(11, 0), (0, a_f), (0, s 123 a_f), (0, x_to1), (0, x_k1), (0, s1 128 ((24 * (s 123 a_f)) + x_k1))] [(0, x_to1)] (m, s2) := by
            intro h5
            refine g_iconst h 61 dX8_unlist_61 ?_
            exact J4 _ (if_neg h5).symm
          refine g_iload h 51 dX8_unlist_51 rfl ?_
          refine g_iload_n h 53 dX8_unlist_53 rfl ?_
          refine g_icmp_ne h 54 61 (gRi (by omega)) (gRi (by omega)) dX8_unlist_54 (by decide) (fun h3 => ?_) (fun h3 => ?_)
          · exact J6 h3
          · exact J5 h3
        intro v1 e1
        subst e1
        refine g_iadd h 62 dX8_unlist_62 ?_
        refine g_istore_n h 63 dX8_unlist_63 (Nat.le_of_ble_eq_true rfl) rfl (L' := [(11, 0), (0, a_f), (0, s 123 a_f), (0, x_to1 + (if s1 128 ((24 * (s 123 a_f)) + x_k1) = a_f then 0 else 1 : Int)), (0, x_k1), (0, s1 128 ((24 * (s 123 a_f)) + x_k1))]) rfl ?_
        refine g_iinc h 64 dX8_unlist_64 rfl rfl (L' := [(11, 0), (0, a_f), (0, s 123 a_f), (0, x_to1 + (if s1 128 ((24 * (s 123 a_f)) + x_k1) = a_f then 0 else 1 : Int)), (0, x_k1 + 1), (0, s1 128 ((24 * (s 123 a_f)) + x_k1))]) rfl ?_
        refine g_goto h 67 12 dX8_unlist_67 (by decide) ?_
        obtain ⟨q4, hF⟩ := gd_some hF
        refine G_weak (L' := [(11, 0), (0, a_f), (0, s 123 a_f), (0, x_to1 + (if s1 128 ((24 * (s 123 a_f)) + x_k1) = a_f then 0 else 1 : Int)), (0, x_k1 + 1), (1, 0)]) ⟨Or.inr rfl, Or.inr rfl, Or.inr rfl, Or.inr rfl, Or.inr rfl, Or.inl rfl, trivial⟩ ?_
        rw [ek1] at hF
        exact ih1 _ _ _ (by omega) (by omega) hF
      have J3 : ¬ (x_k1 < s1 129 (s 123 a_f)) → G X 0 0 70 [(11, 0), (0, a_f), (0, s 123 a_f), (0, x_to1), (0, x_k1), (1, 0)] [] (m, s1) := by
        intro h6
        have hF := ite_f h6 hF
        refine g_aload_nq h 70 dX8_unlist_70 rfl rfl ?_
        refine gf_M_many h 71 dX8_unlist_71 kw_1035 ?_
        refine g_iload_n h 74 dX8_unlist_74 rfl ?_
        refine g_iload_n h 75 dX8_unlist_75 rfl ?_
        obtain ⟨q5, hF⟩ := gd_some hF
        obtain ⟨s3, es3, hF⟩ := bn_ex hF
        refine as_M_many h 76 dX8_unlist_76 (by omega) (by omega) ?_
        rw [← es3]
        obtain ⟨e1, e2⟩ := some_2 hF
        rw [← e2] at hE
        exact g_vret h 77 dX8_unlist_77 hE rfl ⟨(Nat.le_of_ble_eq_true rfl), (Nat.le_of_ble_eq_true rfl)⟩
      refine g_iload h 12 dX8_unlist_12 rfl ?_
      refine g_aload_nq h 14 dX8_unlist_14 rfl rfl ?_
      refine gf_M_many h 15 dX8_unlist_15 kw_1035 ?_
      refine g_iload_n h 18 dX8_unlist_18 rfl ?_
      refine al_M_many h 19 dX8_unlist_19 (by omega) ?_
      refine g_icmp_ge h 20 70 (gRi (by omega)) (gRi (by omega)) dX8_unlist_20 (by decide) (fun h1 => ?_) (fun h1 => ?_)
      · exact J3 (Int.not_lt.mpr h1)
      · exact J2 h1
  exact J7 _ _ _ _ (by omega) (by omega) hF
-- PagewrightModel.used
def FX8_used (s : S2) : Option (Int × S2) :=
  rgd 0 36 <| gl2 1000 (fun k1 (x_sum1 : Int) (x_r1 : Int) (s1 : S2) => if x_r1 < 18 then gd ((-2147483648) ≤ x_sum1 + (if s1 132 x_r1 = 10 then (if s1 133 x_r1 < 100 then 1 else 2 : Int) else 0 : Int) ∧ x_sum1 + (if s1 132 x_r1 = 10 then (if s1 133 x_r1 < 100 then 1 else 2 : Int) else 0 : Int) ≤ 2147483647) <| k1 (x_sum1 + (if s1 132 x_r1 = 10 then (if s1 133 x_r1 < 100 then 1 else 2 : Int) else 0 : Int)) (x_r1 + 1) s1 else some (x_sum1, s1)) 0 0 s
theorem rgX8_used {s s0 : S2} {r0 : Int} (hF : FX8_used s = some (r0, s0)) : 0 ≤ r0 ∧ r0 ≤ 36 := (rgd_some hF).2
set_option maxRecDepth 100000 in
set_option maxHeartbeats 4000000 in
theorem ctX8_used {l : Launch} {w : gW} {bs : Nat} (hl : l.stackTraces = false) {s m s0 : S2} {r0 : Int} (hF : FX8_used s = some (r0, s0)) : gMet l w bs yX8_used cX8_used 3 (some FieldType.int) 0 0 [(11, 0)] (m, s) 0 (some (0, r0)) (m, s0) := by
  unfold FX8_used at hF
  obtain ⟨hF, hr⟩ := rgd_some hF
  refine g_start hl (by decide) (Nat.le_of_ble_eq_true rfl) rfl fun X h hE => ?_
  have h : gOk X "PagewrightModel" cX8_used 3 0 0 0 := h
  have hE : gEnd X l w bs 0 (some FieldType.int) 0 (some (0, r0)) (m, s0) := hE
  show G X 0 0 0 [(11, 0), (1, 0), (1, 0)] [] (m, s)
  refine g_iconst h 0 dX8_used_0 ?_
  refine g_istore_n h 1 dX8_used_1 (Nat.le_of_ble_eq_true rfl) rfl (L' := [(11, 0), (0, 0), (1, 0)]) rfl ?_
  refine g_iconst h 2 dX8_used_2 ?_
  refine g_istore_n h 3 dX8_used_3 (Nat.le_of_ble_eq_true rfl) rfl (L' := [(11, 0), (0, 0), (0, 0)]) rfl ?_
  obtain ⟨f1, ef1, hF⟩ := glx2 hF
  have J10 : ∀ (n1 : Nat) (x_sum1 x_r1 : Int) (s1 : S2), ((-2147483648) ≤ x_sum1 ∧ x_sum1 ≤ 2147483647) → (0 ≤ x_r1 ∧ x_r1 ≤ 18) → gl2 n1 f1 x_sum1 x_r1 s1 = some (r0, s0) → G X 0 0 4 [(11, 0), (0, x_sum1), (0, x_r1)] [] (m, s1) := by
    intro n1
    induction n1 with
    | zero => intro x_sum1 x_r1 s1 _ _ hF; exact (gl2_0 hF).elim
    | succ n1 ih1 =>
      intro x_sum1 x_r1 s1 q1 q2 hF
      obtain ⟨k1, ek1, hF⟩ := glu2 hF ef1
      have J2 : x_r1 < 18 → G X 0 0 10 [(11, 0), (0, x_sum1), (0, x_r1)] [] (m, s1) := by
        intro h2
        have hF := ite_t h2 hF
        refine G_typ fun hT_s1 => ?_
        have t1 : (-1) ≤ s1 132 x_r1 ∧ s1 132 x_r1 ≤ 10 := hT_s1.2 132 x_r1
        have t2 : 0 ≤ s1 133 x_r1 ∧ s1 133 x_r1 ≤ 99999 := hT_s1.2 133 x_r1
        refine g_iload_n h 10 dX8_used_10 rfl ?_
        suffices J4 : ∀ v2 : Int, v2 = (if s1 132 x_r1 = 10 then (if s1 133 x_r1 < 100 then 1 else 2 : Int) else 0 : Int) → G X 0 0 42 [(11, 0), (0, x_sum1), (0, x_r1)] [(0, v2), (0, x_sum1)] (m, s1) by
          have J5 : s1 132 x_r1 = 10 → G X 0 0 22 [(11, 0), (0, x_sum1), (0, x_r1)] [(0, x_sum1)] (m, s1) := by
            intro h4
            suffices J7 : ∀ v1 : Int, v1 = (if s1 133 x_r1 < 100 then 1 else 2 : Int) → G X 0 0 42 [(11, 0), (0, x_sum1), (0, x_r1)] [(0, v1), (0, x_sum1)] (m, s1) by
              have J8 : s1 133 x_r1 < 100 → G X 0 0 33 [(11, 0), (0, x_sum1), (0, x_r1)] [(0, x_sum1)] (m, s1) := by
                intro h6
                refine g_iconst h 33 dX8_used_33 ?_
                refine g_goto h 34 42 dX8_used_34 (by decide) ?_
                exact J7 _ (if_pos h6).symm
              have J9 : ¬ (s1 133 x_r1 < 100) → G X 0 0 37 [(11, 0), (0, x_sum1), (0, x_r1)] [(0, x_sum1)] (m, s1) := by
                intro h7
                refine g_iconst h 37 dX8_used_37 ?_
                refine g_goto h 38 42 dX8_used_38 (by decide) ?_
                exact J7 _ (if_neg h7).symm
              refine g_aload_nq h 22 dX8_used_22 rfl rfl ?_
              refine gf_M_kept h 23 dX8_used_23 kw_1039 ?_
              refine g_iload_n h 26 dX8_used_26 rfl ?_
              refine al_M_kept h 27 dX8_used_27 (by omega) ?_
              refine g_bipush h 28 dX8_used_28 (by decide) ?_
              refine g_icmp_ge h 30 37 (gRi (by omega)) (gRi (by omega)) dX8_used_30 (by decide) (fun h5 => ?_) (fun h5 => ?_)
              · exact J9 (Int.not_lt.mpr h5)
              · exact J8 h5
            intro v1 e1
            subst e1
            exact J4 _ (if_pos h4).symm
          have J6 : ¬ (s1 132 x_r1 = 10) → G X 0 0 41 [(11, 0), (0, x_sum1), (0, x_r1)] [(0, x_sum1)] (m, s1) := by
            intro h8
            refine g_iconst h 41 dX8_used_41 ?_
            exact J4 _ (if_neg h8).symm
          refine g_aload_nq h 11 dX8_used_11 rfl rfl ?_
          refine gf_M_place h 12 dX8_used_12 kw_1038 ?_
          refine g_iload_n h 15 dX8_used_15 rfl ?_
          refine al_M_place h 16 dX8_used_16 (by omega) ?_
          refine g_bipush h 17 dX8_used_17 (by decide) ?_
          refine g_icmp_ne h 19 41 (gRi (by omega)) (gRi (by omega)) dX8_used_19 (by decide) (fun h3 => ?_) (fun h3 => ?_)
          · exact J6 h3
          · exact J5 h3
        intro v2 e2
        subst e2
        refine g_iadd h 42 dX8_used_42 ?_
        refine g_istore_n h 43 dX8_used_43 (Nat.le_of_ble_eq_true rfl) rfl (L' := [(11, 0), (0, x_sum1 + (if s1 132 x_r1 = 10 then (if s1 133 x_r1 < 100 then 1 else 2 : Int) else 0 : Int)), (0, x_r1)]) rfl ?_
        refine g_iinc h 44 dX8_used_44 rfl rfl (L' := [(11, 0), (0, x_sum1 + (if s1 132 x_r1 = 10 then (if s1 133 x_r1 < 100 then 1 else 2 : Int) else 0 : Int)), (0, x_r1 + 1)]) rfl ?_
        refine g_goto h 47 4 dX8_used_47 (by decide) ?_
        obtain ⟨q3, hF⟩ := gd_some hF
        rw [ek1] at hF
        exact ih1 _ _ _ (by omega) (by omega) hF
      have J3 : ¬ (x_r1 < 18) → G X 0 0 50 [(11, 0), (0, x_sum1), (0, x_r1)] [] (m, s1) := by
        intro h9
        have hF := ite_f h9 hF
        refine g_iload_n h 50 dX8_used_50 rfl ?_
        obtain ⟨e1, e2⟩ := some_2 hF
        rw [← e1, ← e2] at hE
        exact g_iret h 51 dX8_used_51 hE rfl rfl ⟨(Nat.le_of_ble_eq_true rfl), (Nat.le_of_ble_eq_true rfl)⟩
      refine g_iload_n h 4 dX8_used_4 rfl ?_
      refine g_bipush h 5 dX8_used_5 (by decide) ?_
      refine g_icmp_ge h 7 50 (gRi (by omega)) (gRi (by omega)) dX8_used_7 (by decide) (fun h1 => ?_) (fun h1 => ?_)
      · exact J3 (Int.not_lt.mpr h1)
      · exact J2 h1
  exact J10 _ _ _ _ (by omega) (by omega) hF
-- PagewrightModel.copies
def FX8_copies (a_a a_b : Int) (s : S2) : Option (Int × S2) :=
  gd (0 ≤ a_a ∧ a_a ≤ 191) <| gd (0 ≤ a_b ∧ a_b ≤ 191) <| cb (FX8_lays a_b (s 111 a_a) (s 112 a_a) (s 113 a_a) (s 114 a_a) (s 115 a_a) s) fun r1 s1 => bn (upd2 s1 116 a_b (s1 116 a_a)) fun s2 => bn (upd2 s2 117 a_b (s2 117 a_a)) fun s3 => bn (upd2 s3 119 a_b (s3 119 a_a)) fun s4 => some (0, s4)
set_option maxRecDepth 100000 in
set_option maxHeartbeats 4000000 in
theorem ctX8_copies {l : Launch} {w : gW} {bs : Nat} (hl : l.stackTraces = false) {a_a a_b : Int} {s m s0 : S2} {r0 : Int} (hF : FX8_copies a_a a_b s = some (r0, s0)) : gMet l w bs yX8_copies cX8_copies 3 none 1 0 [(11, 0), (0, a_a), (0, a_b)] (m, s) 0 none (m, s0) := by
  unfold FX8_copies at hF
  obtain ⟨q_a_a, hF⟩ := gd_some hF
  obtain ⟨q_a_b, hF⟩ := gd_some hF
  refine g_start hl (by decide) (Nat.le_of_ble_eq_true rfl) rfl fun X h hE => ?_
  have h : gOk X "PagewrightModel" cX8_copies 3 1 0 0 := h
  have hE : gEnd X l w bs 0 none 0 none (m, s0) := hE
  show G X 0 0 0 [(11, 0), (0, a_a), (0, a_b)] [] (m, s)
  refine g_aload_nq h 0 dX8_copies_0 rfl rfl ?_
  refine g_iload_n h 1 dX8_copies_1 rfl ?_
  refine G_typ fun hT_s => ?_
  have t1 : 0 ≤ s 111 a_a ∧ s 111 a_a ≤ 3 := hT_s.2 111 a_a
  refine g_aload_nq h 2 dX8_copies_2 rfl rfl ?_
  refine gf_M_rights h 3 dX8_copies_3 kw_1017 ?_
  refine g_iload_n h 6 dX8_copies_6 rfl ?_
  refine al_M_rights h 7 dX8_copies_7 (by omega) ?_
  have t2 : (-1) ≤ s 112 a_a ∧ s 112 a_a ≤ 2 := hT_s.2 112 a_a
  refine g_aload_nq h 8 dX8_copies_8 rfl rfl ?_
  refine gf_M_file h 9 dX8_copies_9 kw_1018 ?_
  refine g_iload_n h 12 dX8_copies_12 rfl ?_
  refine al_M_file h 13 dX8_copies_13 (by omega) ?_
  have t3 : 0 ≤ s 113 a_a ∧ s 113 a_a ≤ 7 := hT_s.2 113 a_a
  refine g_aload_nq h 14 dX8_copies_14 rfl rfl ?_
  refine gf_M_index h 15 dX8_copies_15 kw_1019 ?_
  refine g_iload_n h 18 dX8_copies_18 rfl ?_
  refine al_M_index h 19 dX8_copies_19 (by omega) ?_
  have t4 : 0 ≤ s 114 a_a ∧ s 114 a_a ≤ 1 := hT_s.2 114 a_a
  refine g_aload_nq h 20 dX8_copies_20 rfl rfl ?_
  refine gf_M_shared h 21 dX8_copies_21 kw_1020 ?_
  refine g_iload_n h 24 dX8_copies_24 rfl ?_
  refine al_M_shared h 25 dX8_copies_25 (by omega) ?_
  have t5 : 0 ≤ s 115 a_a ∧ s 115 a_a ≤ 1 := hT_s.2 115 a_a
  refine g_aload_nq h 26 dX8_copies_26 rfl rfl ?_
  refine gf_M_grows h 27 dX8_copies_27 kw_1021 ?_
  refine g_iload_n h 30 dX8_copies_30 rfl ?_
  refine al_M_grows h 31 dX8_copies_31 (by omega) ?_
  obtain ⟨r1, s1, c1, hF⟩ := cb_some hF
  refine g_callV h hE 32 dX8_copies_32 (ctX8_lays hl c1) mwX8_lays kw_1172 (by decide) (by decide) rfl (Nat.le_of_ble_eq_true rfl) rfl (Nat.le_of_ble_eq_true rfl) ⟨Nat.le_of_ble_eq_true rfl, Nat.le_of_ble_eq_true rfl⟩ rfl rfl ?_
  show G X 0 0 35 [(11, 0), (0, a_a), (0, a_b)] [] (m, s1)
  refine g_aload_nq h 35 dX8_copies_35 rfl rfl ?_
  refine gf_M_state h 36 dX8_copies_36 kw_1022 ?_
  refine g_iload_n h 39 dX8_copies_39 rfl ?_
  refine G_typ fun hT_s1 => ?_
  have t6 : 0 ≤ s1 116 a_a ∧ s1 116 a_a ≤ 2 := hT_s1.2 116 a_a
  refine g_aload_nq h 40 dX8_copies_40 rfl rfl ?_
  refine gf_M_state h 41 dX8_copies_41 kw_1022 ?_
  refine g_iload_n h 44 dX8_copies_44 rfl ?_
  refine al_M_state h 45 dX8_copies_45 (by omega) ?_
  obtain ⟨s2, es2, hF⟩ := bn_ex hF
  refine as_M_state h 46 dX8_copies_46 (by omega) (by omega) ?_
  rw [← es2]
  refine g_aload_nq h 47 dX8_copies_47 rfl rfl ?_
  refine gf_M_page h 48 dX8_copies_48 kw_1023 ?_
  refine g_iload_n h 51 dX8_copies_51 rfl ?_
  refine G_typ fun hT_s2 => ?_
  have t7 : 0 ≤ s2 117 a_a ∧ s2 117 a_a ≤ 23 := hT_s2.2 117 a_a
  refine g_aload_nq h 52 dX8_copies_52 rfl rfl ?_
  refine gf_M_page h 53 dX8_copies_53 kw_1023 ?_
  refine g_iload_n h 56 dX8_copies_56 rfl ?_
  refine al_M_page h 57 dX8_copies_57 (by omega) ?_
  obtain ⟨s3, es3, hF⟩ := bn_ex hF
  refine as_M_page h 58 dX8_copies_58 (by omega) (by omega) ?_
  rw [← es3]
  refine g_aload_nq h 59 dX8_copies_59 rfl rfl ?_
  refine gf_M_record h 60 dX8_copies_60 kw_1025 ?_
  refine g_iload_n h 63 dX8_copies_63 rfl ?_
  refine G_typ fun hT_s3 => ?_
  have t8 : (-1) ≤ s3 119 a_a ∧ s3 119 a_a ≤ 17 := hT_s3.2 119 a_a
  refine g_aload_nq h 64 dX8_copies_64 rfl rfl ?_
  refine gf_M_record h 65 dX8_copies_65 kw_1025 ?_
  refine g_iload_n h 68 dX8_copies_68 rfl ?_
  refine al_M_record h 69 dX8_copies_69 (by omega) ?_
  obtain ⟨s4, es4, hF⟩ := bn_ex hF
  refine as_M_record h 70 dX8_copies_70 (by omega) (by omega) ?_
  rw [← es4]
  obtain ⟨e1, e2⟩ := some_2 hF
  rw [← e2] at hE
  exact g_vret h 71 dX8_copies_71 hE rfl ⟨(Nat.le_of_ble_eq_true rfl), (Nat.le_of_ble_eq_true rfl)⟩
-- PagewrightModel.count
def FX8_count (a_what : Int) (s : S2) : Option (Int × S2) :=
  rgd (-2147483648) 2147483647 <| gd ((-2147483648) ≤ a_what ∧ a_what ≤ 2147483647) <| cb (FX8_asked (if (0 ≤ a_what) ∧ (a_what ≤ 10) then 1 else 0 : Int) s) fun r1 s1 => if r1 ≠ 0 then if a_what < 8 then gd (0 ≤ a_what ∧ a_what ≤ 7) <| some (s1 140 a_what, s1) else gl2 1000 (fun k1 (x_n1 : Int) (x_r1 : Int) (s2 : S2) => if x_r1 < 18 then gd ((-2147483648) ≤ x_n1 + (if (0 ≤ s2 132 x_r1) ∧ (s2 132 x_r1 ≤ 9) then 1 else 0 : Int) ∧ x_n1 + (if (0 ≤ s2 132 x_r1) ∧ (s2 132 x_r1 ≤ 9) then 1 else 0 : Int) ≤ 2147483647) <| k1 (x_n1 + (if (0 ≤ s2 132 x_r1) ∧ (s2 132 x_r1 ≤ 9) then 1 else 0 : Int)) (x_r1 + 1) s2 else gl2 1000 (fun k2 (x_waiting1 : Int) (x_t1 : Int) (s3 : S2) => if x_t1 < 8 then gd (0 ≤ x_t1 / 4 ∧ x_t1 / 4 ≤ 1) <| gd ((x_t1 % 4 < s3 135 (x_t1 / 4)) → 0 ≤ x_t1 ∧ x_t1 ≤ 7) <| gd ((-2147483648) ≤ x_waiting1 + (if (x_t1 % 4 < s3 135 (x_t1 / 4)) ∧ (s3 139 x_t1 ≠ 0) then 1 else 0 : Int) ∧ x_waiting1 + (if (x_t1 % 4 < s3 135 (x_t1 / 4)) ∧ (s3 139 x_t1 ≠ 0) then 1 else 0 : Int) ≤ 2147483647) <| gd (0 ≤ x_t1 + 1 ∧ x_t1 + 1 ≤ 8) <| k2 (x_waiting1 + (if (x_t1 % 4 < s3 135 (x_t1 / 4)) ∧ (s3 139 x_t1 ≠ 0) then 1 else 0 : Int)) (x_t1 + 1) s3 else bn (fun (v3 : Int) (s4 : S2) => some (v3, s4)) fun k3 => if a_what = 8 then cb (FX8_used s3) fun r2 s5 => k3 r2 s5 else k3 (if a_what = 9 then x_n1 else x_waiting1 : Int) s3) 0 0 s2) 0 0 s1 else some (0, s1)
theorem rgX8_count {a_what : Int} {s s0 : S2} {r0 : Int} (hF : FX8_count a_what s = some (r0, s0)) : (-2147483648) ≤ r0 ∧ r0 ≤ 2147483647 := (rgd_some hF).2
set_option maxRecDepth 100000 in
set_option maxHeartbeats 4000000 in
theorem ctX8_count {l : Launch} {w : gW} {bs : Nat} (hl : l.stackTraces = false) {a_what : Int} {s m s0 : S2} {r0 : Int} (hF : FX8_count a_what s = some (r0, s0)) : gMet l w bs yX8_count cX8_count 5 (some FieldType.int) 1 0 [(11, 0), (0, a_what)] (m, s) 0 (some (0, r0)) (m, s0) := by
  unfold FX8_count at hF
  obtain ⟨hF, hr⟩ := rgd_some hF
  obtain ⟨q_a_what, hF⟩ := gd_some hF
  refine g_start hl (by decide) (Nat.le_of_ble_eq_true rfl) rfl fun X h hE => ?_
  have h : gOk X "PagewrightModel" cX8_count 5 1 0 0 := h
  have hE : gEnd X l w bs 0 (some FieldType.int) 0 (some (0, r0)) (m, s0) := hE
  show G X 0 0 0 [(11, 0), (0, a_what), (1, 0), (1, 0), (1, 0)] [] (m, s)
  refine g_aload_nq h 0 dX8_count_0 rfl rfl ?_
  refine g_iload_n h 1 dX8_count_1 rfl ?_
  refine g_iconst h 2 dX8_count_2 ?_
  refine g_bipush h 3 dX8_count_3 (by decide) ?_
  refine g_callS h hE 5 dX8_count_5 (cpX8_in (a_v := a_what) (a_low := 0) (a_high := 10) hl (by omega) (by omega) (by omega)) mwX8_in kw_1142 rfl (Nat.le_of_ble_eq_true rfl) rfl (Nat.le_of_ble_eq_true rfl) ⟨Nat.le_of_ble_eq_true rfl, Nat.le_of_ble_eq_true rfl⟩ rfl rfl ?_
  show G X 0 0 8 [(11, 0), (0, a_what), (1, 0), (1, 0), (1, 0)] [(0, (if (0 ≤ a_what) ∧ (a_what ≤ 10) then 1 else 0 : Int)), (11, 0)] (m, s)
  obtain ⟨r1, s1, c1, hF⟩ := cb_some hF
  have t1 : 0 ≤ r1 ∧ r1 ≤ 1 := rgX8_asked c1
  refine g_callV h hE 8 dX8_count_8 (ctX8_asked hl c1) mwX8_asked kw_1260 (by decide) (by decide) rfl (Nat.le_of_ble_eq_true rfl) rfl (Nat.le_of_ble_eq_true rfl) ⟨Nat.le_of_ble_eq_true rfl, Nat.le_of_ble_eq_true rfl⟩ rfl rfl ?_
  show G X 0 0 11 [(11, 0), (0, a_what), (1, 0), (1, 0), (1, 0)] [(0, r1)] (m, s1)
  refine g_if_ne h 11 16 (gRi (by omega)) dX8_count_11 (by decide) (fun h1 => ?_) (fun h1 => ?_)
  · have hF := ite_t h1 hF
    have J1 : a_what < 8 → G X 0 0 22 [(11, 0), (0, a_what), (1, 0), (1, 0), (1, 0)] [] (m, s1) := by
      intro h3
      have hF := ite_t h3 hF
      obtain ⟨q1, hF⟩ := gd_some hF
      refine g_aload_nq h 22 dX8_count_22 rfl rfl ?_
      refine gf_M_counts h 23 dX8_count_23 kw_1047 ?_
      refine g_iload_n h 26 dX8_count_26 rfl ?_
      refine al_M_counts h 27 dX8_count_27 (by omega) ?_
      obtain ⟨e1, e2⟩ := some_2 hF
      rw [← e1, ← e2] at hE
      exact g_iret h 28 dX8_count_28 hE rfl rfl ⟨(Nat.le_of_ble_eq_true rfl), (Nat.le_of_ble_eq_true rfl)⟩
    have J2 : ¬ (a_what < 8) → G X 0 0 29 [(11, 0), (0, a_what), (1, 0), (1, 0), (1, 0)] [] (m, s1) := by
      intro h4
      have hF := ite_f h4 hF
      refine g_iconst h 29 dX8_count_29 ?_
      refine g_istore_n h 30 dX8_count_30 (Nat.le_of_ble_eq_true rfl) rfl (L' := [(11, 0), (0, a_what), (0, 0), (1, 0), (1, 0)]) rfl ?_
      refine g_iconst h 31 dX8_count_31 ?_
      refine g_istore_n h 32 dX8_count_32 (Nat.le_of_ble_eq_true rfl) rfl (L' := [(11, 0), (0, a_what), (0, 0), (0, 0), (1, 0)]) rfl ?_
      obtain ⟨f1, ef1, hF⟩ := glx2 hF
      have J22 : ∀ (n1 : Nat) (x_n1 x_r1 : Int) (s2 : S2), ((-2147483648) ≤ x_n1 ∧ x_n1 ≤ 2147483647) → (0 ≤ x_r1 ∧ x_r1 ≤ 18) → gl2 n1 f1 x_n1 x_r1 s2 = some (r0, s0) → G X 0 0 33 [(11, 0), (0, a_what), (0, x_n1), (0, x_r1), (1, 0)] [] (m, s2) := by
        intro n1
        induction n1 with
        | zero => intro x_n1 x_r1 s2 _ _ hF; exact (gl2_0 hF).elim
        | succ n1 ih1 =>
          intro x_n1 x_r1 s2 q2 q3 hF
          obtain ⟨k1, ek1, hF⟩ := glu2 hF ef1
          have J4 : x_r1 < 18 → G X 0 0 39 [(11, 0), (0, a_what), (0, x_n1), (0, x_r1), (1, 0)] [] (m, s2) := by
            intro h6
            have hF := ite_t h6 hF
            refine G_typ fun hT_s2 => ?_
            have t2 : (-1) ≤ s2 132 x_r1 ∧ s2 132 x_r1 ≤ 10 := hT_s2.2 132 x_r1
            refine g_iload_n h 39 dX8_count_39 rfl ?_
            suffices J6 : ∀ v1 : Int, v1 = (if (0 ≤ s2 132 x_r1) ∧ (s2 132 x_r1 ≤ 9) then 1 else 0 : Int) → G X 0 0 60 [(11, 0), (0, a_what), (0, x_n1), (0, x_r1), (1, 0)] [(0, v1), (0, x_n1)] (m, s2) by
              have J7 : (0 ≤ s2 132 x_r1) ∧ (s2 132 x_r1 ≤ 9) → G X 0 0 55 [(11, 0), (0, a_what), (0, x_n1), (0, x_r1), (1, 0)] [(0, x_n1)] (m, s2) := by
                intro h8
                refine g_iconst h 55 dX8_count_55 ?_
                refine g_goto h 56 60 dX8_count_56 (by decide) ?_
                exact J6 _ (if_pos h8).symm
              have J8 : ¬ ((0 ≤ s2 132 x_r1) ∧ (s2 132 x_r1 ≤ 9)) → G X 0 0 59 [(11, 0), (0, a_what), (0, x_n1), (0, x_r1), (1, 0)] [(0, x_n1)] (m, s2) := by
                intro h9
                refine g_iconst h 59 dX8_count_59 ?_
                exact J6 _ (if_neg h9).symm
              refine g_aload_nq h 40 dX8_count_40 rfl rfl ?_
              refine gf_M_place h 41 dX8_count_41 kw_1038 ?_
              refine g_iload_n h 44 dX8_count_44 rfl ?_
              refine al_M_place h 45 dX8_count_45 (by omega) ?_
              refine g_iconst h 46 dX8_count_46 ?_
              refine g_bipush h 47 dX8_count_47 (by decide) ?_
              refine g_callS h hE 49 dX8_count_49 (cpX8_in (a_v := s2 132 x_r1) (a_low := 0) (a_high := 9) hl (by omega) (by omega) (by omega)) mwX8_in kw_1142 rfl (Nat.le_of_ble_eq_true rfl) rfl (Nat.le_of_ble_eq_true rfl) ⟨Nat.le_of_ble_eq_true rfl, Nat.le_of_ble_eq_true rfl⟩ rfl rfl ?_
              show G X 0 0 52 [(11, 0), (0, a_what), (0, x_n1), (0, x_r1), (1, 0)] [(0, (if (0 ≤ s2 132 x_r1) ∧ (s2 132 x_r1 ≤ 9) then 1 else 0 : Int)), (0, x_n1)] (m, s2)
              refine g_if_eq h 52 59 (gRi gR_ite) dX8_count_52 (by decide) (fun h7 => ?_) (fun h7 => ?_)
              · exact J8 (iz_f h7)
              · exact J7 (iz_t h7)
            intro v1 e1
            subst e1
            refine g_iadd h 60 dX8_count_60 ?_
            refine g_istore_n h 61 dX8_count_61 (Nat.le_of_ble_eq_true rfl) rfl (L' := [(11, 0), (0, a_what), (0, x_n1 + (if (0 ≤ s2 132 x_r1) ∧ (s2 132 x_r1 ≤ 9) then 1 else 0 : Int)), (0, x_r1), (1, 0)]) rfl ?_
            refine g_iinc h 62 dX8_count_62 rfl rfl (L' := [(11, 0), (0, a_what), (0, x_n1 + (if (0 ≤ s2 132 x_r1) ∧ (s2 132 x_r1 ≤ 9) then 1 else 0 : Int)), (0, x_r1 + 1), (1, 0)]) rfl ?_
            refine g_goto h 65 33 dX8_count_65 (by decide) ?_
            obtain ⟨q4, hF⟩ := gd_some hF
            rw [ek1] at hF
            exact ih1 _ _ _ (by omega) (by omega) hF
          have J5 : ¬ (x_r1 < 18) → G X 0 0 68 [(11, 0), (0, a_what), (0, x_n1), (0, x_r1), (1, 0)] [] (m, s2) := by
            intro h10
            have hF := ite_f h10 hF
            refine g_iconst h 68 dX8_count_68 ?_
            refine g_istore_n h 69 dX8_count_69 (Nat.le_of_ble_eq_true rfl) rfl (L' := [(11, 0), (0, a_what), (0, x_n1), (0, 0), (1, 0)]) rfl ?_
            refine g_iconst h 70 dX8_count_70 ?_
            refine g_istore h 71 dX8_count_71 (Nat.le_of_ble_eq_true rfl) rfl (L' := [(11, 0), (0, a_what), (0, x_n1), (0, 0), (0, 0)]) rfl ?_
            obtain ⟨f2, ef2, hF⟩ := glx2 hF
            have J21 : ∀ (n2 : Nat) (x_waiting1 x_t1 : Int) (s3 : S2), ((-2147483648) ≤ x_waiting1 ∧ x_waiting1 ≤ 2147483647) → (0 ≤ x_t1 ∧ x_t1 ≤ 8) → gl2 n2 f2 x_waiting1 x_t1 s3 = some (r0, s0) → G X 0 0 73 [(11, 0), (0, a_what), (0, x_n1), (0, x_waiting1), (0, x_t1)] [] (m, s3) := by
              intro n2
              induction n2 with
              | zero => intro x_waiting1 x_t1 s3 _ _ hF; exact (gl2_0 hF).elim
              | succ n2 ih2 =>
                intro x_waiting1 x_t1 s3 q5 q6 hF
                obtain ⟨k2, ek2, hF⟩ := glu2 hF ef2
                have J10 : x_t1 < 8 → G X 0 0 80 [(11, 0), (0, a_what), (0, x_n1), (0, x_waiting1), (0, x_t1)] [] (m, s3) := by
                  intro h12
                  have hF := ite_t h12 hF
                  refine G_typ fun hT_s3 => ?_
                  have t3 : 0 ≤ s3 135 (x_t1 / 4) ∧ s3 135 (x_t1 / 4) ≤ 4 := hT_s3.2 135 (x_t1 / 4)
                  have t4 : 0 ≤ s3 139 x_t1 ∧ s3 139 x_t1 ≤ 1 := hT_s3.2 139 x_t1
                  obtain ⟨q7, hF⟩ := gd_some hF
                  obtain ⟨q8, hF⟩ := gd_some hF
                  refine g_iload_n h 80 dX8_count_80 rfl ?_
                  suffices J12 : ∀ v2 : Int, v2 = (if (x_t1 % 4 < s3 135 (x_t1 / 4)) ∧ (s3 139 x_t1 ≠ 0) then 1 else 0 : Int) → G X 0 0 112 [(11, 0), (0, a_what), (0, x_n1), (0, x_waiting1), (0, x_t1)] [(0, v2), (0, x_waiting1)] (m, s3) by
                    have J13 : (x_t1 % 4 < s3 135 (x_t1 / 4)) ∧ (s3 139 x_t1 ≠ 0) → G X 0 0 107 [(11, 0), (0, a_what), (0, x_n1), (0, x_waiting1), (0, x_t1)] [(0, x_waiting1)] (m, s3) := by
                      intro h15
                      refine g_iconst h 107 dX8_count_107 ?_
                      refine g_goto h 108 112 dX8_count_108 (by decide) ?_
                      exact J12 _ (if_pos h15).symm
                    have J14 : ¬ ((x_t1 % 4 < s3 135 (x_t1 / 4)) ∧ (s3 139 x_t1 ≠ 0)) → G X 0 0 111 [(11, 0), (0, a_what), (0, x_n1), (0, x_waiting1), (0, x_t1)] [(0, x_waiting1)] (m, s3) := by
                      intro h16
                      refine g_iconst h 111 dX8_count_111 ?_
                      exact J12 _ (if_neg h16).symm
                    refine g_iload h 81 dX8_count_81 rfl ?_
                    refine g_iconst h 83 dX8_count_83 ?_
                    refine g_irem h 84 dX8_count_84 (by omega) (by omega) ?_
                    refine g_aload_nq h 85 dX8_count_85 rfl rfl ?_
                    refine gf_M_cached h 86 dX8_count_86 kw_1042 ?_
                    refine g_iload h 89 dX8_count_89 rfl ?_
                    refine g_iconst h 91 dX8_count_91 ?_
                    refine g_idiv h 92 dX8_count_92 (by omega) (by omega) ?_
                    refine al_M_cached h 93 dX8_count_93 (by omega) ?_
                    refine g_icmp_ge h 94 111 (gRi (by omega)) (gRi (by omega)) dX8_count_94 (by decide) (fun h13 => ?_) (fun h13 => ?_)
                    · exact J14 (fun q => (Int.not_lt.mpr h13) q.1)
                    · refine g_aload_nq h 97 dX8_count_97 rfl rfl ?_
                      refine gf_M_waits h 98 dX8_count_98 kw_1046 ?_
                      refine g_iload h 101 dX8_count_101 rfl ?_
                      refine al_M_waits h 103 dX8_count_103 (by omega) ?_
                      refine g_if_eq h 104 111 (gRi (by omega)) dX8_count_104 (by decide) (fun h14 => ?_) (fun h14 => ?_)
                      · exact J14 (fun q => (fun q => q h14) q.2)
                      · exact J13 ⟨h13, h14⟩
                  intro v2 e2
                  subst e2
                  refine g_iadd h 112 dX8_count_112 ?_
                  refine g_istore_n h 113 dX8_count_113 (Nat.le_of_ble_eq_true rfl) rfl (L' := [(11, 0), (0, a_what), (0, x_n1), (0, x_waiting1 + (if (x_t1 % 4 < s3 135 (x_t1 / 4)) ∧ (s3 139 x_t1 ≠ 0) then 1 else 0 : Int)), (0, x_t1)]) rfl ?_
                  refine g_iinc h 114 dX8_count_114 rfl rfl (L' := [(11, 0), (0, a_what), (0, x_n1), (0, x_waiting1 + (if (x_t1 % 4 < s3 135 (x_t1 / 4)) ∧ (s3 139 x_t1 ≠ 0) then 1 else 0 : Int)), (0, x_t1 + 1)]) rfl ?_
                  refine g_goto h 117 73 dX8_count_117 (by decide) ?_
                  obtain ⟨q9, hF⟩ := gd_some hF
                  obtain ⟨q10, hF⟩ := gd_some hF
                  rw [ek2] at hF
                  exact ih2 _ _ _ (by omega) (by omega) hF
                have J11 : ¬ (x_t1 < 8) → G X 0 0 120 [(11, 0), (0, a_what), (0, x_n1), (0, x_waiting1), (0, x_t1)] [] (m, s3) := by
                  intro h17
                  have hF := ite_f h17 hF
                  obtain ⟨k3, ek3, hF⟩ := bn_ex hF
                  have J15 : ∀ (v3 : Int) (s4 : S2), ((-2147483648) ≤ v3 ∧ v3 ≤ 2147483647) → k3 v3 s4 = some (r0, s0) → G X 0 0 144 [(11, 0), (0, a_what), (0, x_n1), (0, x_waiting1), (1, 0)] [(0, v3)] (m, s4) := by
                    intro v3 s4 q11 hF
                    rw [ek3] at hF
                    obtain ⟨e1, e2⟩ := some_2 hF
                    rw [← e1, ← e2] at hE
                    exact g_iret h 144 dX8_count_144 hE rfl rfl ⟨(Nat.le_of_ble_eq_true rfl), (Nat.le_of_ble_eq_true rfl)⟩
                  have J16 : a_what = 8 → G X 0 0 126 [(11, 0), (0, a_what), (0, x_n1), (0, x_waiting1), (0, x_t1)] [] (m, s3) := by
                    intro h19
                    have hF := ite_t h19 hF
                    refine g_aload_nq h 126 dX8_count_126 rfl rfl ?_
                    obtain ⟨r2, s5, c2, hF⟩ := cb_some hF
                    have t5 : 0 ≤ r2 ∧ r2 ≤ 36 := rgX8_used c2
                    refine g_callV h hE 127 dX8_count_127 (ctX8_used hl c2) mwX8_used kw_1336 (by decide) (by decide) rfl (Nat.le_of_ble_eq_true rfl) rfl (Nat.le_of_ble_eq_true rfl) ⟨Nat.le_of_ble_eq_true rfl, Nat.le_of_ble_eq_true rfl⟩ rfl rfl ?_
                    show G X 0 0 130 [(11, 0), (0, a_what), (0, x_n1), (0, x_waiting1), (0, x_t1)] [(0, r2)] (m, s5)
                    refine g_goto h 130 144 dX8_count_130 (by decide) ?_
                    refine G_weak (L' := [(11, 0), (0, a_what), (0, x_n1), (0, x_waiting1), (1, 0)]) ⟨Or.inr rfl, Or.inr rfl, Or.inr rfl, Or.inr rfl, Or.inl rfl, trivial⟩ ?_
                    exact J15 _ _ (by omega) hF
                  have J17 : ¬ (a_what = 8) → G X 0 0 133 [(11, 0), (0, a_what), (0, x_n1), (0, x_waiting1), (0, x_t1)] [] (m, s3) := by
                    intro h20
                    have hF := ite_f h20 hF
                    suffices J18 : ∀ v4 : Int, v4 = (if a_what = 9 then x_n1 else x_waiting1 : Int) → G X 0 0 144 [(11, 0), (0, a_what), (0, x_n1), (0, x_waiting1), (0, x_t1)] [(0, v4)] (m, s3) by
                      have J19 : a_what = 9 → G X 0 0 139 [(11, 0), (0, a_what), (0, x_n1), (0, x_waiting1), (0, x_t1)] [] (m, s3) := by
                        intro h22
                        refine g_iload_n h 139 dX8_count_139 rfl ?_
                        refine g_goto h 140 144 dX8_count_140 (by decide) ?_
                        exact J18 _ (if_pos h22).symm
                      have J20 : ¬ (a_what = 9) → G X 0 0 143 [(11, 0), (0, a_what), (0, x_n1), (0, x_waiting1), (0, x_t1)] [] (m, s3) := by
                        intro h23
                        refine g_iload_n h 143 dX8_count_143 rfl ?_
                        exact J18 _ (if_neg h23).symm
                      refine g_iload_n h 133 dX8_count_133 rfl ?_
                      refine g_bipush h 134 dX8_count_134 (by decide) ?_
                      refine g_icmp_ne h 136 143 (gRi (by omega)) (gRi (by omega)) dX8_count_136 (by decide) (fun h21 => ?_) (fun h21 => ?_)
                      · exact J20 h21
                      · exact J19 h21
                    intro v4 e3
                    subst e3
                    refine G_weak (L' := [(11, 0), (0, a_what), (0, x_n1), (0, x_waiting1), (1, 0)]) ⟨Or.inr rfl, Or.inr rfl, Or.inr rfl, Or.inr rfl, Or.inl rfl, trivial⟩ ?_
                    exact J15 _ _ (by omega) hF
                  refine g_iload_n h 120 dX8_count_120 rfl ?_
                  refine g_bipush h 121 dX8_count_121 (by decide) ?_
                  refine g_icmp_ne h 123 133 (gRi (by omega)) (gRi (by omega)) dX8_count_123 (by decide) (fun h18 => ?_) (fun h18 => ?_)
                  · exact J17 h18
                  · exact J16 h18
                refine g_iload h 73 dX8_count_73 rfl ?_
                refine g_bipush h 75 dX8_count_75 (by decide) ?_
                refine g_icmp_ge h 77 120 (gRi (by omega)) (gRi (by omega)) dX8_count_77 (by decide) (fun h11 => ?_) (fun h11 => ?_)
                · exact J11 (Int.not_lt.mpr h11)
                · exact J10 h11
            exact J21 _ _ _ _ (by omega) (by omega) hF
          refine g_iload_n h 33 dX8_count_33 rfl ?_
          refine g_bipush h 34 dX8_count_34 (by decide) ?_
          refine g_icmp_ge h 36 68 (gRi (by omega)) (gRi (by omega)) dX8_count_36 (by decide) (fun h5 => ?_) (fun h5 => ?_)
          · exact J5 (Int.not_lt.mpr h5)
          · exact J4 h5
      exact J22 _ _ _ _ (by omega) (by omega) hF
    refine g_iload_n h 16 dX8_count_16 rfl ?_
    refine g_bipush h 17 dX8_count_17 (by decide) ?_
    refine g_icmp_ge h 19 29 (gRi (by omega)) (gRi (by omega)) dX8_count_19 (by decide) (fun h2 => ?_) (fun h2 => ?_)
    · exact J2 (Int.not_lt.mpr h2)
    · exact J1 h2
  · have hF := ite_f (fun q => q h1) hF
    refine g_iconst h 14 dX8_count_14 ?_
    obtain ⟨e1, e2⟩ := some_2 hF
    rw [← e1, ← e2] at hE
    exact g_iret h 15 dX8_count_15 hE rfl rfl ⟨(Nat.le_of_ble_eq_true rfl), (Nat.le_of_ble_eq_true rfl)⟩
-- PagewrightModel.entriesOf
def FX8_entriesOf (a_f : Int) (s : S2) : Option (Int × S2) :=
  rgd 0 192 <| gd (0 ≤ a_f ∧ a_f ≤ 23) <| gl2 1000 (fun k1 (x_n1 : Int) (x_e1 : Int) (s1 : S2) => if x_e1 < 192 then gd ((-2147483648) ≤ x_n1 + (if ((0 < s1 111 x_e1) ∧ (s1 116 x_e1 = 1)) ∧ (s1 117 x_e1 = a_f) then 1 else 0 : Int) ∧ x_n1 + (if ((0 < s1 111 x_e1) ∧ (s1 116 x_e1 = 1)) ∧ (s1 117 x_e1 = a_f) then 1 else 0 : Int) ≤ 2147483647) <| k1 (x_n1 + (if ((0 < s1 111 x_e1) ∧ (s1 116 x_e1 = 1)) ∧ (s1 117 x_e1 = a_f) then 1 else 0 : Int)) (x_e1 + 1) s1 else some (x_n1, s1)) 0 0 s
theorem rgX8_entriesOf {a_f : Int} {s s0 : S2} {r0 : Int} (hF : FX8_entriesOf a_f s = some (r0, s0)) : 0 ≤ r0 ∧ r0 ≤ 192 := (rgd_some hF).2
set_option maxRecDepth 100000 in
set_option maxHeartbeats 4000000 in
theorem ctX8_entriesOf {l : Launch} {w : gW} {bs : Nat} (hl : l.stackTraces = false) {a_f : Int} {s m s0 : S2} {r0 : Int} (hF : FX8_entriesOf a_f s = some (r0, s0)) : gMet l w bs yX8_entriesOf cX8_entriesOf 4 (some FieldType.int) 1 0 [(11, 0), (0, a_f)] (m, s) 0 (some (0, r0)) (m, s0) := by
  unfold FX8_entriesOf at hF
  obtain ⟨hF, hr⟩ := rgd_some hF
  obtain ⟨q_a_f, hF⟩ := gd_some hF
  refine g_start hl (by decide) (Nat.le_of_ble_eq_true rfl) rfl fun X h hE => ?_
  have h : gOk X "PagewrightModel" cX8_entriesOf 4 1 0 0 := h
  have hE : gEnd X l w bs 0 (some FieldType.int) 0 (some (0, r0)) (m, s0) := hE
  show G X 0 0 0 [(11, 0), (0, a_f), (1, 0), (1, 0)] [] (m, s)
  refine g_iconst h 0 dX8_entriesOf_0 ?_
  refine g_istore_n h 1 dX8_entriesOf_1 (Nat.le_of_ble_eq_true rfl) rfl (L' := [(11, 0), (0, a_f), (0, 0), (1, 0)]) rfl ?_
  refine g_iconst h 2 dX8_entriesOf_2 ?_
  refine g_istore_n h 3 dX8_entriesOf_3 (Nat.le_of_ble_eq_true rfl) rfl (L' := [(11, 0), (0, a_f), (0, 0), (0, 0)]) rfl ?_
  obtain ⟨f1, ef1, hF⟩ := glx2 hF
  have J7 : ∀ (n1 : Nat) (x_n1 x_e1 : Int) (s1 : S2), ((-2147483648) ≤ x_n1 ∧ x_n1 ≤ 2147483647) → (0 ≤ x_e1 ∧ x_e1 ≤ 192) → gl2 n1 f1 x_n1 x_e1 s1 = some (r0, s0) → G X 0 0 4 [(11, 0), (0, a_f), (0, x_n1), (0, x_e1)] [] (m, s1) := by
    intro n1
    induction n1 with
    | zero => intro x_n1 x_e1 s1 _ _ hF; exact (gl2_0 hF).elim
    | succ n1 ih1 =>
      intro x_n1 x_e1 s1 q1 q2 hF
      obtain ⟨k1, ek1, hF⟩ := glu2 hF ef1
      have J2 : x_e1 < 192 → G X 0 0 11 [(11, 0), (0, a_f), (0, x_n1), (0, x_e1)] [] (m, s1) := by
        intro h2
        have hF := ite_t h2 hF
        refine G_typ fun hT_s1 => ?_
        have t1 : 0 ≤ s1 111 x_e1 ∧ s1 111 x_e1 ≤ 3 := hT_s1.2 111 x_e1
        have t2 : 0 ≤ s1 116 x_e1 ∧ s1 116 x_e1 ≤ 2 := hT_s1.2 116 x_e1
        have t3 : 0 ≤ s1 117 x_e1 ∧ s1 117 x_e1 ≤ 23 := hT_s1.2 117 x_e1
        refine g_iload_n h 11 dX8_entriesOf_11 rfl ?_
        suffices J4 : ∀ v1 : Int, v1 = (if ((0 < s1 111 x_e1) ∧ (s1 116 x_e1 = 1)) ∧ (s1 117 x_e1 = a_f) then 1 else 0 : Int) → G X 0 0 26 [(11, 0), (0, a_f), (0, x_n1), (0, x_e1)] [(0, v1), (0, x_n1)] (m, s1) by
          have J5 : ((0 < s1 111 x_e1) ∧ (s1 116 x_e1 = 1)) ∧ (s1 117 x_e1 = a_f) → G X 0 0 21 [(11, 0), (0, a_f), (0, x_n1), (0, x_e1)] [(0, x_n1)] (m, s1) := by
            intro h4
            refine g_iconst h 21 dX8_entriesOf_21 ?_
            refine g_goto h 22 26 dX8_entriesOf_22 (by decide) ?_
            exact J4 _ (if_pos h4).symm
          have J6 : ¬ (((0 < s1 111 x_e1) ∧ (s1 116 x_e1 = 1)) ∧ (s1 117 x_e1 = a_f)) → G X 0 0 25 [(11, 0), (0, a_f), (0, x_n1), (0, x_e1)] [(0, x_n1)] (m, s1) := by
            intro h5
            refine g_iconst h 25 dX8_entriesOf_25 ?_
            exact J4 _ (if_neg h5).symm
          refine g_aload_nq h 12 dX8_entriesOf_12 rfl rfl ?_
          refine g_iload_n h 13 dX8_entriesOf_13 rfl ?_
          refine g_iload_n h 14 dX8_entriesOf_14 rfl ?_
          refine g_callV h hE 15 dX8_entriesOf_15 (cpX8_has (a_e := x_e1) (a_f := a_f) hl (by omega) (by omega)) mwX8_has kw_1208 (by decide) (by decide) rfl (Nat.le_of_ble_eq_true rfl) rfl (Nat.le_of_ble_eq_true rfl) ⟨Nat.le_of_ble_eq_true rfl, Nat.le_of_ble_eq_true rfl⟩ rfl rfl ?_
          show G X 0 0 18 [(11, 0), (0, a_f), (0, x_n1), (0, x_e1)] [(0, (if ((0 < s1 111 x_e1) ∧ (s1 116 x_e1 = 1)) ∧ (s1 117 x_e1 = a_f) then 1 else 0 : Int)), (0, x_n1)] (m, s1)
          refine g_if_eq h 18 25 (gRi gR_ite) dX8_entriesOf_18 (by decide) (fun h3 => ?_) (fun h3 => ?_)
          · exact J6 (iz_f h3)
          · exact J5 (iz_t h3)
        intro v1 e1
        subst e1
        refine g_iadd h 26 dX8_entriesOf_26 ?_
        refine g_istore_n h 27 dX8_entriesOf_27 (Nat.le_of_ble_eq_true rfl) rfl (L' := [(11, 0), (0, a_f), (0, x_n1 + (if ((0 < s1 111 x_e1) ∧ (s1 116 x_e1 = 1)) ∧ (s1 117 x_e1 = a_f) then 1 else 0 : Int)), (0, x_e1)]) rfl ?_
        refine g_iinc h 28 dX8_entriesOf_28 rfl rfl (L' := [(11, 0), (0, a_f), (0, x_n1 + (if ((0 < s1 111 x_e1) ∧ (s1 116 x_e1 = 1)) ∧ (s1 117 x_e1 = a_f) then 1 else 0 : Int)), (0, x_e1 + 1)]) rfl ?_
        refine g_goto h 31 4 dX8_entriesOf_31 (by decide) ?_
        obtain ⟨q3, hF⟩ := gd_some hF
        rw [ek1] at hF
        exact ih1 _ _ _ (by omega) (by omega) hF
      have J3 : ¬ (x_e1 < 192) → G X 0 0 34 [(11, 0), (0, a_f), (0, x_n1), (0, x_e1)] [] (m, s1) := by
        intro h6
        have hF := ite_f h6 hF
        refine g_iload_n h 34 dX8_entriesOf_34 rfl ?_
        obtain ⟨e1, e2⟩ := some_2 hF
        rw [← e1, ← e2] at hE
        exact g_iret h 35 dX8_entriesOf_35 hE rfl rfl ⟨(Nat.le_of_ble_eq_true rfl), (Nat.le_of_ble_eq_true rfl)⟩
      refine g_iload_n h 4 dX8_entriesOf_4 rfl ?_
      refine g_sipush h 5 dX8_entriesOf_5 (by decide) ?_
      refine g_icmp_ge h 8 34 (gRi (by omega)) (gRi (by omega)) dX8_entriesOf_8 (by decide) (fun h1 => ?_) (fun h1 => ?_)
      · exact J3 (Int.not_lt.mpr h1)
      · exact J2 h1
  exact J7 _ _ _ _ (by omega) (by omega) hF
-- PagewrightModel.firstOf
def FX8_firstOf (a_g a_l : Int) (s : S2) : Option (Int × S2) :=
  rgd (-1) 23 <| gd ((-1) ≤ a_g ∧ a_g ≤ 2) <| gd (0 ≤ a_l ∧ a_l ≤ 1) <| gl1 1000 (fun k1 (x_k1 : Int) (s1 : S2) => if x_k1 < s1 129 a_l then if (s1 121 (s1 128 ((24 * a_l) + x_k1)) ≠ 0) ∧ ((a_g = (-1)) ∨ (s1 125 (s1 128 ((24 * a_l) + x_k1)) = a_g)) then some (s1 128 ((24 * a_l) + x_k1), s1) else k1 (x_k1 + 1) s1 else some ((-1), s1)) 0 s
theorem rgX8_firstOf {a_g a_l : Int} {s s0 : S2} {r0 : Int} (hF : FX8_firstOf a_g a_l s = some (r0, s0)) : (-1) ≤ r0 ∧ r0 ≤ 23 := (rgd_some hF).2
set_option maxRecDepth 100000 in
set_option maxHeartbeats 4000000 in
theorem ctX8_firstOf {l : Launch} {w : gW} {bs : Nat} (hl : l.stackTraces = false) {a_g a_l : Int} {s m s0 : S2} {r0 : Int} (hF : FX8_firstOf a_g a_l s = some (r0, s0)) : gMet l w bs yX8_firstOf cX8_firstOf 4 (some FieldType.int) 1 0 [(11, 0), (0, a_g), (0, a_l)] (m, s) 0 (some (0, r0)) (m, s0) := by
  unfold FX8_firstOf at hF
  obtain ⟨hF, hr⟩ := rgd_some hF
  obtain ⟨q_a_g, hF⟩ := gd_some hF
  obtain ⟨q_a_l, hF⟩ := gd_some hF
  refine g_start hl (by decide) (Nat.le_of_ble_eq_true rfl) rfl fun X h hE => ?_
  have h : gOk X "PagewrightModel" cX8_firstOf 4 1 0 0 := h
  have hE : gEnd X l w bs 0 (some FieldType.int) 0 (some (0, r0)) (m, s0) := hE
  show G X 0 0 0 [(11, 0), (0, a_g), (0, a_l), (1, 0)] [] (m, s)
  refine g_iconst h 0 dX8_firstOf_0 ?_
  refine g_istore_n h 1 dX8_firstOf_1 (Nat.le_of_ble_eq_true rfl) rfl (L' := [(11, 0), (0, a_g), (0, a_l), (0, 0)]) rfl ?_
  obtain ⟨f1, ef1, hF⟩ := glx1 hF
  have J6 : ∀ (n1 : Nat) (x_k1 : Int) (s1 : S2), (0 ≤ x_k1 ∧ x_k1 ≤ 24) → gl1 n1 f1 x_k1 s1 = some (r0, s0) → G X 0 0 2 [(11, 0), (0, a_g), (0, a_l), (0, x_k1)] [] (m, s1) := by
    intro n1
    induction n1 with
    | zero => intro x_k1 s1 _ hF; exact (gl1_0 hF).elim
    | succ n1 ih1 =>
      intro x_k1 s1 q1 hF
      obtain ⟨k1, ek1, hF⟩ := glu1 hF ef1
      refine G_typ fun hT_s1 => ?_
      have t1 : 0 ≤ s1 129 a_l ∧ s1 129 a_l ≤ 24 := hT_s1.2 129 a_l
      have J2 : x_k1 < s1 129 a_l → G X 0 0 12 [(11, 0), (0, a_g), (0, a_l), (0, x_k1)] [] (m, s1) := by
        intro h2
        have hF := ite_t h2 hF
        have t2 : 0 ≤ s1 128 ((24 * a_l) + x_k1) ∧ s1 128 ((24 * a_l) + x_k1) ≤ 23 := hT_s1.2 128 ((24 * a_l) + x_k1)
        have t3 : 0 ≤ s1 121 (s1 128 ((24 * a_l) + x_k1)) ∧ s1 121 (s1 128 ((24 * a_l) + x_k1)) ≤ 2 := hT_s1.2 121 (s1 128 ((24 * a_l) + x_k1))
        have t4 : 0 ≤ s1 125 (s1 128 ((24 * a_l) + x_k1)) ∧ s1 125 (s1 128 ((24 * a_l) + x_k1)) ≤ 2 := hT_s1.2 125 (s1 128 ((24 * a_l) + x_k1))
        have J4 : (s1 121 (s1 128 ((24 * a_l) + x_k1)) ≠ 0) ∧ ((a_g = (-1)) ∨ (s1 125 (s1 128 ((24 * a_l) + x_k1)) = a_g)) → G X 0 0 31 [(11, 0), (0, a_g), (0, a_l), (0, x_k1)] [] (m, s1) := by
          intro h4
          have hF := ite_t h4 hF
          refine g_aload_nq h 31 dX8_firstOf_31 rfl rfl ?_
          refine gf_M_row h 32 dX8_firstOf_32 kw_1034 ?_
          refine g_bipush h 35 dX8_firstOf_35 (by decide) ?_
          refine g_iload_n h 37 dX8_firstOf_37 rfl ?_
          refine g_imul h 38 dX8_firstOf_38 ?_
          refine g_iload_n h 39 dX8_firstOf_39 rfl ?_
          refine g_iadd h 40 dX8_firstOf_40 ?_
          refine al_M_row h 41 dX8_firstOf_41 (by omega) ?_
          obtain ⟨e1, e2⟩ := some_2 hF
          rw [← e1, ← e2] at hE
          exact g_iret h 42 dX8_firstOf_42 hE rfl rfl ⟨(Nat.le_of_ble_eq_true rfl), (Nat.le_of_ble_eq_true rfl)⟩
        have J5 : ¬ ((s1 121 (s1 128 ((24 * a_l) + x_k1)) ≠ 0) ∧ ((a_g = (-1)) ∨ (s1 125 (s1 128 ((24 * a_l) + x_k1)) = a_g))) → G X 0 0 43 [(11, 0), (0, a_g), (0, a_l), (0, x_k1)] [] (m, s1) := by
          intro h5
          have hF := ite_f h5 hF
          refine g_iinc h 43 dX8_firstOf_43 rfl rfl (L' := [(11, 0), (0, a_g), (0, a_l), (0, x_k1 + 1)]) rfl ?_
          refine g_goto h 46 2 dX8_firstOf_46 (by decide) ?_
          rw [ek1] at hF
          exact ih1 _ _ (by omega) hF
        refine g_aload_nq h 12 dX8_firstOf_12 rfl rfl ?_
        refine g_aload_nq h 13 dX8_firstOf_13 rfl rfl ?_
        refine gf_M_row h 14 dX8_firstOf_14 kw_1034 ?_
        refine g_bipush h 17 dX8_firstOf_17 (by decide) ?_
        refine g_iload_n h 19 dX8_firstOf_19 rfl ?_
        refine g_imul h 20 dX8_firstOf_20 ?_
        refine g_iload_n h 21 dX8_firstOf_21 rfl ?_
        refine g_iadd h 22 dX8_firstOf_22 ?_
        refine al_M_row h 23 dX8_firstOf_23 (by omega) ?_
        refine g_iload_n h 24 dX8_firstOf_24 rfl ?_
        refine g_callV h hE 25 dX8_firstOf_25 (cpX8_isOf (a_f := s1 128 ((24 * a_l) + x_k1)) (a_g := a_g) hl (by omega) (by omega)) mwX8_isOf kw_1268 (by decide) (by decide) rfl (Nat.le_of_ble_eq_true rfl) rfl (Nat.le_of_ble_eq_true rfl) ⟨Nat.le_of_ble_eq_true rfl, Nat.le_of_ble_eq_true rfl⟩ rfl rfl ?_
        show G X 0 0 28 [(11, 0), (0, a_g), (0, a_l), (0, x_k1)] [(0, (if (s1 121 (s1 128 ((24 * a_l) + x_k1)) ≠ 0) ∧ ((a_g = (-1)) ∨ (s1 125 (s1 128 ((24 * a_l) + x_k1)) = a_g)) then 1 else 0 : Int))] (m, s1)
        refine g_if_eq h 28 43 (gRi gR_ite) dX8_firstOf_28 (by decide) (fun h3 => ?_) (fun h3 => ?_)
        · exact J5 (iz_f h3)
        · exact J4 (iz_t h3)
      have J3 : ¬ (x_k1 < s1 129 a_l) → G X 0 0 49 [(11, 0), (0, a_g), (0, a_l), (0, x_k1)] [] (m, s1) := by
        intro h6
        have hF := ite_f h6 hF
        refine g_iconst h 49 dX8_firstOf_49 ?_
        obtain ⟨e1, e2⟩ := some_2 hF
        rw [← e1, ← e2] at hE
        exact g_iret h 50 dX8_firstOf_50 hE rfl rfl ⟨(Nat.le_of_ble_eq_true rfl), (Nat.le_of_ble_eq_true rfl)⟩
      refine g_iload_n h 2 dX8_firstOf_2 rfl ?_
      refine g_aload_nq h 3 dX8_firstOf_3 rfl rfl ?_
      refine gf_M_many h 4 dX8_firstOf_4 kw_1035 ?_
      refine g_iload_n h 7 dX8_firstOf_7 rfl ?_
      refine al_M_many h 8 dX8_firstOf_8 (by omega) ?_
      refine g_icmp_ge h 9 49 (gRi (by omega)) (gRi (by omega)) dX8_firstOf_9 (by decide) (fun h1 => ?_) (fun h1 => ?_)
      · exact J3 (Int.not_lt.mpr h1)
      · exact J2 h1
  exact J6 _ _ _ (by omega) hF
-- PagewrightModel.growsDown
def FX8_growsDown (a_s a_a : Int) (s : S2) : Option (Int × S2) :=
  gd (0 ≤ a_s ∧ a_s ≤ 5) <| gd (0 ≤ a_a ∧ a_a ≤ 31) <| gd (0 ≤ (32 * a_s) + a_a ∧ (32 * a_s) + a_a ≤ 191) <| gd (((s 111 ((32 * a_s) + a_a) = 0) ∧ (a_a < 31)) → 0 ≤ ((32 * a_s) + a_a) + 1 ∧ ((32 * a_s) + a_a) + 1 ≤ 191) <| gd ((((s 111 ((32 * a_s) + a_a) = 0) ∧ (a_a < 31)) ∧ (0 < s 111 (((32 * a_s) + a_a) + 1))) → 0 ≤ ((32 * a_s) + a_a) + 1 ∧ ((32 * a_s) + a_a) + 1 ≤ 191) <| gd (((((s 111 ((32 * a_s) + a_a) = 0) ∧ (a_a < 31)) ∧ (0 < s 111 (((32 * a_s) + a_a) + 1))) ∧ (s 115 (((32 * a_s) + a_a) + 1) ≠ 0)) ∧ (¬ (a_a = 0)) → 0 ≤ ((32 * a_s) + a_a) - 1 ∧ ((32 * a_s) + a_a) - 1 ≤ 191) <| bn (fun (s1 : S2) => some (0, s1)) fun k1 => gd ((((((s 111 ((32 * a_s) + a_a) = 0) ∧ (a_a < 31)) ∧ (0 < s 111 (((32 * a_s) + a_a) + 1))) ∧ (s 115 (((32 * a_s) + a_a) + 1) ≠ 0)) ∧ ((a_a = 0) ∨ (s 111 (((32 * a_s) + a_a) - 1) = 0))) → 0 ≤ ((32 * a_s) + a_a) + 1 ∧ ((32 * a_s) + a_a) + 1 ≤ 191) <| gd ((((((s 111 ((32 * a_s) + a_a) = 0) ∧ (a_a < 31)) ∧ (0 < s 111 (((32 * a_s) + a_a) + 1))) ∧ (s 115 (((32 * a_s) + a_a) + 1) ≠ 0)) ∧ ((a_a = 0) ∨ (s 111 (((32 * a_s) + a_a) - 1) = 0))) ∧ (¬ (s 112 (((32 * a_s) + a_a) + 1) = (-1))) → 0 ≤ ((32 * a_s) + a_a) + 1 ∧ ((32 * a_s) + a_a) + 1 ≤ 191) <| if (((((s 111 ((32 * a_s) + a_a) = 0) ∧ (a_a < 31)) ∧ (0 < s 111 (((32 * a_s) + a_a) + 1))) ∧ (s 115 (((32 * a_s) + a_a) + 1) ≠ 0)) ∧ ((a_a = 0) ∨ (s 111 (((32 * a_s) + a_a) - 1) = 0))) ∧ ((s 112 (((32 * a_s) + a_a) + 1) = (-1)) ∨ (0 < s 113 (((32 * a_s) + a_a) + 1))) then gd (0 ≤ ((32 * a_s) + a_a) + 1 ∧ ((32 * a_s) + a_a) + 1 ≤ 191) <| cb (FX8_lays ((32 * a_s) + a_a) (s 111 (((32 * a_s) + a_a) + 1)) (s 112 (((32 * a_s) + a_a) + 1)) ((s 113 (((32 * a_s) + a_a) + 1)) - 1) (s 114 (((32 * a_s) + a_a) + 1)) 1 s) fun r1 s2 => k1 s2 else k1 s
set_option maxRecDepth 100000 in
set_option maxHeartbeats 4000000 in
theorem ctX8_growsDown {l : Launch} {w : gW} {bs : Nat} (hl : l.stackTraces = false) {a_s a_a : Int} {s m s0 : S2} {r0 : Int} (hF : FX8_growsDown a_s a_a s = some (r0, s0)) : gMet l w bs yX8_growsDown cX8_growsDown 5 none 1 0 [(11, 0), (0, a_s), (0, a_a)] (m, s) 0 none (m, s0) := by
  unfold FX8_growsDown at hF
  obtain ⟨q_a_s, hF⟩ := gd_some hF
  obtain ⟨q_a_a, hF⟩ := gd_some hF
  refine g_start hl (by decide) (Nat.le_of_ble_eq_true rfl) rfl fun X h hE => ?_
  have h : gOk X "PagewrightModel" cX8_growsDown 5 1 0 0 := h
  have hE : gEnd X l w bs 0 none 0 none (m, s0) := hE
  show G X 0 0 0 [(11, 0), (0, a_s), (0, a_a), (1, 0), (1, 0)] [] (m, s)
  refine g_bipush h 0 dX8_growsDown_0 (by decide) ?_
  refine g_iload_n h 2 dX8_growsDown_2 rfl ?_
  refine g_imul h 3 dX8_growsDown_3 ?_
  refine g_iload_n h 4 dX8_growsDown_4 rfl ?_
  refine g_iadd h 5 dX8_growsDown_5 ?_
  refine g_istore_n h 6 dX8_growsDown_6 (Nat.le_of_ble_eq_true rfl) rfl (L' := [(11, 0), (0, a_s), (0, a_a), (0, (32 * a_s) + a_a), (1, 0)]) rfl ?_
  refine G_typ fun hT_s => ?_
  have t1 : 0 ≤ s 111 ((32 * a_s) + a_a) ∧ s 111 ((32 * a_s) + a_a) ≤ 3 := hT_s.2 111 ((32 * a_s) + a_a)
  have t2 : 0 ≤ s 111 (((32 * a_s) + a_a) + 1) ∧ s 111 (((32 * a_s) + a_a) + 1) ≤ 3 := hT_s.2 111 (((32 * a_s) + a_a) + 1)
  have t3 : 0 ≤ s 115 (((32 * a_s) + a_a) + 1) ∧ s 115 (((32 * a_s) + a_a) + 1) ≤ 1 := hT_s.2 115 (((32 * a_s) + a_a) + 1)
  have t4 : 0 ≤ s 111 (((32 * a_s) + a_a) - 1) ∧ s 111 (((32 * a_s) + a_a) - 1) ≤ 3 := hT_s.2 111 (((32 * a_s) + a_a) - 1)
  obtain ⟨q1, hF⟩ := gd_some hF
  obtain ⟨q2, hF⟩ := gd_some hF
  obtain ⟨q3, hF⟩ := gd_some hF
  obtain ⟨q4, hF⟩ := gd_some hF
  suffices J1 : ∀ v1 : Int, v1 = (if ((((s 111 ((32 * a_s) + a_a) = 0) ∧ (a_a < 31)) ∧ (0 < s 111 (((32 * a_s) + a_a) + 1))) ∧ (s 115 (((32 * a_s) + a_a) + 1) ≠ 0)) ∧ ((a_a = 0) ∨ (s 111 (((32 * a_s) + a_a) - 1) = 0)) then 1 else 0 : Int) → G X 0 0 64 [(11, 0), (0, a_s), (0, a_a), (0, (32 * a_s) + a_a), (1, 0)] [(0, v1)] (m, s) by
    have J2 : ((((s 111 ((32 * a_s) + a_a) = 0) ∧ (a_a < 31)) ∧ (0 < s 111 (((32 * a_s) + a_a) + 1))) ∧ (s 115 (((32 * a_s) + a_a) + 1) ≠ 0)) ∧ ((a_a = 0) ∨ (s 111 (((32 * a_s) + a_a) - 1) = 0)) → G X 0 0 59 [(11, 0), (0, a_s), (0, a_a), (0, (32 * a_s) + a_a), (1, 0)] [] (m, s) := by
      intro h7
      refine g_iconst h 59 dX8_growsDown_59 ?_
      refine g_goto h 60 64 dX8_growsDown_60 (by decide) ?_
      exact J1 _ (if_pos h7).symm
    have J3 : ¬ (((((s 111 ((32 * a_s) + a_a) = 0) ∧ (a_a < 31)) ∧ (0 < s 111 (((32 * a_s) + a_a) + 1))) ∧ (s 115 (((32 * a_s) + a_a) + 1) ≠ 0)) ∧ ((a_a = 0) ∨ (s 111 (((32 * a_s) + a_a) - 1) = 0))) → G X 0 0 63 [(11, 0), (0, a_s), (0, a_a), (0, (32 * a_s) + a_a), (1, 0)] [] (m, s) := by
      intro h8
      refine g_iconst h 63 dX8_growsDown_63 ?_
      exact J1 _ (if_neg h8).symm
    refine g_aload_nq h 7 dX8_growsDown_7 rfl rfl ?_
    refine gf_M_rights h 8 dX8_growsDown_8 kw_1017 ?_
    refine g_iload_n h 11 dX8_growsDown_11 rfl ?_
    refine al_M_rights h 12 dX8_growsDown_12 (by omega) ?_
    refine g_if_ne h 13 63 (gRi (by omega)) dX8_growsDown_13 (by decide) (fun h1 => ?_) (fun h1 => ?_)
    · exact J3 (fun q => (fun q => (fun q => (fun q => h1 q.1) q.1) q.1) q.1)
    · refine g_iload_n h 16 dX8_growsDown_16 rfl ?_
      refine g_bipush h 17 dX8_growsDown_17 (by decide) ?_
      refine g_icmp_ge h 19 63 (gRi (by omega)) (gRi (by omega)) dX8_growsDown_19 (by decide) (fun h2 => ?_) (fun h2 => ?_)
      · exact J3 (fun q => (fun q => (fun q => (fun q => (Int.not_lt.mpr h2) q.2) q.1) q.1) q.1)
      · refine g_aload_nq h 22 dX8_growsDown_22 rfl rfl ?_
        refine gf_M_rights h 23 dX8_growsDown_23 kw_1017 ?_
        refine g_iload_n h 26 dX8_growsDown_26 rfl ?_
        refine g_iconst h 27 dX8_growsDown_27 ?_
        refine g_iadd h 28 dX8_growsDown_28 ?_
        refine al_M_rights h 29 dX8_growsDown_29 (by omega) ?_
        refine g_if_le h 30 63 (gRi (by omega)) dX8_growsDown_30 (by decide) (fun h3 => ?_) (fun h3 => ?_)
        · exact J3 (fun q => (fun q => (fun q => (Int.not_lt.mpr h3) q.2) q.1) q.1)
        · refine g_aload_nq h 33 dX8_growsDown_33 rfl rfl ?_
          refine gf_M_grows h 34 dX8_growsDown_34 kw_1021 ?_
          refine g_iload_n h 37 dX8_growsDown_37 rfl ?_
          refine g_iconst h 38 dX8_growsDown_38 ?_
          refine g_iadd h 39 dX8_growsDown_39 ?_
          refine al_M_grows h 40 dX8_growsDown_40 (by omega) ?_
          refine g_if_eq h 41 63 (gRi (by omega)) dX8_growsDown_41 (by decide) (fun h4 => ?_) (fun h4 => ?_)
          · exact J3 (fun q => (fun q => (fun q => q h4) q.2) q.1)
          · refine g_iload_n h 44 dX8_growsDown_44 rfl ?_
            refine g_if_eq h 45 59 (gRi (by omega)) dX8_growsDown_45 (by decide) (fun h5 => ?_) (fun h5 => ?_)
            · exact J2 ⟨⟨⟨⟨h1, h2⟩, h3⟩, h4⟩, (Or.inl h5)⟩
            · refine g_aload_nq h 48 dX8_growsDown_48 rfl rfl ?_
              refine gf_M_rights h 49 dX8_growsDown_49 kw_1017 ?_
              refine g_iload_n h 52 dX8_growsDown_52 rfl ?_
              refine g_iconst h 53 dX8_growsDown_53 ?_
              refine g_isub h 54 dX8_growsDown_54 ?_
              refine al_M_rights h 55 dX8_growsDown_55 (by omega) ?_
              refine g_if_ne h 56 63 (gRi (by omega)) dX8_growsDown_56 (by decide) (fun h6 => ?_) (fun h6 => ?_)
              · exact J3 (fun q => (fun q => q.elim h5 h6) q.2)
              · exact J2 ⟨⟨⟨⟨h1, h2⟩, h3⟩, h4⟩, (Or.inr h6)⟩
  intro v1 e1
  subst e1
  refine g_istore h 64 dX8_growsDown_64 (Nat.le_of_ble_eq_true rfl) rfl (L' := [(11, 0), (0, a_s), (0, a_a), (0, (32 * a_s) + a_a), (0, (if ((((s 111 ((32 * a_s) + a_a) = 0) ∧ (a_a < 31)) ∧ (0 < s 111 (((32 * a_s) + a_a) + 1))) ∧ (s 115 (((32 * a_s) + a_a) + 1) ≠ 0)) ∧ ((a_a = 0) ∨ (s 111 (((32 * a_s) + a_a) - 1) = 0)) then 1 else 0 : Int))]) rfl ?_
  obtain ⟨k1, ek1, hF⟩ := bn_ex hF
  have J4 : ∀ (s1 : S2), k1 s1 = some (r0, s0) → G X 0 0 134 [(11, 0), (0, a_s), (0, a_a), (0, (32 * a_s) + a_a), (0, (if ((((s 111 ((32 * a_s) + a_a) = 0) ∧ (a_a < 31)) ∧ (0 < s 111 (((32 * a_s) + a_a) + 1))) ∧ (s 115 (((32 * a_s) + a_a) + 1) ≠ 0)) ∧ ((a_a = 0) ∨ (s 111 (((32 * a_s) + a_a) - 1) = 0)) then 1 else 0 : Int))] [] (m, s1) := by
    intro s1 hF
    rw [ek1] at hF
    obtain ⟨e1, e2⟩ := some_2 hF
    rw [← e2] at hE
    exact g_vret h 134 dX8_growsDown_134 hE rfl ⟨(Nat.le_of_ble_eq_true rfl), (Nat.le_of_ble_eq_true rfl)⟩
  have t5 : (-1) ≤ s 112 (((32 * a_s) + a_a) + 1) ∧ s 112 (((32 * a_s) + a_a) + 1) ≤ 2 := hT_s.2 112 (((32 * a_s) + a_a) + 1)
  have t6 : 0 ≤ s 113 (((32 * a_s) + a_a) + 1) ∧ s 113 (((32 * a_s) + a_a) + 1) ≤ 7 := hT_s.2 113 (((32 * a_s) + a_a) + 1)
  obtain ⟨q5, hF⟩ := gd_some hF
  obtain ⟨q6, hF⟩ := gd_some hF
  have J5 : (((((s 111 ((32 * a_s) + a_a) = 0) ∧ (a_a < 31)) ∧ (0 < s 111 (((32 * a_s) + a_a) + 1))) ∧ (s 115 (((32 * a_s) + a_a) + 1) ≠ 0)) ∧ ((a_a = 0) ∨ (s 111 (((32 * a_s) + a_a) - 1) = 0))) ∧ ((s 112 (((32 * a_s) + a_a) + 1) = (-1)) ∨ (0 < s 113 (((32 * a_s) + a_a) + 1))) → G X 0 0 94 [(11, 0), (0, a_s), (0, a_a), (0, (32 * a_s) + a_a), (0, (if ((((s 111 ((32 * a_s) + a_a) = 0) ∧ (a_a < 31)) ∧ (0 < s 111 (((32 * a_s) + a_a) + 1))) ∧ (s 115 (((32 * a_s) + a_a) + 1) ≠ 0)) ∧ ((a_a = 0) ∨ (s 111 (((32 * a_s) + a_a) - 1) = 0)) then 1 else 0 : Int))] [] (m, s) := by
    intro h12
    have hF := ite_t h12 hF
    refine g_aload_nq h 94 dX8_growsDown_94 rfl rfl ?_
    refine g_iload_n h 95 dX8_growsDown_95 rfl ?_
    obtain ⟨q7, hF⟩ := gd_some hF
    refine g_aload_nq h 96 dX8_growsDown_96 rfl rfl ?_
    refine gf_M_rights h 97 dX8_growsDown_97 kw_1017 ?_
    refine g_iload_n h 100 dX8_growsDown_100 rfl ?_
    refine g_iconst h 101 dX8_growsDown_101 ?_
    refine g_iadd h 102 dX8_growsDown_102 ?_
    refine al_M_rights h 103 dX8_growsDown_103 (by omega) ?_
    refine g_aload_nq h 104 dX8_growsDown_104 rfl rfl ?_
    refine gf_M_file h 105 dX8_growsDown_105 kw_1018 ?_
    refine g_iload_n h 108 dX8_growsDown_108 rfl ?_
    refine g_iconst h 109 dX8_growsDown_109 ?_
    refine g_iadd h 110 dX8_growsDown_110 ?_
    refine al_M_file h 111 dX8_growsDown_111 (by omega) ?_
    refine g_aload_nq h 112 dX8_growsDown_112 rfl rfl ?_
    refine gf_M_index h 113 dX8_growsDown_113 kw_1019 ?_
    refine g_iload_n h 116 dX8_growsDown_116 rfl ?_
    refine g_iconst h 117 dX8_growsDown_117 ?_
    refine g_iadd h 118 dX8_growsDown_118 ?_
    refine al_M_index h 119 dX8_growsDown_119 (by omega) ?_
    refine g_iconst h 120 dX8_growsDown_120 ?_
    refine g_isub h 121 dX8_growsDown_121 ?_
    have t7 : 0 ≤ s 114 (((32 * a_s) + a_a) + 1) ∧ s 114 (((32 * a_s) + a_a) + 1) ≤ 1 := hT_s.2 114 (((32 * a_s) + a_a) + 1)
    refine g_aload_nq h 122 dX8_growsDown_122 rfl rfl ?_
    refine gf_M_shared h 123 dX8_growsDown_123 kw_1020 ?_
    refine g_iload_n h 126 dX8_growsDown_126 rfl ?_
    refine g_iconst h 127 dX8_growsDown_127 ?_
    refine g_iadd h 128 dX8_growsDown_128 ?_
    refine al_M_shared h 129 dX8_growsDown_129 (by omega) ?_
    refine g_iconst h 130 dX8_growsDown_130 ?_
    obtain ⟨r1, s2, c1, hF⟩ := cb_some hF
    refine g_callV h hE 131 dX8_growsDown_131 (ctX8_lays hl c1) mwX8_lays kw_1172 (by decide) (by decide) rfl (Nat.le_of_ble_eq_true rfl) rfl (Nat.le_of_ble_eq_true rfl) ⟨Nat.le_of_ble_eq_true rfl, Nat.le_of_ble_eq_true rfl⟩ rfl rfl ?_
    show G X 0 0 134 [(11, 0), (0, a_s), (0, a_a), (0, (32 * a_s) + a_a), (0, (if ((((s 111 ((32 * a_s) + a_a) = 0) ∧ (a_a < 31)) ∧ (0 < s 111 (((32 * a_s) + a_a) + 1))) ∧ (s 115 (((32 * a_s) + a_a) + 1) ≠ 0)) ∧ ((a_a = 0) ∨ (s 111 (((32 * a_s) + a_a) - 1) = 0)) then 1 else 0 : Int))] [] (m, s2)
    exact J4 _ hF
  have J6 : ¬ ((((((s 111 ((32 * a_s) + a_a) = 0) ∧ (a_a < 31)) ∧ (0 < s 111 (((32 * a_s) + a_a) + 1))) ∧ (s 115 (((32 * a_s) + a_a) + 1) ≠ 0)) ∧ ((a_a = 0) ∨ (s 111 (((32 * a_s) + a_a) - 1) = 0))) ∧ ((s 112 (((32 * a_s) + a_a) + 1) = (-1)) ∨ (0 < s 113 (((32 * a_s) + a_a) + 1)))) → G X 0 0 134 [(11, 0), (0, a_s), (0, a_a), (0, (32 * a_s) + a_a), (0, (if ((((s 111 ((32 * a_s) + a_a) = 0) ∧ (a_a < 31)) ∧ (0 < s 111 (((32 * a_s) + a_a) + 1))) ∧ (s 115 (((32 * a_s) + a_a) + 1) ≠ 0)) ∧ ((a_a = 0) ∨ (s 111 (((32 * a_s) + a_a) - 1) = 0)) then 1 else 0 : Int))] [] (m, s) := by
    intro h13
    have hF := ite_f h13 hF
    exact J4 _ hF
  refine g_iload h 66 dX8_growsDown_66 rfl ?_
  refine g_if_eq h 68 134 (gRi gR_ite) dX8_growsDown_68 (by decide) (fun h9 => ?_) (fun h9 => ?_)
  · exact J6 (fun q => (iz_f h9) q.1)
  · refine g_aload_nq h 71 dX8_growsDown_71 rfl rfl ?_
    refine gf_M_file h 72 dX8_growsDown_72 kw_1018 ?_
    refine g_iload_n h 75 dX8_growsDown_75 rfl ?_
    refine g_iconst h 76 dX8_growsDown_76 ?_
    refine g_iadd h 77 dX8_growsDown_77 ?_
    refine al_M_file h 78 dX8_growsDown_78 (by omega) ?_
    refine g_iconst h 79 dX8_growsDown_79 ?_
    refine g_icmp_eq h 80 94 (gRi (by omega)) (gRi (by omega)) dX8_growsDown_80 (by decide) (fun h10 => ?_) (fun h10 => ?_)
    · exact J5 ⟨(iz_t h9), (Or.inl h10)⟩
    · refine g_aload_nq h 83 dX8_growsDown_83 rfl rfl ?_
      refine gf_M_index h 84 dX8_growsDown_84 kw_1019 ?_
      refine g_iload_n h 87 dX8_growsDown_87 rfl ?_
      refine g_iconst h 88 dX8_growsDown_88 ?_
      refine g_iadd h 89 dX8_growsDown_89 ?_
      refine al_M_index h 90 dX8_growsDown_90 (by omega) ?_
      refine g_if_le h 91 134 (gRi (by omega)) dX8_growsDown_91 (by decide) (fun h11 => ?_) (fun h11 => ?_)
      · exact J6 (fun q => (fun q => q.elim h10 (Int.not_lt.mpr h11)) q.2)
      · exact J5 ⟨(iz_t h9), (Or.inr h11)⟩
-- PagewrightModel.handle
def FX8_handle (a_p : Int) (s : S2) : Option (Int × S2) :=
  rgd (-2147483648) 2147483647 <| gd ((-2147483648) ≤ a_p ∧ a_p ≤ 2147483647) <| bn (fun (v1 : Int) (s1 : S2) => some (v1, s1)) fun k1 => cb (FX8_asked (if (0 ≤ a_p) ∧ (a_p ≤ 1) then 1 else 0 : Int) s) fun r1 s2 => if r1 ≠ 0 then cb (FX8_handles a_p s2) fun r2 s3 => k1 r2 s3 else k1 0 s2
theorem rgX8_handle {a_p : Int} {s s0 : S2} {r0 : Int} (hF : FX8_handle a_p s = some (r0, s0)) : (-2147483648) ≤ r0 ∧ r0 ≤ 2147483647 := (rgd_some hF).2
set_option maxRecDepth 100000 in
set_option maxHeartbeats 4000000 in
theorem ctX8_handle {l : Launch} {w : gW} {bs : Nat} (hl : l.stackTraces = false) {a_p : Int} {s m s0 : S2} {r0 : Int} (hF : FX8_handle a_p s = some (r0, s0)) : gMet l w bs yX8_handle cX8_handle 2 (some FieldType.int) 1 0 [(11, 0), (0, a_p)] (m, s) 0 (some (0, r0)) (m, s0) := by
  unfold FX8_handle at hF
  obtain ⟨hF, hr⟩ := rgd_some hF
  obtain ⟨q_a_p, hF⟩ := gd_some hF
  refine g_start hl (by decide) (Nat.le_of_ble_eq_true rfl) rfl fun X h hE => ?_
  have h : gOk X "PagewrightModel" cX8_handle 2 1 0 0 := h
  have hE : gEnd X l w bs 0 (some FieldType.int) 0 (some (0, r0)) (m, s0) := hE
  show G X 0 0 0 [(11, 0), (0, a_p)] [] (m, s)
  obtain ⟨k1, ek1, hF⟩ := bn_ex hF
  have J1 : ∀ (v1 : Int) (s1 : S2), ((-2147483648) ≤ v1 ∧ v1 ≤ 2147483647) → k1 v1 s1 = some (r0, s0) → G X 0 0 22 [(11, 0), (0, a_p)] [(0, v1)] (m, s1) := by
    intro v1 s1 q1 hF
    rw [ek1] at hF
    obtain ⟨e1, e2⟩ := some_2 hF
    rw [← e1, ← e2] at hE
    exact g_iret h 22 dX8_handle_22 hE rfl rfl ⟨(Nat.le_of_ble_eq_true rfl), (Nat.le_of_ble_eq_true rfl)⟩
  refine g_aload_nq h 0 dX8_handle_0 rfl rfl ?_
  refine g_iload_n h 1 dX8_handle_1 rfl ?_
  refine g_iconst h 2 dX8_handle_2 ?_
  refine g_iconst h 3 dX8_handle_3 ?_
  refine g_callS h hE 4 dX8_handle_4 (cpX8_in (a_v := a_p) (a_low := 0) (a_high := 1) hl (by omega) (by omega) (by omega)) mwX8_in kw_1142 rfl (Nat.le_of_ble_eq_true rfl) rfl (Nat.le_of_ble_eq_true rfl) ⟨Nat.le_of_ble_eq_true rfl, Nat.le_of_ble_eq_true rfl⟩ rfl rfl ?_
  show G X 0 0 7 [(11, 0), (0, a_p)] [(0, (if (0 ≤ a_p) ∧ (a_p ≤ 1) then 1 else 0 : Int)), (11, 0)] (m, s)
  obtain ⟨r1, s2, c1, hF⟩ := cb_some hF
  have t1 : 0 ≤ r1 ∧ r1 ≤ 1 := rgX8_asked c1
  refine g_callV h hE 7 dX8_handle_7 (ctX8_asked hl c1) mwX8_asked kw_1260 (by decide) (by decide) rfl (Nat.le_of_ble_eq_true rfl) rfl (Nat.le_of_ble_eq_true rfl) ⟨Nat.le_of_ble_eq_true rfl, Nat.le_of_ble_eq_true rfl⟩ rfl rfl ?_
  show G X 0 0 10 [(11, 0), (0, a_p)] [(0, r1)] (m, s2)
  refine g_if_eq h 10 21 (gRi (by omega)) dX8_handle_10 (by decide) (fun h1 => ?_) (fun h1 => ?_)
  · have hF := ite_f (fun q => q h1) hF
    refine g_iconst h 21 dX8_handle_21 ?_
    exact J1 _ _ (by omega) hF
  · have hF := ite_t h1 hF
    refine g_aload_nq h 13 dX8_handle_13 rfl rfl ?_
    refine g_iload_n h 14 dX8_handle_14 rfl ?_
    obtain ⟨r2, s3, c2, hF⟩ := cb_some hF
    have t2 : 0 ≤ r2 ∧ r2 ≤ 4 := rgX8_handles c2
    refine g_callV h hE 15 dX8_handle_15 (ctX8_handles hl c2) mwX8_handles kw_1280 (by decide) (by decide) rfl (Nat.le_of_ble_eq_true rfl) rfl (Nat.le_of_ble_eq_true rfl) ⟨Nat.le_of_ble_eq_true rfl, Nat.le_of_ble_eq_true rfl⟩ rfl rfl ?_
    show G X 0 0 18 [(11, 0), (0, a_p)] [(0, r2)] (m, s3)
    refine g_goto h 18 22 dX8_handle_18 (by decide) ?_
    exact J1 _ _ (by omega) hF
-- PagewrightModel.isFile
set_option maxRecDepth 100000 in
theorem cpX8_isFile {l : Launch} {w : gW} {bs : Nat} (hl : l.stackTraces = false) {a_its a_i : Int} {s m : S2} (q_a_its : (-2147483648) ≤ a_its ∧ a_its ≤ 2147483647) (q_a_i : (-2147483648) ≤ a_i ∧ a_i ≤ 2147483647) : gMet l w bs yX8_isFile cX8_isFile 2 (some FieldType.boolean) 1 0 [(0, a_its), (0, a_i)] (m, s) 0 (some (0, (if ((0 ≤ a_its) ∧ (a_its ≤ 2)) ∧ ((0 ≤ a_i) ∧ (a_i ≤ 7)) then 1 else 0 : Int))) (m, s) := by
  refine g_start hl (by decide) (Nat.le_of_ble_eq_true rfl) rfl fun X h hE => ?_
  have h : gOk X "PagewrightModel" cX8_isFile 2 1 0 0 := h
  show G X 0 0 0 [(0, a_its), (0, a_i)] [] (m, s)
  suffices J1 : ∀ v1 : Int, v1 = (if ((0 ≤ a_its) ∧ (a_its ≤ 2)) ∧ ((0 ≤ a_i) ∧ (a_i ≤ 7)) then 1 else 0 : Int) → G X 0 0 24 [(0, a_its), (0, a_i)] [(0, v1)] (m, s) by
    have J2 : ((0 ≤ a_its) ∧ (a_its ≤ 2)) ∧ ((0 ≤ a_i) ∧ (a_i ≤ 7)) → G X 0 0 19 [(0, a_its), (0, a_i)] [] (m, s) := by
      intro h3
      refine g_iconst h 19 dX8_isFile_19 ?_
      refine g_goto h 20 24 dX8_isFile_20 (by decide) ?_
      exact J1 _ (if_pos h3).symm
    have J3 : ¬ (((0 ≤ a_its) ∧ (a_its ≤ 2)) ∧ ((0 ≤ a_i) ∧ (a_i ≤ 7))) → G X 0 0 23 [(0, a_its), (0, a_i)] [] (m, s) := by
      intro h4
      refine g_iconst h 23 dX8_isFile_23 ?_
      exact J1 _ (if_neg h4).symm
    refine g_iload_n h 0 dX8_isFile_0 rfl ?_
    refine g_iconst h 1 dX8_isFile_1 ?_
    refine g_iconst h 2 dX8_isFile_2 ?_
    refine g_callS h hE 3 dX8_isFile_3 (cpX8_in (a_v := a_its) (a_low := 0) (a_high := 2) hl (by omega) (by omega) (by omega)) mwX8_in kw_1142 rfl (Nat.le_of_ble_eq_true rfl) rfl (Nat.le_of_ble_eq_true rfl) ⟨Nat.le_of_ble_eq_true rfl, Nat.le_of_ble_eq_true rfl⟩ rfl rfl ?_
    show G X 0 0 6 [(0, a_its), (0, a_i)] [(0, (if (0 ≤ a_its) ∧ (a_its ≤ 2) then 1 else 0 : Int))] (m, s)
    refine g_if_eq h 6 23 (gRi gR_ite) dX8_isFile_6 (by decide) (fun h1 => ?_) (fun h1 => ?_)
    · exact J3 (fun q => (iz_f h1) q.1)
    · refine g_iload_n h 9 dX8_isFile_9 rfl ?_
      refine g_iconst h 10 dX8_isFile_10 ?_
      refine g_bipush h 11 dX8_isFile_11 (by decide) ?_
      refine g_callS h hE 13 dX8_isFile_13 (cpX8_in (a_v := a_i) (a_low := 0) (a_high := 7) hl (by omega) (by omega) (by omega)) mwX8_in kw_1142 rfl (Nat.le_of_ble_eq_true rfl) rfl (Nat.le_of_ble_eq_true rfl) ⟨Nat.le_of_ble_eq_true rfl, Nat.le_of_ble_eq_true rfl⟩ rfl rfl ?_
      show G X 0 0 16 [(0, a_its), (0, a_i)] [(0, (if (0 ≤ a_i) ∧ (a_i ≤ 7) then 1 else 0 : Int))] (m, s)
      refine g_if_eq h 16 23 (gRi gR_ite) dX8_isFile_16 (by decide) (fun h2 => ?_) (fun h2 => ?_)
      · exact J3 (fun q => (iz_f h2) q.2)
      · exact J2 ⟨(iz_t h1), (iz_t h2)⟩
  intro v1 e1
  subst e1
  exact g_iret h 24 dX8_isFile_24 hE rfl (g_nb (by first | omega | (split <;> decide))) ⟨(Nat.le_of_ble_eq_true rfl), (Nat.le_of_ble_eq_true rfl)⟩
-- PagewrightModel.isRow
set_option maxRecDepth 100000 in
theorem cpX8_isRow {l : Launch} {w : gW} {bs : Nat} (hl : l.stackTraces = false) {a_from a_count : Int} {s m : S2} (q_a_from : (-2147483648) ≤ a_from ∧ a_from ≤ 2147483647) (q_a_count : (-2147483648) ≤ a_count ∧ a_count ≤ 2147483647) : gMet l w bs yX8_isRow cX8_isRow 2 (some FieldType.boolean) 1 0 [(0, a_from), (0, a_count)] (m, s) 0 (some (0, (if (((0 ≤ a_from) ∧ (a_from ≤ 31)) ∧ ((1 ≤ a_count) ∧ (a_count ≤ 32))) ∧ (a_from + a_count ≤ 32) then 1 else 0 : Int))) (m, s) := by
  refine g_start hl (by decide) (Nat.le_of_ble_eq_true rfl) rfl fun X h hE => ?_
  have h : gOk X "PagewrightModel" cX8_isRow 2 1 0 0 := h
  show G X 0 0 0 [(0, a_from), (0, a_count)] [] (m, s)
  suffices J1 : ∀ v1 : Int, v1 = (if (((0 ≤ a_from) ∧ (a_from ≤ 31)) ∧ ((1 ≤ a_count) ∧ (a_count ≤ 32))) ∧ (a_from + a_count ≤ 32) then 1 else 0 : Int) → G X 0 0 33 [(0, a_from), (0, a_count)] [(0, v1)] (m, s) by
    have J2 : (((0 ≤ a_from) ∧ (a_from ≤ 31)) ∧ ((1 ≤ a_count) ∧ (a_count ≤ 32))) ∧ (a_from + a_count ≤ 32) → G X 0 0 28 [(0, a_from), (0, a_count)] [] (m, s) := by
      intro h4
      refine g_iconst h 28 dX8_isRow_28 ?_
      refine g_goto h 29 33 dX8_isRow_29 (by decide) ?_
      exact J1 _ (if_pos h4).symm
    have J3 : ¬ ((((0 ≤ a_from) ∧ (a_from ≤ 31)) ∧ ((1 ≤ a_count) ∧ (a_count ≤ 32))) ∧ (a_from + a_count ≤ 32)) → G X 0 0 32 [(0, a_from), (0, a_count)] [] (m, s) := by
      intro h5
      refine g_iconst h 32 dX8_isRow_32 ?_
      exact J1 _ (if_neg h5).symm
    refine g_iload_n h 0 dX8_isRow_0 rfl ?_
    refine g_iconst h 1 dX8_isRow_1 ?_
    refine g_bipush h 2 dX8_isRow_2 (by decide) ?_
    refine g_callS h hE 4 dX8_isRow_4 (cpX8_in (a_v := a_from) (a_low := 0) (a_high := 31) hl (by omega) (by omega) (by omega)) mwX8_in kw_1142 rfl (Nat.le_of_ble_eq_true rfl) rfl (Nat.le_of_ble_eq_true rfl) ⟨Nat.le_of_ble_eq_true rfl, Nat.le_of_ble_eq_true rfl⟩ rfl rfl ?_
    show G X 0 0 7 [(0, a_from), (0, a_count)] [(0, (if (0 ≤ a_from) ∧ (a_from ≤ 31) then 1 else 0 : Int))] (m, s)
    refine g_if_eq h 7 32 (gRi gR_ite) dX8_isRow_7 (by decide) (fun h1 => ?_) (fun h1 => ?_)
    · exact J3 (fun q => (fun q => (iz_f h1) q.1) q.1)
    · refine g_iload_n h 10 dX8_isRow_10 rfl ?_
      refine g_iconst h 11 dX8_isRow_11 ?_
      refine g_bipush h 12 dX8_isRow_12 (by decide) ?_
      refine g_callS h hE 14 dX8_isRow_14 (cpX8_in (a_v := a_count) (a_low := 1) (a_high := 32) hl (by omega) (by omega) (by omega)) mwX8_in kw_1142 rfl (Nat.le_of_ble_eq_true rfl) rfl (Nat.le_of_ble_eq_true rfl) ⟨Nat.le_of_ble_eq_true rfl, Nat.le_of_ble_eq_true rfl⟩ rfl rfl ?_
      show G X 0 0 17 [(0, a_from), (0, a_count)] [(0, (if (1 ≤ a_count) ∧ (a_count ≤ 32) then 1 else 0 : Int))] (m, s)
      refine g_if_eq h 17 32 (gRi gR_ite) dX8_isRow_17 (by decide) (fun h2 => ?_) (fun h2 => ?_)
      · exact J3 (fun q => (fun q => (iz_f h2) q.2) q.1)
      · refine g_iload_n h 20 dX8_isRow_20 rfl ?_
        refine g_iload_n h 21 dX8_isRow_21 rfl ?_
        refine g_iadd h 22 dX8_isRow_22 ?_
        refine g_bipush h 23 dX8_isRow_23 (by decide) ?_
        refine g_icmp_gt h 25 32 (gRi (by omega)) (gRi (by omega)) dX8_isRow_25 (by decide) (fun h3 => ?_) (fun h3 => ?_)
        · exact J3 (fun q => (Int.not_le.mpr h3) q.2)
        · exact J2 ⟨⟨(iz_t h1), (iz_t h2)⟩, h3⟩
  intro v1 e1
  subst e1
  exact g_iret h 33 dX8_isRow_33 hE rfl (g_nb (by first | omega | (split <;> decide))) ⟨(Nat.le_of_ble_eq_true rfl), (Nat.le_of_ble_eq_true rfl)⟩
-- PagewrightModel.isSpace
set_option maxRecDepth 100000 in
theorem cpX8_isSpace {l : Launch} {w : gW} {bs : Nat} (hl : l.stackTraces = false) {a_s : Int} {s m : S2} (q_a_s : (-2147483648) ≤ a_s ∧ a_s ≤ 2147483647) : gMet l w bs yX8_isSpace cX8_isSpace 2 (some FieldType.boolean) 1 0 [(11, 0), (0, a_s)] (m, s) 0 (some (0, (if (0 ≤ a_s) ∧ (a_s ≤ (s 102 0) - 1) then 1 else 0 : Int))) (m, s) := by
  refine g_start hl (by decide) (Nat.le_of_ble_eq_true rfl) rfl fun X h hE => ?_
  have h : gOk X "PagewrightModel" cX8_isSpace 2 1 0 0 := h
  show G X 0 0 0 [(11, 0), (0, a_s)] [] (m, s)
  refine G_typ fun hT_s => ?_
  have t1 : 0 ≤ s 102 0 ∧ s 102 0 ≤ 6 := hT_s.2 102 0
  refine g_iload_n h 0 dX8_isSpace_0 rfl ?_
  refine g_iconst h 1 dX8_isSpace_1 ?_
  refine g_aload_nq h 2 dX8_isSpace_2 rfl rfl ?_
  refine gf_M_spaces h 3 dX8_isSpace_3 kw_1011 ?_
  refine g_iconst h 6 dX8_isSpace_6 ?_
  refine g_isub h 7 dX8_isSpace_7 ?_
  refine g_callS h hE 8 dX8_isSpace_8 (cpX8_in (a_v := a_s) (a_low := 0) (a_high := (s 102 0) - 1) hl (by omega) (by omega) (by omega)) mwX8_in kw_1142 rfl (Nat.le_of_ble_eq_true rfl) rfl (Nat.le_of_ble_eq_true rfl) ⟨Nat.le_of_ble_eq_true rfl, Nat.le_of_ble_eq_true rfl⟩ rfl rfl ?_
  show G X 0 0 11 [(11, 0), (0, a_s)] [(0, (if (0 ≤ a_s) ∧ (a_s ≤ (s 102 0) - 1) then 1 else 0 : Int))] (m, s)
  exact g_iret h 11 dX8_isSpace_11 hE rfl (g_nb (by first | omega | (split <;> decide))) ⟨(Nat.le_of_ble_eq_true rfl), (Nat.le_of_ble_eq_true rfl)⟩
-- PagewrightModel.list
def FX8_list (a_l a_at : Int) (s : S2) : Option (Int × S2) :=
  rgd (-2147483648) 2147483647 <| gd ((-2147483648) ≤ a_l ∧ a_l ≤ 2147483647) <| gd ((-2147483648) ≤ a_at ∧ a_at ≤ 2147483647) <| cb (FX8_asked (if ((0 ≤ a_l) ∧ (a_l ≤ 1)) ∧ (0 ≤ a_at) then 1 else 0 : Int) s) fun r1 s1 => if r1 ≠ 0 then gd (0 ≤ a_l ∧ a_l ≤ 1) <| gd ((a_at < s1 129 a_l) → 0 ≤ (24 * a_l) + a_at ∧ (24 * a_l) + a_at ≤ 47) <| some ((if a_at < s1 129 a_l then s1 128 ((24 * a_l) + a_at) else (-1) : Int), s1) else some (0, s1)
theorem rgX8_list {a_l a_at : Int} {s s0 : S2} {r0 : Int} (hF : FX8_list a_l a_at s = some (r0, s0)) : (-2147483648) ≤ r0 ∧ r0 ≤ 2147483647 := (rgd_some hF).2
set_option maxRecDepth 100000 in
set_option maxHeartbeats 4000000 in
theorem ctX8_list {l : Launch} {w : gW} {bs : Nat} (hl : l.stackTraces = false) {a_l a_at : Int} {s m s0 : S2} {r0 : Int} (hF : FX8_list a_l a_at s = some (r0, s0)) : gMet l w bs yX8_list cX8_list 3 (some FieldType.int) 1 0 [(11, 0), (0, a_l), (0, a_at)] (m, s) 0 (some (0, r0)) (m, s0) := by
  unfold FX8_list at hF
  obtain ⟨hF, hr⟩ := rgd_some hF
  obtain ⟨q_a_l, hF⟩ := gd_some hF
  obtain ⟨q_a_at, hF⟩ := gd_some hF
  refine g_start hl (by decide) (Nat.le_of_ble_eq_true rfl) rfl fun X h hE => ?_
  have h : gOk X "PagewrightModel" cX8_list 3 1 0 0 := h
  have hE : gEnd X l w bs 0 (some FieldType.int) 0 (some (0, r0)) (m, s0) := hE
  show G X 0 0 0 [(11, 0), (0, a_l), (0, a_at)] [] (m, s)
  refine g_aload_nq h 0 dX8_list_0 rfl rfl ?_
  suffices J1 : ∀ v1 : Int, v1 = (if ((0 ≤ a_l) ∧ (a_l ≤ 1)) ∧ (0 ≤ a_at) then 1 else 0 : Int) → G X 0 0 19 [(11, 0), (0, a_l), (0, a_at)] [(0, v1), (11, 0)] (m, s) by
    have J2 : ((0 ≤ a_l) ∧ (a_l ≤ 1)) ∧ (0 ≤ a_at) → G X 0 0 14 [(11, 0), (0, a_l), (0, a_at)] [(11, 0)] (m, s) := by
      intro h3
      refine g_iconst h 14 dX8_list_14 ?_
      refine g_goto h 15 19 dX8_list_15 (by decide) ?_
      exact J1 _ (if_pos h3).symm
    have J3 : ¬ (((0 ≤ a_l) ∧ (a_l ≤ 1)) ∧ (0 ≤ a_at)) → G X 0 0 18 [(11, 0), (0, a_l), (0, a_at)] [(11, 0)] (m, s) := by
      intro h4
      refine g_iconst h 18 dX8_list_18 ?_
      exact J1 _ (if_neg h4).symm
    refine g_iload_n h 1 dX8_list_1 rfl ?_
    refine g_iconst h 2 dX8_list_2 ?_
    refine g_iconst h 3 dX8_list_3 ?_
    refine g_callS h hE 4 dX8_list_4 (cpX8_in (a_v := a_l) (a_low := 0) (a_high := 1) hl (by omega) (by omega) (by omega)) mwX8_in kw_1142 rfl (Nat.le_of_ble_eq_true rfl) rfl (Nat.le_of_ble_eq_true rfl) ⟨Nat.le_of_ble_eq_true rfl, Nat.le_of_ble_eq_true rfl⟩ rfl rfl ?_
    show G X 0 0 7 [(11, 0), (0, a_l), (0, a_at)] [(0, (if (0 ≤ a_l) ∧ (a_l ≤ 1) then 1 else 0 : Int)), (11, 0)] (m, s)
    refine g_if_eq h 7 18 (gRi gR_ite) dX8_list_7 (by decide) (fun h1 => ?_) (fun h1 => ?_)
    · exact J3 (fun q => (iz_f h1) q.1)
    · refine g_iload_n h 10 dX8_list_10 rfl ?_
      refine g_if_lt h 11 18 (gRi (by omega)) dX8_list_11 (by decide) (fun h2 => ?_) (fun h2 => ?_)
      · exact J3 (fun q => (Int.not_le.mpr h2) q.2)
      · exact J2 ⟨(iz_t h1), h2⟩
  intro v1 e1
  subst e1
  obtain ⟨r1, s1, c1, hF⟩ := cb_some hF
  have t1 : 0 ≤ r1 ∧ r1 ≤ 1 := rgX8_asked c1
  refine g_callV h hE 19 dX8_list_19 (ctX8_asked hl c1) mwX8_asked kw_1260 (by decide) (by decide) rfl (Nat.le_of_ble_eq_true rfl) rfl (Nat.le_of_ble_eq_true rfl) ⟨Nat.le_of_ble_eq_true rfl, Nat.le_of_ble_eq_true rfl⟩ rfl rfl ?_
  show G X 0 0 22 [(11, 0), (0, a_l), (0, a_at)] [(0, r1)] (m, s1)
  refine g_if_ne h 22 27 (gRi (by omega)) dX8_list_22 (by decide) (fun h5 => ?_) (fun h5 => ?_)
  · have hF := ite_t h5 hF
    refine G_typ fun hT_s1 => ?_
    have t2 : 0 ≤ s1 129 a_l ∧ s1 129 a_l ≤ 24 := hT_s1.2 129 a_l
    have t3 : 0 ≤ s1 128 ((24 * a_l) + a_at) ∧ s1 128 ((24 * a_l) + a_at) ≤ 23 := hT_s1.2 128 ((24 * a_l) + a_at)
    obtain ⟨q1, hF⟩ := gd_some hF
    obtain ⟨q2, hF⟩ := gd_some hF
    suffices J4 : ∀ v2 : Int, v2 = (if a_at < s1 129 a_l then s1 128 ((24 * a_l) + a_at) else (-1) : Int) → G X 0 0 52 [(11, 0), (0, a_l), (0, a_at)] [(0, v2)] (m, s1) by
      have J5 : a_at < s1 129 a_l → G X 0 0 37 [(11, 0), (0, a_l), (0, a_at)] [] (m, s1) := by
        intro h7
        refine g_aload_nq h 37 dX8_list_37 rfl rfl ?_
        refine gf_M_row h 38 dX8_list_38 kw_1034 ?_
        refine g_bipush h 41 dX8_list_41 (by decide) ?_
        refine g_iload_n h 43 dX8_list_43 rfl ?_
        refine g_imul h 44 dX8_list_44 ?_
        refine g_iload_n h 45 dX8_list_45 rfl ?_
        refine g_iadd h 46 dX8_list_46 ?_
        refine al_M_row h 47 dX8_list_47 (by omega) ?_
        refine g_goto h 48 52 dX8_list_48 (by decide) ?_
        exact J4 _ (if_pos h7).symm
      have J6 : ¬ (a_at < s1 129 a_l) → G X 0 0 51 [(11, 0), (0, a_l), (0, a_at)] [] (m, s1) := by
        intro h8
        refine g_iconst h 51 dX8_list_51 ?_
        exact J4 _ (if_neg h8).symm
      refine g_iload_n h 27 dX8_list_27 rfl ?_
      refine g_aload_nq h 28 dX8_list_28 rfl rfl ?_
      refine gf_M_many h 29 dX8_list_29 kw_1035 ?_
      refine g_iload_n h 32 dX8_list_32 rfl ?_
      refine al_M_many h 33 dX8_list_33 (by omega) ?_
      refine g_icmp_ge h 34 51 (gRi (by omega)) (gRi (by omega)) dX8_list_34 (by decide) (fun h6 => ?_) (fun h6 => ?_)
      · exact J6 (Int.not_lt.mpr h6)
      · exact J5 h6
    intro v2 e2
    subst e2
    obtain ⟨e1, e2⟩ := some_2 hF
    rw [← e1, ← e2] at hE
    exact g_iret h 52 dX8_list_52 hE rfl rfl ⟨(Nat.le_of_ble_eq_true rfl), (Nat.le_of_ble_eq_true rfl)⟩
  · have hF := ite_f (fun q => q h5) hF
    refine g_iconst h 25 dX8_list_25 ?_
    obtain ⟨e1, e2⟩ := some_2 hF
    rw [← e1, ← e2] at hE
    exact g_iret h 26 dX8_list_26 hE rfl rfl ⟨(Nat.le_of_ble_eq_true rfl), (Nat.le_of_ble_eq_true rfl)⟩
-- PagewrightModel.listed
def FX8_listed (a_g a_l : Int) (s : S2) : Option (Int × S2) :=
  rgd 0 24 <| gd ((-1) ≤ a_g ∧ a_g ≤ 2) <| gd (0 ≤ a_l ∧ a_l ≤ 1) <| gl2 1000 (fun k1 (x_n1 : Int) (x_k1 : Int) (s1 : S2) => if x_k1 < s1 129 a_l then gd ((-2147483648) ≤ x_n1 + (if (s1 121 (s1 128 ((24 * a_l) + x_k1)) ≠ 0) ∧ ((a_g = (-1)) ∨ (s1 125 (s1 128 ((24 * a_l) + x_k1)) = a_g)) then 1 else 0 : Int) ∧ x_n1 + (if (s1 121 (s1 128 ((24 * a_l) + x_k1)) ≠ 0) ∧ ((a_g = (-1)) ∨ (s1 125 (s1 128 ((24 * a_l) + x_k1)) = a_g)) then 1 else 0 : Int) ≤ 2147483647) <| k1 (x_n1 + (if (s1 121 (s1 128 ((24 * a_l) + x_k1)) ≠ 0) ∧ ((a_g = (-1)) ∨ (s1 125 (s1 128 ((24 * a_l) + x_k1)) = a_g)) then 1 else 0 : Int)) (x_k1 + 1) s1 else some (x_n1, s1)) 0 0 s
theorem rgX8_listed {a_g a_l : Int} {s s0 : S2} {r0 : Int} (hF : FX8_listed a_g a_l s = some (r0, s0)) : 0 ≤ r0 ∧ r0 ≤ 24 := (rgd_some hF).2
set_option maxRecDepth 100000 in
set_option maxHeartbeats 4000000 in
theorem ctX8_listed {l : Launch} {w : gW} {bs : Nat} (hl : l.stackTraces = false) {a_g a_l : Int} {s m s0 : S2} {r0 : Int} (hF : FX8_listed a_g a_l s = some (r0, s0)) : gMet l w bs yX8_listed cX8_listed 5 (some FieldType.int) 1 0 [(11, 0), (0, a_g), (0, a_l)] (m, s) 0 (some (0, r0)) (m, s0) := by
  unfold FX8_listed at hF
  obtain ⟨hF, hr⟩ := rgd_some hF
  obtain ⟨q_a_g, hF⟩ := gd_some hF
  obtain ⟨q_a_l, hF⟩ := gd_some hF
  refine g_start hl (by decide) (Nat.le_of_ble_eq_true rfl) rfl fun X h hE => ?_
  have h : gOk X "PagewrightModel" cX8_listed 5 1 0 0 := h
  have hE : gEnd X l w bs 0 (some FieldType.int) 0 (some (0, r0)) (m, s0) := hE
  show G X 0 0 0 [(11, 0), (0, a_g), (0, a_l), (1, 0), (1, 0)] [] (m, s)
  refine g_iconst h 0 dX8_listed_0 ?_
  refine g_istore_n h 1 dX8_listed_1 (Nat.le_of_ble_eq_true rfl) rfl (L' := [(11, 0), (0, a_g), (0, a_l), (0, 0), (1, 0)]) rfl ?_
  refine g_iconst h 2 dX8_listed_2 ?_
  refine g_istore h 3 dX8_listed_3 (Nat.le_of_ble_eq_true rfl) rfl (L' := [(11, 0), (0, a_g), (0, a_l), (0, 0), (0, 0)]) rfl ?_
  obtain ⟨f1, ef1, hF⟩ := glx2 hF
  have J7 : ∀ (n1 : Nat) (x_n1 x_k1 : Int) (s1 : S2), ((-2147483648) ≤ x_n1 ∧ x_n1 ≤ 2147483647) → (0 ≤ x_k1 ∧ x_k1 ≤ 24) → gl2 n1 f1 x_n1 x_k1 s1 = some (r0, s0) → G X 0 0 5 [(11, 0), (0, a_g), (0, a_l), (0, x_n1), (0, x_k1)] [] (m, s1) := by
    intro n1
    induction n1 with
    | zero => intro x_n1 x_k1 s1 _ _ hF; exact (gl2_0 hF).elim
    | succ n1 ih1 =>
      intro x_n1 x_k1 s1 q1 q2 hF
      obtain ⟨k1, ek1, hF⟩ := glu2 hF ef1
      refine G_typ fun hT_s1 => ?_
      have t1 : 0 ≤ s1 129 a_l ∧ s1 129 a_l ≤ 24 := hT_s1.2 129 a_l
      have J2 : x_k1 < s1 129 a_l → G X 0 0 16 [(11, 0), (0, a_g), (0, a_l), (0, x_n1), (0, x_k1)] [] (m, s1) := by
        intro h2
        have hF := ite_t h2 hF
        have t2 : 0 ≤ s1 128 ((24 * a_l) + x_k1) ∧ s1 128 ((24 * a_l) + x_k1) ≤ 23 := hT_s1.2 128 ((24 * a_l) + x_k1)
        have t3 : 0 ≤ s1 121 (s1 128 ((24 * a_l) + x_k1)) ∧ s1 121 (s1 128 ((24 * a_l) + x_k1)) ≤ 2 := hT_s1.2 121 (s1 128 ((24 * a_l) + x_k1))
        have t4 : 0 ≤ s1 125 (s1 128 ((24 * a_l) + x_k1)) ∧ s1 125 (s1 128 ((24 * a_l) + x_k1)) ≤ 2 := hT_s1.2 125 (s1 128 ((24 * a_l) + x_k1))
        refine g_iload_n h 16 dX8_listed_16 rfl ?_
        suffices J4 : ∀ v1 : Int, v1 = (if (s1 121 (s1 128 ((24 * a_l) + x_k1)) ≠ 0) ∧ ((a_g = (-1)) ∨ (s1 125 (s1 128 ((24 * a_l) + x_k1)) = a_g)) then 1 else 0 : Int) → G X 0 0 42 [(11, 0), (0, a_g), (0, a_l), (0, x_n1), (0, x_k1)] [(0, v1), (0, x_n1)] (m, s1) by
          have J5 : (s1 121 (s1 128 ((24 * a_l) + x_k1)) ≠ 0) ∧ ((a_g = (-1)) ∨ (s1 125 (s1 128 ((24 * a_l) + x_k1)) = a_g)) → G X 0 0 37 [(11, 0), (0, a_g), (0, a_l), (0, x_n1), (0, x_k1)] [(0, x_n1)] (m, s1) := by
            intro h4
            refine g_iconst h 37 dX8_listed_37 ?_
            refine g_goto h 38 42 dX8_listed_38 (by decide) ?_
            exact J4 _ (if_pos h4).symm
          have J6 : ¬ ((s1 121 (s1 128 ((24 * a_l) + x_k1)) ≠ 0) ∧ ((a_g = (-1)) ∨ (s1 125 (s1 128 ((24 * a_l) + x_k1)) = a_g))) → G X 0 0 41 [(11, 0), (0, a_g), (0, a_l), (0, x_n1), (0, x_k1)] [(0, x_n1)] (m, s1) := by
            intro h5
            refine g_iconst h 41 dX8_listed_41 ?_
            exact J4 _ (if_neg h5).symm
          refine g_aload_nq h 17 dX8_listed_17 rfl rfl ?_
          refine g_aload_nq h 18 dX8_listed_18 rfl rfl ?_
          refine gf_M_row h 19 dX8_listed_19 kw_1034 ?_
          refine g_bipush h 22 dX8_listed_22 (by decide) ?_
          refine g_iload_n h 24 dX8_listed_24 rfl ?_
          refine g_imul h 25 dX8_listed_25 ?_
          refine g_iload h 26 dX8_listed_26 rfl ?_
          refine g_iadd h 28 dX8_listed_28 ?_
          refine al_M_row h 29 dX8_listed_29 (by omega) ?_
          refine g_iload_n h 30 dX8_listed_30 rfl ?_
          refine g_callV h hE 31 dX8_listed_31 (cpX8_isOf (a_f := s1 128 ((24 * a_l) + x_k1)) (a_g := a_g) hl (by omega) (by omega)) mwX8_isOf kw_1268 (by decide) (by decide) rfl (Nat.le_of_ble_eq_true rfl) rfl (Nat.le_of_ble_eq_true rfl) ⟨Nat.le_of_ble_eq_true rfl, Nat.le_of_ble_eq_true rfl⟩ rfl rfl ?_
          show G X 0 0 34 [(11, 0), (0, a_g), (0, a_l), (0, x_n1), (0, x_k1)] [(0, (if (s1 121 (s1 128 ((24 * a_l) + x_k1)) ≠ 0) ∧ ((a_g = (-1)) ∨ (s1 125 (s1 128 ((24 * a_l) + x_k1)) = a_g)) then 1 else 0 : Int)), (0, x_n1)] (m, s1)
          refine g_if_eq h 34 41 (gRi gR_ite) dX8_listed_34 (by decide) (fun h3 => ?_) (fun h3 => ?_)
          · exact J6 (iz_f h3)
          · exact J5 (iz_t h3)
        intro v1 e1
        subst e1
        refine g_iadd h 42 dX8_listed_42 ?_
        refine g_istore_n h 43 dX8_listed_43 (Nat.le_of_ble_eq_true rfl) rfl (L' := [(11, 0), (0, a_g), (0, a_l), (0, x_n1 + (if (s1 121 (s1 128 ((24 * a_l) + x_k1)) ≠ 0) ∧ ((a_g = (-1)) ∨ (s1 125 (s1 128 ((24 * a_l) + x_k1)) = a_g)) then 1 else 0 : Int)), (0, x_k1)]) rfl ?_
        refine g_iinc h 44 dX8_listed_44 rfl rfl (L' := [(11, 0), (0, a_g), (0, a_l), (0, x_n1 + (if (s1 121 (s1 128 ((24 * a_l) + x_k1)) ≠ 0) ∧ ((a_g = (-1)) ∨ (s1 125 (s1 128 ((24 * a_l) + x_k1)) = a_g)) then 1 else 0 : Int)), (0, x_k1 + 1)]) rfl ?_
        refine g_goto h 47 5 dX8_listed_47 (by decide) ?_
        obtain ⟨q3, hF⟩ := gd_some hF
        rw [ek1] at hF
        exact ih1 _ _ _ (by omega) (by omega) hF
      have J3 : ¬ (x_k1 < s1 129 a_l) → G X 0 0 50 [(11, 0), (0, a_g), (0, a_l), (0, x_n1), (0, x_k1)] [] (m, s1) := by
        intro h6
        have hF := ite_f h6 hF
        refine g_iload_n h 50 dX8_listed_50 rfl ?_
        obtain ⟨e1, e2⟩ := some_2 hF
        rw [← e1, ← e2] at hE
        exact g_iret h 51 dX8_listed_51 hE rfl rfl ⟨(Nat.le_of_ble_eq_true rfl), (Nat.le_of_ble_eq_true rfl)⟩
      refine g_iload h 5 dX8_listed_5 rfl ?_
      refine g_aload_nq h 7 dX8_listed_7 rfl rfl ?_
      refine gf_M_many h 8 dX8_listed_8 kw_1035 ?_
      refine g_iload_n h 11 dX8_listed_11 rfl ?_
      refine al_M_many h 12 dX8_listed_12 (by omega) ?_
      refine g_icmp_ge h 13 50 (gRi (by omega)) (gRi (by omega)) dX8_listed_13 (by decide) (fun h1 => ?_) (fun h1 => ?_)
      · exact J3 (Int.not_lt.mpr h1)
      · exact J2 h1
  exact J7 _ _ _ _ (by omega) (by omega) hF
-- PagewrightModel.pagesOf
def FX8_pagesOf (a_g : Int) (s : S2) : Option (Int × S2) :=
  rgd 0 24 <| gd ((-1) ≤ a_g ∧ a_g ≤ 2) <| gl2 1000 (fun k1 (x_n1 : Int) (x_f1 : Int) (s1 : S2) => if x_f1 < 24 then gd ((-2147483648) ≤ x_n1 + (if (s1 121 x_f1 ≠ 0) ∧ ((a_g = (-1)) ∨ (s1 125 x_f1 = a_g)) then 1 else 0 : Int) ∧ x_n1 + (if (s1 121 x_f1 ≠ 0) ∧ ((a_g = (-1)) ∨ (s1 125 x_f1 = a_g)) then 1 else 0 : Int) ≤ 2147483647) <| k1 (x_n1 + (if (s1 121 x_f1 ≠ 0) ∧ ((a_g = (-1)) ∨ (s1 125 x_f1 = a_g)) then 1 else 0 : Int)) (x_f1 + 1) s1 else some (x_n1, s1)) 0 0 s
theorem rgX8_pagesOf {a_g : Int} {s s0 : S2} {r0 : Int} (hF : FX8_pagesOf a_g s = some (r0, s0)) : 0 ≤ r0 ∧ r0 ≤ 24 := (rgd_some hF).2
set_option maxRecDepth 100000 in
set_option maxHeartbeats 4000000 in
theorem ctX8_pagesOf {l : Launch} {w : gW} {bs : Nat} (hl : l.stackTraces = false) {a_g : Int} {s m s0 : S2} {r0 : Int} (hF : FX8_pagesOf a_g s = some (r0, s0)) : gMet l w bs yX8_pagesOf cX8_pagesOf 4 (some FieldType.int) 1 0 [(11, 0), (0, a_g)] (m, s) 0 (some (0, r0)) (m, s0) := by
  unfold FX8_pagesOf at hF
  obtain ⟨hF, hr⟩ := rgd_some hF
  obtain ⟨q_a_g, hF⟩ := gd_some hF
  refine g_start hl (by decide) (Nat.le_of_ble_eq_true rfl) rfl fun X h hE => ?_
  have h : gOk X "PagewrightModel" cX8_pagesOf 4 1 0 0 := h
  have hE : gEnd X l w bs 0 (some FieldType.int) 0 (some (0, r0)) (m, s0) := hE
  show G X 0 0 0 [(11, 0), (0, a_g), (1, 0), (1, 0)] [] (m, s)
  refine g_iconst h 0 dX8_pagesOf_0 ?_
  refine g_istore_n h 1 dX8_pagesOf_1 (Nat.le_of_ble_eq_true rfl) rfl (L' := [(11, 0), (0, a_g), (0, 0), (1, 0)]) rfl ?_
  refine g_iconst h 2 dX8_pagesOf_2 ?_
  refine g_istore_n h 3 dX8_pagesOf_3 (Nat.le_of_ble_eq_true rfl) rfl (L' := [(11, 0), (0, a_g), (0, 0), (0, 0)]) rfl ?_
  obtain ⟨f1, ef1, hF⟩ := glx2 hF
  have J7 : ∀ (n1 : Nat) (x_n1 x_f1 : Int) (s1 : S2), ((-2147483648) ≤ x_n1 ∧ x_n1 ≤ 2147483647) → (0 ≤ x_f1 ∧ x_f1 ≤ 24) → gl2 n1 f1 x_n1 x_f1 s1 = some (r0, s0) → G X 0 0 4 [(11, 0), (0, a_g), (0, x_n1), (0, x_f1)] [] (m, s1) := by
    intro n1
    induction n1 with
    | zero => intro x_n1 x_f1 s1 _ _ hF; exact (gl2_0 hF).elim
    | succ n1 ih1 =>
      intro x_n1 x_f1 s1 q1 q2 hF
      obtain ⟨k1, ek1, hF⟩ := glu2 hF ef1
      have J2 : x_f1 < 24 → G X 0 0 10 [(11, 0), (0, a_g), (0, x_n1), (0, x_f1)] [] (m, s1) := by
        intro h2
        have hF := ite_t h2 hF
        refine G_typ fun hT_s1 => ?_
        have t1 : 0 ≤ s1 121 x_f1 ∧ s1 121 x_f1 ≤ 2 := hT_s1.2 121 x_f1
        have t2 : 0 ≤ s1 125 x_f1 ∧ s1 125 x_f1 ≤ 2 := hT_s1.2 125 x_f1
        refine g_iload_n h 10 dX8_pagesOf_10 rfl ?_
        suffices J4 : ∀ v1 : Int, v1 = (if (s1 121 x_f1 ≠ 0) ∧ ((a_g = (-1)) ∨ (s1 125 x_f1 = a_g)) then 1 else 0 : Int) → G X 0 0 25 [(11, 0), (0, a_g), (0, x_n1), (0, x_f1)] [(0, v1), (0, x_n1)] (m, s1) by
          have J5 : (s1 121 x_f1 ≠ 0) ∧ ((a_g = (-1)) ∨ (s1 125 x_f1 = a_g)) → G X 0 0 20 [(11, 0), (0, a_g), (0, x_n1), (0, x_f1)] [(0, x_n1)] (m, s1) := by
            intro h4
            refine g_iconst h 20 dX8_pagesOf_20 ?_
            refine g_goto h 21 25 dX8_pagesOf_21 (by decide) ?_
            exact J4 _ (if_pos h4).symm
          have J6 : ¬ ((s1 121 x_f1 ≠ 0) ∧ ((a_g = (-1)) ∨ (s1 125 x_f1 = a_g))) → G X 0 0 24 [(11, 0), (0, a_g), (0, x_n1), (0, x_f1)] [(0, x_n1)] (m, s1) := by
            intro h5
            refine g_iconst h 24 dX8_pagesOf_24 ?_
            exact J4 _ (if_neg h5).symm
          refine g_aload_nq h 11 dX8_pagesOf_11 rfl rfl ?_
          refine g_iload_n h 12 dX8_pagesOf_12 rfl ?_
          refine g_iload_n h 13 dX8_pagesOf_13 rfl ?_
          refine g_callV h hE 14 dX8_pagesOf_14 (cpX8_isOf (a_f := x_f1) (a_g := a_g) hl (by omega) (by omega)) mwX8_isOf kw_1268 (by decide) (by decide) rfl (Nat.le_of_ble_eq_true rfl) rfl (Nat.le_of_ble_eq_true rfl) ⟨Nat.le_of_ble_eq_true rfl, Nat.le_of_ble_eq_true rfl⟩ rfl rfl ?_
          show G X 0 0 17 [(11, 0), (0, a_g), (0, x_n1), (0, x_f1)] [(0, (if (s1 121 x_f1 ≠ 0) ∧ ((a_g = (-1)) ∨ (s1 125 x_f1 = a_g)) then 1 else 0 : Int)), (0, x_n1)] (m, s1)
          refine g_if_eq h 17 24 (gRi gR_ite) dX8_pagesOf_17 (by decide) (fun h3 => ?_) (fun h3 => ?_)
          · exact J6 (iz_f h3)
          · exact J5 (iz_t h3)
        intro v1 e1
        subst e1
        refine g_iadd h 25 dX8_pagesOf_25 ?_
        refine g_istore_n h 26 dX8_pagesOf_26 (Nat.le_of_ble_eq_true rfl) rfl (L' := [(11, 0), (0, a_g), (0, x_n1 + (if (s1 121 x_f1 ≠ 0) ∧ ((a_g = (-1)) ∨ (s1 125 x_f1 = a_g)) then 1 else 0 : Int)), (0, x_f1)]) rfl ?_
        refine g_iinc h 27 dX8_pagesOf_27 rfl rfl (L' := [(11, 0), (0, a_g), (0, x_n1 + (if (s1 121 x_f1 ≠ 0) ∧ ((a_g = (-1)) ∨ (s1 125 x_f1 = a_g)) then 1 else 0 : Int)), (0, x_f1 + 1)]) rfl ?_
        refine g_goto h 30 4 dX8_pagesOf_30 (by decide) ?_
        obtain ⟨q3, hF⟩ := gd_some hF
        rw [ek1] at hF
        exact ih1 _ _ _ (by omega) (by omega) hF
      have J3 : ¬ (x_f1 < 24) → G X 0 0 33 [(11, 0), (0, a_g), (0, x_n1), (0, x_f1)] [] (m, s1) := by
        intro h6
        have hF := ite_f h6 hF
        refine g_iload_n h 33 dX8_pagesOf_33 rfl ?_
        obtain ⟨e1, e2⟩ := some_2 hF
        rw [← e1, ← e2] at hE
        exact g_iret h 34 dX8_pagesOf_34 hE rfl rfl ⟨(Nat.le_of_ble_eq_true rfl), (Nat.le_of_ble_eq_true rfl)⟩
      refine g_iload_n h 4 dX8_pagesOf_4 rfl ?_
      refine g_bipush h 5 dX8_pagesOf_5 (by decide) ?_
      refine g_icmp_ge h 7 33 (gRi (by omega)) (gRi (by omega)) dX8_pagesOf_7 (by decide) (fun h1 => ?_) (fun h1 => ?_)
      · exact J3 (Int.not_lt.mpr h1)
      · exact J2 h1
  exact J7 _ _ _ _ (by omega) (by omega) hF
-- PagewrightModel.puts
def FX8_puts (a_f a_its a_v a_g a_l : Int) (s : S2) : Option (Int × S2) :=
  gd (0 ≤ a_f ∧ a_f ≤ 23) <| gd (0 ≤ a_its ∧ a_its ≤ 2) <| gd (0 ≤ a_v ∧ a_v ≤ 99999) <| gd (0 ≤ a_g ∧ a_g ≤ 2) <| gd (0 ≤ a_l ∧ a_l ≤ 1) <| bn (upd2 s 121 a_f a_its) fun s1 => bn (upd2 s1 122 a_f a_v) fun s2 => bn (upd2 s2 125 a_f a_g) fun s3 => bn (upd2 s3 126 a_f 0) fun s4 => bn (upd2 s4 124 a_f 0) fun s5 => bn (upd2 s5 127 a_f (-1)) fun s6 => cb (FX8_enlist a_f a_l s6) fun r1 s7 => some (0, s7)
set_option maxRecDepth 100000 in
set_option maxHeartbeats 4000000 in
theorem ctX8_puts {l : Launch} {w : gW} {bs : Nat} (hl : l.stackTraces = false) {a_f a_its a_v a_g a_l : Int} {s m s0 : S2} {r0 : Int} (hF : FX8_puts a_f a_its a_v a_g a_l s = some (r0, s0)) : gMet l w bs yX8_puts cX8_puts 6 none 1 0 [(11, 0), (0, a_f), (0, a_its), (0, a_v), (0, a_g), (0, a_l)] (m, s) 0 none (m, s0) := by
  unfold FX8_puts at hF
  obtain ⟨q_a_f, hF⟩ := gd_some hF
  obtain ⟨q_a_its, hF⟩ := gd_some hF
  obtain ⟨q_a_v, hF⟩ := gd_some hF
  obtain ⟨q_a_g, hF⟩ := gd_some hF
  obtain ⟨q_a_l, hF⟩ := gd_some hF
  refine g_start hl (by decide) (Nat.le_of_ble_eq_true rfl) rfl fun X h hE => ?_
  have h : gOk X "PagewrightModel" cX8_puts 6 1 0 0 := h
  have hE : gEnd X l w bs 0 none 0 none (m, s0) := hE
  show G X 0 0 0 [(11, 0), (0, a_f), (0, a_its), (0, a_v), (0, a_g), (0, a_l)] [] (m, s)
  refine g_aload_nq h 0 dX8_puts_0 rfl rfl ?_
  refine gf_M_kind h 1 dX8_puts_1 kw_1027 ?_
  refine g_iload_n h 4 dX8_puts_4 rfl ?_
  refine g_iload_n h 5 dX8_puts_5 rfl ?_
  obtain ⟨s1, es1, hF⟩ := bn_ex hF
  refine as_M_kind h 6 dX8_puts_6 (by omega) (by omega) ?_
  rw [← es1]
  refine g_aload_nq h 7 dX8_puts_7 rfl rfl ?_
  refine gf_M_value h 8 dX8_puts_8 kw_1028 ?_
  refine g_iload_n h 11 dX8_puts_11 rfl ?_
  refine g_iload_n h 12 dX8_puts_12 rfl ?_
  obtain ⟨s2, es2, hF⟩ := bn_ex hF
  refine as_M_value h 13 dX8_puts_13 (by omega) (by omega) ?_
  rw [← es2]
  refine g_aload_nq h 14 dX8_puts_14 rfl rfl ?_
  refine gf_M_owner h 15 dX8_puts_15 kw_1031 ?_
  refine g_iload_n h 18 dX8_puts_18 rfl ?_
  refine g_iload h 19 dX8_puts_19 rfl ?_
  obtain ⟨s3, es3, hF⟩ := bn_ex hF
  refine as_M_owner h 21 dX8_puts_21 (by omega) (by omega) ?_
  rw [← es3]
  refine g_aload_nq h 22 dX8_puts_22 rfl rfl ?_
  refine gf_M_mark h 23 dX8_puts_23 kw_1032 ?_
  refine g_iload_n h 26 dX8_puts_26 rfl ?_
  refine g_iconst h 27 dX8_puts_27 ?_
  obtain ⟨s4, es4, hF⟩ := bn_ex hF
  refine as_M_mark h 28 dX8_puts_28 (by omega) (by omega) ?_
  rw [← es4]
  refine g_aload_nq h 29 dX8_puts_29 rfl rfl ?_
  refine gf_M_seen h 30 dX8_puts_30 kw_1030 ?_
  refine g_iload_n h 33 dX8_puts_33 rfl ?_
  refine g_iconst h 34 dX8_puts_34 ?_
  obtain ⟨s5, es5, hF⟩ := bn_ex hF
  refine as_M_seen h 35 dX8_puts_35 (by omega) (by omega) ?_
  rw [← es5]
  refine g_aload_nq h 36 dX8_puts_36 rfl rfl ?_
  refine gf_M_key h 37 dX8_puts_37 kw_1033 ?_
  refine g_iload_n h 40 dX8_puts_40 rfl ?_
  refine g_iconst h 41 dX8_puts_41 ?_
  obtain ⟨s6, es6, hF⟩ := bn_ex hF
  refine as_M_key h 42 dX8_puts_42 (by omega) (by omega) ?_
  rw [← es6]
  refine g_aload_nq h 43 dX8_puts_43 rfl rfl ?_
  refine g_iload_n h 44 dX8_puts_44 rfl ?_
  refine g_iload h 45 dX8_puts_45 rfl ?_
  obtain ⟨r1, s7, c1, hF⟩ := cb_some hF
  refine g_callV h hE 47 dX8_puts_47 (ctX8_enlist hl c1) mwX8_enlist kw_1324 (by decide) (by decide) rfl (Nat.le_of_ble_eq_true rfl) rfl (Nat.le_of_ble_eq_true rfl) ⟨Nat.le_of_ble_eq_true rfl, Nat.le_of_ble_eq_true rfl⟩ rfl rfl ?_
  show G X 0 0 50 [(11, 0), (0, a_f), (0, a_its), (0, a_v), (0, a_g), (0, a_l)] [] (m, s7)
  obtain ⟨e1, e2⟩ := some_2 hF
  rw [← e2] at hE
  exact g_vret h 50 dX8_puts_50 hE rfl ⟨(Nat.le_of_ble_eq_true rfl), (Nat.le_of_ble_eq_true rfl)⟩
-- PagewrightModel.records
def FX8_records (a_v : Int) (s : S2) : Option (Int × S2) :=
  rgd (-1) 17 <| gd (0 ≤ a_v ∧ a_v ≤ 99999) <| gl0 1000 (fun k1  (s1 : S2) => bn (fun (s2 : S2) => cb (FX8_oldest s2) fun r6 s15 => gd (0 ≤ r6 ∧ r6 ≤ 17) <| cb (FX8_freePlace s15) fun r7 s16 => bn (upd2 s16 132 r6 r7) fun s17 => k1 s17) fun k2 => bn (fun (s3 : S2) => bn (fun (v3 : Int) (s7 : S2) => gl1 1000 (fun k5 (x_r1 : Int) (s10 : S2) => if (x_r1 < 18) ∧ (v3 ≠ (-1)) then if s10 132 x_r1 = (-1) then gd ((-1) ≤ v3 ∧ v3 ≤ 10) <| bn (upd2 s10 132 x_r1 v3) fun s11 => bn (upd2 s11 133 x_r1 a_v) fun s12 => bn (upd2 s12 134 x_r1 (s12 103 0)) fun s13 => bn (upd2 s13 103 0 ((s13 103 0) + 1)) fun s14 => some (x_r1, s14) else k5 (x_r1 + 1) s10 else some ((-1), s10)) 0 s7) fun k4 => cb (FX8_used s3) fun r4 s8 => gd ((-2147483648) ≤ r4 + (if a_v < 100 then 1 else (if a_v < 10000 then 2 else 9 : Int) : Int) ∧ r4 + (if a_v < 100 then 1 else (if a_v < 10000 then 2 else 9 : Int) : Int) ≤ 2147483647) <| if r4 + (if a_v < 100 then 1 else (if a_v < 10000 then 2 else 9 : Int) : Int) ≤ 8 then k4 10 s8 else cb (FX8_freePlace s8) fun r5 s9 => k4 r5 s9) fun k3 => gd ((-2147483648) ≤ (if a_v < 100 then 1 else (if a_v < 10000 then 2 else 9 : Int) : Int) ∧ (if a_v < 100 then 1 else (if a_v < 10000 then 2 else 9 : Int) : Int) ≤ 2147483647) <| if (if a_v < 100 then 1 else (if a_v < 10000 then 2 else 9 : Int) : Int) ≤ 8 then cb (FX8_used s1) fun r1 s4 => if 8 < r1 + (if a_v < 100 then 1 else (if a_v < 10000 then 2 else 9 : Int) : Int) then cb (FX8_oldest s4) fun r2 s5 => if r2 ≠ (-1) then cb (FX8_freePlace s5) fun r3 s6 => if r3 ≠ (-1) then k2 s6 else k3 s6 else k3 s5 else k3 s4 else k3 s1) s
theorem rgX8_records {a_v : Int} {s s0 : S2} {r0 : Int} (hF : FX8_records a_v s = some (r0, s0)) : (-1) ≤ r0 ∧ r0 ≤ 17 := (rgd_some hF).2
set_option maxRecDepth 100000 in
set_option maxHeartbeats 4000000 in
theorem ctX8_records {l : Launch} {w : gW} {bs : Nat} (hl : l.stackTraces = false) {a_v : Int} {s m s0 : S2} {r0 : Int} (hF : FX8_records a_v s = some (r0, s0)) : gMet l w bs yX8_records cX8_records 5 (some FieldType.int) 1 0 [(11, 0), (0, a_v)] (m, s) 0 (some (0, r0)) (m, s0) := by
  unfold FX8_records at hF
  obtain ⟨hF, hr⟩ := rgd_some hF
  obtain ⟨q_a_v, hF⟩ := gd_some hF
  refine g_start hl (by decide) (Nat.le_of_ble_eq_true rfl) rfl fun X h hE => ?_
  have h : gOk X "PagewrightModel" cX8_records 5 1 0 0 := h
  have hE : gEnd X l w bs 0 (some FieldType.int) 0 (some (0, r0)) (m, s0) := hE
  show G X 0 0 0 [(11, 0), (0, a_v), (1, 0), (1, 0), (1, 0)] [] (m, s)
  suffices J1 : ∀ v2 : Int, v2 = (if a_v < 100 then 1 else (if a_v < 10000 then 2 else 9 : Int) : Int) → G X 0 0 23 [(11, 0), (0, a_v), (1, 0), (1, 0), (1, 0)] [(0, v2)] (m, s) by
    have J2 : a_v < 100 → G X 0 0 6 [(11, 0), (0, a_v), (1, 0), (1, 0), (1, 0)] [] (m, s) := by
      intro h2
      refine g_iconst h 6 dX8_records_6 ?_
      refine g_goto h 7 23 dX8_records_7 (by decide) ?_
      exact J1 _ (if_pos h2).symm
    have J3 : ¬ (a_v < 100) → G X 0 0 10 [(11, 0), (0, a_v), (1, 0), (1, 0), (1, 0)] [] (m, s) := by
      intro h3
      suffices J4 : ∀ v1 : Int, v1 = (if a_v < 10000 then 2 else 9 : Int) → G X 0 0 23 [(11, 0), (0, a_v), (1, 0), (1, 0), (1, 0)] [(0, v1)] (m, s) by
        have J5 : a_v < 10000 → G X 0 0 17 [(11, 0), (0, a_v), (1, 0), (1, 0), (1, 0)] [] (m, s) := by
          intro h5
          refine g_iconst h 17 dX8_records_17 ?_
          refine g_goto h 18 23 dX8_records_18 (by decide) ?_
          exact J4 _ (if_pos h5).symm
        have J6 : ¬ (a_v < 10000) → G X 0 0 21 [(11, 0), (0, a_v), (1, 0), (1, 0), (1, 0)] [] (m, s) := by
          intro h6
          refine g_bipush h 21 dX8_records_21 (by decide) ?_
          exact J4 _ (if_neg h6).symm
        refine g_iload_n h 10 dX8_records_10 rfl ?_
        refine g_sipush h 11 dX8_records_11 (by decide) ?_
        refine g_icmp_ge h 14 21 (gRi (by omega)) (gRi (by omega)) dX8_records_14 (by decide) (fun h4 => ?_) (fun h4 => ?_)
        · exact J6 (Int.not_lt.mpr h4)
        · exact J5 h4
      intro v1 e1
      subst e1
      exact J1 _ (if_neg h3).symm
    refine g_iload_n h 0 dX8_records_0 rfl ?_
    refine g_bipush h 1 dX8_records_1 (by decide) ?_
    refine g_icmp_ge h 3 10 (gRi (by omega)) (gRi (by omega)) dX8_records_3 (by decide) (fun h1 => ?_) (fun h1 => ?_)
    · exact J3 (Int.not_lt.mpr h1)
    · exact J2 h1
  intro v2 e2
  subst e2
  refine g_istore_n h 23 dX8_records_23 (Nat.le_of_ble_eq_true rfl) rfl (L' := [(11, 0), (0, a_v), (0, (if a_v < 100 then 1 else (if a_v < 10000 then 2 else 9 : Int) : Int)), (1, 0), (1, 0)]) rfl ?_
  obtain ⟨f1, ef1, hF⟩ := glx0 hF
  have J19 : ∀ (n1 : Nat) (s1 : S2), gl0 n1 f1 s1 = some (r0, s0) → G X 0 0 24 [(11, 0), (0, a_v), (0, (if a_v < 100 then 1 else (if a_v < 10000 then 2 else 9 : Int) : Int)), (1, 0), (1, 0)] [] (m, s1) := by
    intro n1
    induction n1 with
    | zero => intro s1 hF; exact (gl0_0 hF).elim
    | succ n1 ih1 =>
      intro s1 hF
      obtain ⟨k1, ek1, hF⟩ := glu0 hF ef1
      obtain ⟨k2, ek2, hF⟩ := bn_ex hF
      have J8 : ∀ (s2 : S2), k2 s2 = some (r0, s0) → G X 0 0 57 [(11, 0), (0, a_v), (0, (if a_v < 100 then 1 else (if a_v < 10000 then 2 else 9 : Int) : Int)), (1, 0), (1, 0)] [] (m, s2) := by
        intro s2 hF
        rw [ek2] at hF
        refine g_aload_nq h 57 dX8_records_57 rfl rfl ?_
        refine gf_M_place h 58 dX8_records_58 kw_1038 ?_
        refine g_aload_nq h 61 dX8_records_61 rfl rfl ?_
        obtain ⟨r6, s15, c6, hF⟩ := cb_some hF
        have t7 : (-1) ≤ r6 ∧ r6 ≤ 17 := rgX8_oldest c6
        refine g_callV h hE 62 dX8_records_62 (ctX8_oldest hl c6) mwX8_oldest kw_1340 (by decide) (by decide) rfl (Nat.le_of_ble_eq_true rfl) rfl (Nat.le_of_ble_eq_true rfl) ⟨Nat.le_of_ble_eq_true rfl, Nat.le_of_ble_eq_true rfl⟩ rfl rfl ?_
        show G X 0 0 65 [(11, 0), (0, a_v), (0, (if a_v < 100 then 1 else (if a_v < 10000 then 2 else 9 : Int) : Int)), (1, 0), (1, 0)] [(0, r6), (50, 0)] (m, s15)
        obtain ⟨q6, hF⟩ := gd_some hF
        refine g_aload_nq h 65 dX8_records_65 rfl rfl ?_
        obtain ⟨r7, s16, c7, hF⟩ := cb_some hF
        have t8 : (-1) ≤ r7 ∧ r7 ≤ 9 := rgX8_freePlace c7
        refine g_callV h hE 66 dX8_records_66 (ctX8_freePlace hl c7) mwX8_freePlace kw_1344 (by decide) (by decide) rfl (Nat.le_of_ble_eq_true rfl) rfl (Nat.le_of_ble_eq_true rfl) ⟨Nat.le_of_ble_eq_true rfl, Nat.le_of_ble_eq_true rfl⟩ rfl rfl ?_
        show G X 0 0 69 [(11, 0), (0, a_v), (0, (if a_v < 100 then 1 else (if a_v < 10000 then 2 else 9 : Int) : Int)), (1, 0), (1, 0)] [(0, r7), (0, r6), (50, 0)] (m, s16)
        obtain ⟨s17, es17, hF⟩ := bn_ex hF
        refine as_M_place h 69 dX8_records_69 (by omega) (by omega) ?_
        rw [← es17]
        refine g_goto h 70 24 dX8_records_70 (by decide) ?_
        rw [ek1] at hF
        exact ih1 _ hF
      obtain ⟨k3, ek3, hF⟩ := bn_ex hF
      have J9 : ∀ (s3 : S2), k3 s3 = some (r0, s0) → G X 0 0 73 [(11, 0), (0, a_v), (0, (if a_v < 100 then 1 else (if a_v < 10000 then 2 else 9 : Int) : Int)), (1, 0), (1, 0)] [] (m, s3) := by
        intro s3 hF
        rw [ek3] at hF
        obtain ⟨k4, ek4, hF⟩ := bn_ex hF
        have J12 : ∀ (v3 : Int) (s7 : S2), ((-2147483648) ≤ v3 ∧ v3 ≤ 2147483647) → k4 v3 s7 = some (r0, s0) → G X 0 0 93 [(11, 0), (0, a_v), (0, (if a_v < 100 then 1 else (if a_v < 10000 then 2 else 9 : Int) : Int)), (1, 0), (1, 0)] [(0, v3)] (m, s7) := by
          intro v3 s7 q3 hF
          rw [ek4] at hF
          refine g_istore_n h 93 dX8_records_93 (Nat.le_of_ble_eq_true rfl) rfl (L' := [(11, 0), (0, a_v), (0, (if a_v < 100 then 1 else (if a_v < 10000 then 2 else 9 : Int) : Int)), (0, v3), (1, 0)]) rfl ?_
          refine g_iconst h 94 dX8_records_94 ?_
          refine g_istore h 95 dX8_records_95 (Nat.le_of_ble_eq_true rfl) rfl (L' := [(11, 0), (0, a_v), (0, (if a_v < 100 then 1 else (if a_v < 10000 then 2 else 9 : Int) : Int)), (0, v3), (0, 0)]) rfl ?_
          obtain ⟨f2, ef2, hF⟩ := glx1 hF
          have J18 : ∀ (n2 : Nat) (x_r1 : Int) (s10 : S2), (0 ≤ x_r1 ∧ x_r1 ≤ 18) → gl1 n2 f2 x_r1 s10 = some (r0, s0) → G X 0 0 97 [(11, 0), (0, a_v), (0, (if a_v < 100 then 1 else (if a_v < 10000 then 2 else 9 : Int) : Int)), (0, v3), (0, x_r1)] [] (m, s10) := by
            intro n2
            induction n2 with
            | zero => intro x_r1 s10 _ hF; exact (gl1_0 hF).elim
            | succ n2 ih2 =>
              intro x_r1 s10 q4 hF
              obtain ⟨k5, ek5, hF⟩ := glu1 hF ef2
              have J14 : (x_r1 < 18) ∧ (v3 ≠ (-1)) → G X 0 0 109 [(11, 0), (0, a_v), (0, (if a_v < 100 then 1 else (if a_v < 10000 then 2 else 9 : Int) : Int)), (0, v3), (0, x_r1)] [] (m, s10) := by
                intro h16
                have hF := ite_t h16 hF
                refine G_typ fun hT_s10 => ?_
                have t6 : (-1) ≤ s10 132 x_r1 ∧ s10 132 x_r1 ≤ 10 := hT_s10.2 132 x_r1
                have J16 : s10 132 x_r1 = (-1) → G X 0 0 120 [(11, 0), (0, a_v), (0, (if a_v < 100 then 1 else (if a_v < 10000 then 2 else 9 : Int) : Int)), (0, v3), (0, x_r1)] [] (m, s10) := by
                  intro h18
                  have hF := ite_t h18 hF
                  refine g_aload_nq h 120 dX8_records_120 rfl rfl ?_
                  refine gf_M_place h 121 dX8_records_121 kw_1038 ?_
                  refine g_iload h 124 dX8_records_124 rfl ?_
                  refine g_iload_n h 126 dX8_records_126 rfl ?_
                  obtain ⟨q5, hF⟩ := gd_some hF
                  obtain ⟨s11, es11, hF⟩ := bn_ex hF
                  refine as_M_place h 127 dX8_records_127 (by omega) (by omega) ?_
                  rw [← es11]
                  refine g_aload_nq h 128 dX8_records_128 rfl rfl ?_
                  refine gf_M_kept h 129 dX8_records_129 kw_1039 ?_
                  refine g_iload h 132 dX8_records_132 rfl ?_
                  refine g_iload_n h 134 dX8_records_134 rfl ?_
                  obtain ⟨s12, es12, hF⟩ := bn_ex hF
                  refine as_M_kept h 135 dX8_records_135 (by omega) (by omega) ?_
                  rw [← es12]
                  refine g_aload_nq h 136 dX8_records_136 rfl rfl ?_
                  refine gf_M_came h 137 dX8_records_137 kw_1040 ?_
                  refine g_iload h 140 dX8_records_140 rfl ?_
                  refine g_aload_nq h 142 dX8_records_142 rfl rfl ?_
                  refine gf_M_comes h 143 dX8_records_143 kw_1041 ?_
                  obtain ⟨s13, es13, hF⟩ := bn_ex hF
                  refine as_M_came h 146 dX8_records_146 (by omega) ?_
                  rw [← es13]
                  refine g_aload_nq h 147 dX8_records_147 rfl rfl ?_
                  refine g_dup h 148 dX8_records_148 (show (11 : Nat) ≠ 2 by decide) ?_
                  refine gf_M_comes h 149 dX8_records_149 kw_1041 ?_
                  refine g_iconst h 152 dX8_records_152 ?_
                  refine g_iadd h 153 dX8_records_153 ?_
                  obtain ⟨s14, es14, hF⟩ := bn_ex hF
                  refine pf_M_comes h 154 dX8_records_154 kw_1041 ?_
                  rw [← es14]
                  refine g_iload h 157 dX8_records_157 rfl ?_
                  obtain ⟨e1, e2⟩ := some_2 hF
                  rw [← e1, ← e2] at hE
                  exact g_iret h 159 dX8_records_159 hE rfl rfl ⟨(Nat.le_of_ble_eq_true rfl), (Nat.le_of_ble_eq_true rfl)⟩
                have J17 : ¬ (s10 132 x_r1 = (-1)) → G X 0 0 160 [(11, 0), (0, a_v), (0, (if a_v < 100 then 1 else (if a_v < 10000 then 2 else 9 : Int) : Int)), (0, v3), (0, x_r1)] [] (m, s10) := by
                  intro h19
                  have hF := ite_f h19 hF
                  refine g_iinc h 160 dX8_records_160 rfl rfl (L' := [(11, 0), (0, a_v), (0, (if a_v < 100 then 1 else (if a_v < 10000 then 2 else 9 : Int) : Int)), (0, v3), (0, x_r1 + 1)]) rfl ?_
                  refine g_goto h 163 97 dX8_records_163 (by decide) ?_
                  rw [ek5] at hF
                  exact ih2 _ _ (by omega) hF
                refine g_aload_nq h 109 dX8_records_109 rfl rfl ?_
                refine gf_M_place h 110 dX8_records_110 kw_1038 ?_
                refine g_iload h 113 dX8_records_113 rfl ?_
                refine al_M_place h 115 dX8_records_115 (by omega) ?_
                refine g_iconst h 116 dX8_records_116 ?_
                refine g_icmp_ne h 117 160 (gRi (by omega)) (gRi (by omega)) dX8_records_117 (by decide) (fun h17 => ?_) (fun h17 => ?_)
                · exact J17 h17
                · exact J16 h17
              have J15 : ¬ ((x_r1 < 18) ∧ (v3 ≠ (-1))) → G X 0 0 166 [(11, 0), (0, a_v), (0, (if a_v < 100 then 1 else (if a_v < 10000 then 2 else 9 : Int) : Int)), (0, v3), (0, x_r1)] [] (m, s10) := by
                intro h20
                have hF := ite_f h20 hF
                refine g_iconst h 166 dX8_records_166 ?_
                obtain ⟨e1, e2⟩ := some_2 hF
                rw [← e1, ← e2] at hE
                exact g_iret h 167 dX8_records_167 hE rfl rfl ⟨(Nat.le_of_ble_eq_true rfl), (Nat.le_of_ble_eq_true rfl)⟩
              refine g_iload h 97 dX8_records_97 rfl ?_
              refine g_bipush h 99 dX8_records_99 (by decide) ?_
              refine g_icmp_ge h 101 166 (gRi (by omega)) (gRi (by omega)) dX8_records_101 (by decide) (fun h14 => ?_) (fun h14 => ?_)
              · exact J15 (fun q => (Int.not_lt.mpr h14) q.1)
              · refine g_iload_n h 104 dX8_records_104 rfl ?_
                refine g_iconst h 105 dX8_records_105 ?_
                refine g_icmp_eq h 106 166 (gRi (by omega)) (gRi (by omega)) dX8_records_106 (by decide) (fun h15 => ?_) (fun h15 => ?_)
                · exact J15 (fun q => (fun q => q h15) q.2)
                · exact J14 ⟨h14, h15⟩
          exact J18 _ _ _ (by omega) hF
        refine g_aload_nq h 73 dX8_records_73 rfl rfl ?_
        obtain ⟨r4, s8, c4, hF⟩ := cb_some hF
        have t4 : 0 ≤ r4 ∧ r4 ≤ 36 := rgX8_used c4
        refine g_callV h hE 74 dX8_records_74 (ctX8_used hl c4) mwX8_used kw_1336 (by decide) (by decide) rfl (Nat.le_of_ble_eq_true rfl) rfl (Nat.le_of_ble_eq_true rfl) ⟨Nat.le_of_ble_eq_true rfl, Nat.le_of_ble_eq_true rfl⟩ rfl rfl ?_
        show G X 0 0 77 [(11, 0), (0, a_v), (0, (if a_v < 100 then 1 else (if a_v < 10000 then 2 else 9 : Int) : Int)), (1, 0), (1, 0)] [(0, r4)] (m, s8)
        refine g_iload_n h 77 dX8_records_77 rfl ?_
        refine g_iadd h 78 dX8_records_78 ?_
        refine g_bipush h 79 dX8_records_79 (by decide) ?_
        obtain ⟨q2, hF⟩ := gd_some hF
        refine g_icmp_gt h 81 89 (gRi (by omega)) (gRi (by omega)) dX8_records_81 (by decide) (fun h13 => ?_) (fun h13 => ?_)
        · have hF := ite_f (Int.not_le.mpr h13) hF
          refine g_aload_nq h 89 dX8_records_89 rfl rfl ?_
          obtain ⟨r5, s9, c5, hF⟩ := cb_some hF
          have t5 : (-1) ≤ r5 ∧ r5 ≤ 9 := rgX8_freePlace c5
          refine g_callV h hE 90 dX8_records_90 (ctX8_freePlace hl c5) mwX8_freePlace kw_1344 (by decide) (by decide) rfl (Nat.le_of_ble_eq_true rfl) rfl (Nat.le_of_ble_eq_true rfl) ⟨Nat.le_of_ble_eq_true rfl, Nat.le_of_ble_eq_true rfl⟩ rfl rfl ?_
          show G X 0 0 93 [(11, 0), (0, a_v), (0, (if a_v < 100 then 1 else (if a_v < 10000 then 2 else 9 : Int) : Int)), (1, 0), (1, 0)] [(0, r5)] (m, s9)
          exact J12 _ _ (by omega) hF
        · have hF := ite_t h13 hF
          refine g_bipush h 84 dX8_records_84 (by decide) ?_
          refine g_goto h 86 93 dX8_records_86 (by decide) ?_
          exact J12 _ _ (by omega) hF
      obtain ⟨q1, hF⟩ := gd_some hF
      have J10 : (if a_v < 100 then 1 else (if a_v < 10000 then 2 else 9 : Int) : Int) ≤ 8 → G X 0 0 30 [(11, 0), (0, a_v), (0, (if a_v < 100 then 1 else (if a_v < 10000 then 2 else 9 : Int) : Int)), (1, 0), (1, 0)] [] (m, s1) := by
        intro h8
        have hF := ite_t h8 hF
        refine g_aload_nq h 30 dX8_records_30 rfl rfl ?_
        obtain ⟨r1, s4, c1, hF⟩ := cb_some hF
        have t1 : 0 ≤ r1 ∧ r1 ≤ 36 := rgX8_used c1
        refine g_callV h hE 31 dX8_records_31 (ctX8_used hl c1) mwX8_used kw_1336 (by decide) (by decide) rfl (Nat.le_of_ble_eq_true rfl) rfl (Nat.le_of_ble_eq_true rfl) ⟨Nat.le_of_ble_eq_true rfl, Nat.le_of_ble_eq_true rfl⟩ rfl rfl ?_
        show G X 0 0 34 [(11, 0), (0, a_v), (0, (if a_v < 100 then 1 else (if a_v < 10000 then 2 else 9 : Int) : Int)), (1, 0), (1, 0)] [(0, r1)] (m, s4)
        refine g_iload_n h 34 dX8_records_34 rfl ?_
        refine g_iadd h 35 dX8_records_35 ?_
        refine g_bipush h 36 dX8_records_36 (by decide) ?_
        refine g_icmp_le h 38 73 (gRi (by omega)) (gRi (by omega)) dX8_records_38 (by decide) (fun h9 => ?_) (fun h9 => ?_)
        · have hF := ite_f (Int.not_lt.mpr h9) hF
          exact J9 _ hF
        · have hF := ite_t h9 hF
          refine g_aload_nq h 41 dX8_records_41 rfl rfl ?_
          obtain ⟨r2, s5, c2, hF⟩ := cb_some hF
          have t2 : (-1) ≤ r2 ∧ r2 ≤ 17 := rgX8_oldest c2
          refine g_callV h hE 42 dX8_records_42 (ctX8_oldest hl c2) mwX8_oldest kw_1340 (by decide) (by decide) rfl (Nat.le_of_ble_eq_true rfl) rfl (Nat.le_of_ble_eq_true rfl) ⟨Nat.le_of_ble_eq_true rfl, Nat.le_of_ble_eq_true rfl⟩ rfl rfl ?_
          show G X 0 0 45 [(11, 0), (0, a_v), (0, (if a_v < 100 then 1 else (if a_v < 10000 then 2 else 9 : Int) : Int)), (1, 0), (1, 0)] [(0, r2)] (m, s5)
          refine g_iconst h 45 dX8_records_45 ?_
          refine g_icmp_eq h 46 73 (gRi (by omega)) (gRi (by omega)) dX8_records_46 (by decide) (fun h10 => ?_) (fun h10 => ?_)
          · have hF := ite_f (fun q => q h10) hF
            exact J9 _ hF
          · have hF := ite_t h10 hF
            refine g_aload_nq h 49 dX8_records_49 rfl rfl ?_
            obtain ⟨r3, s6, c3, hF⟩ := cb_some hF
            have t3 : (-1) ≤ r3 ∧ r3 ≤ 9 := rgX8_freePlace c3
            refine g_callV h hE 50 dX8_records_50 (ctX8_freePlace hl c3) mwX8_freePlace kw_1344 (by decide) (by decide) rfl (Nat.le_of_ble_eq_true rfl) rfl (Nat.le_of_ble_eq_true rfl) ⟨Nat.le_of_ble_eq_true rfl, Nat.le_of_ble_eq_true rfl⟩ rfl rfl ?_
            show G X 0 0 53 [(11, 0), (0, a_v), (0, (if a_v < 100 then 1 else (if a_v < 10000 then 2 else 9 : Int) : Int)), (1, 0), (1, 0)] [(0, r3)] (m, s6)
            refine g_iconst h 53 dX8_records_53 ?_
            refine g_icmp_eq h 54 73 (gRi (by omega)) (gRi (by omega)) dX8_records_54 (by decide) (fun h11 => ?_) (fun h11 => ?_)
            · have hF := ite_f (fun q => q h11) hF
              exact J9 _ hF
            · have hF := ite_t h11 hF
              exact J8 _ hF
      have J11 : ¬ ((if a_v < 100 then 1 else (if a_v < 10000 then 2 else 9 : Int) : Int) ≤ 8) → G X 0 0 73 [(11, 0), (0, a_v), (0, (if a_v < 100 then 1 else (if a_v < 10000 then 2 else 9 : Int) : Int)), (1, 0), (1, 0)] [] (m, s1) := by
        intro h12
        have hF := ite_f h12 hF
        exact J9 _ hF
      refine g_iload_n h 24 dX8_records_24 rfl ?_
      refine g_bipush h 25 dX8_records_25 (by decide) ?_
      refine g_icmp_gt h 27 73 (gRi (by omega)) (gRi (by omega)) dX8_records_27 (by decide) (fun h7 => ?_) (fun h7 => ?_)
      · exact J11 (Int.not_le.mpr h7)
      · exact J10 h7
  exact J19 _ _ hF
-- PagewrightModel.regionsOf
def FX8_regionsOf (a_s : Int) (s : S2) : Option (Int × S2) :=
  rgd 0 32 <| gd (0 ≤ a_s ∧ a_s ≤ 5) <| gl2 1000 (fun k1 (x_n1 : Int) (x_a1 : Int) (s1 : S2) => if x_a1 < 32 then gd (0 ≤ (32 * a_s) + x_a1 ∧ (32 * a_s) + x_a1 ≤ 191) <| gd ((0 < s1 111 ((32 * a_s) + x_a1)) ∧ (¬ (x_a1 = 0)) → 0 ≤ ((32 * a_s) + x_a1) - 1 ∧ ((32 * a_s) + x_a1) - 1 ≤ 191) <| gd ((0 < s1 111 ((32 * a_s) + x_a1)) ∧ (¬ ((x_a1 = 0) ∨ (s1 111 (((32 * a_s) + x_a1) - 1) = 0))) → 0 ≤ ((32 * a_s) + x_a1) - 1 ∧ ((32 * a_s) + x_a1) - 1 ≤ 191) <| gd ((-2147483648) ≤ x_n1 + (if (0 < s1 111 ((32 * a_s) + x_a1)) ∧ (((x_a1 = 0) ∨ (s1 111 (((32 * a_s) + x_a1) - 1) = 0)) ∨ (¬ ((((s1 111 (((32 * a_s) + x_a1) - 1) = s1 111 ((32 * a_s) + x_a1)) ∧ (s1 115 (((32 * a_s) + x_a1) - 1) = s1 115 ((32 * a_s) + x_a1))) ∧ (s1 112 (((32 * a_s) + x_a1) - 1) = s1 112 ((32 * a_s) + x_a1))) ∧ ((s1 112 (((32 * a_s) + x_a1) - 1) = (-1)) ∨ ((s1 114 (((32 * a_s) + x_a1) - 1) = s1 114 ((32 * a_s) + x_a1)) ∧ (s1 113 ((32 * a_s) + x_a1) = (s1 113 (((32 * a_s) + x_a1) - 1)) + 1)))))) then 1 else 0 : Int) ∧ x_n1 + (if (0 < s1 111 ((32 * a_s) + x_a1)) ∧ (((x_a1 = 0) ∨ (s1 111 (((32 * a_s) + x_a1) - 1) = 0)) ∨ (¬ ((((s1 111 (((32 * a_s) + x_a1) - 1) = s1 111 ((32 * a_s) + x_a1)) ∧ (s1 115 (((32 * a_s) + x_a1) - 1) = s1 115 ((32 * a_s) + x_a1))) ∧ (s1 112 (((32 * a_s) + x_a1) - 1) = s1 112 ((32 * a_s) + x_a1))) ∧ ((s1 112 (((32 * a_s) + x_a1) - 1) = (-1)) ∨ ((s1 114 (((32 * a_s) + x_a1) - 1) = s1 114 ((32 * a_s) + x_a1)) ∧ (s1 113 ((32 * a_s) + x_a1) = (s1 113 (((32 * a_s) + x_a1) - 1)) + 1)))))) then 1 else 0 : Int) ≤ 2147483647) <| k1 (x_n1 + (if (0 < s1 111 ((32 * a_s) + x_a1)) ∧ (((x_a1 = 0) ∨ (s1 111 (((32 * a_s) + x_a1) - 1) = 0)) ∨ (¬ ((((s1 111 (((32 * a_s) + x_a1) - 1) = s1 111 ((32 * a_s) + x_a1)) ∧ (s1 115 (((32 * a_s) + x_a1) - 1) = s1 115 ((32 * a_s) + x_a1))) ∧ (s1 112 (((32 * a_s) + x_a1) - 1) = s1 112 ((32 * a_s) + x_a1))) ∧ ((s1 112 (((32 * a_s) + x_a1) - 1) = (-1)) ∨ ((s1 114 (((32 * a_s) + x_a1) - 1) = s1 114 ((32 * a_s) + x_a1)) ∧ (s1 113 ((32 * a_s) + x_a1) = (s1 113 (((32 * a_s) + x_a1) - 1)) + 1)))))) then 1 else 0 : Int)) (x_a1 + 1) s1 else some (x_n1, s1)) 0 0 s
theorem rgX8_regionsOf {a_s : Int} {s s0 : S2} {r0 : Int} (hF : FX8_regionsOf a_s s = some (r0, s0)) : 0 ≤ r0 ∧ r0 ≤ 32 := (rgd_some hF).2
set_option maxRecDepth 100000 in
set_option maxHeartbeats 4000000 in
theorem ctX8_regionsOf {l : Launch} {w : gW} {bs : Nat} (hl : l.stackTraces = false) {a_s : Int} {s m s0 : S2} {r0 : Int} (hF : FX8_regionsOf a_s s = some (r0, s0)) : gMet l w bs yX8_regionsOf cX8_regionsOf 5 (some FieldType.int) 1 0 [(11, 0), (0, a_s)] (m, s) 0 (some (0, r0)) (m, s0) := by
  unfold FX8_regionsOf at hF
  obtain ⟨hF, hr⟩ := rgd_some hF
  obtain ⟨q_a_s, hF⟩ := gd_some hF
  refine g_start hl (by decide) (Nat.le_of_ble_eq_true rfl) rfl fun X h hE => ?_
  have h : gOk X "PagewrightModel" cX8_regionsOf 5 1 0 0 := h
  have hE : gEnd X l w bs 0 (some FieldType.int) 0 (some (0, r0)) (m, s0) := hE
  show G X 0 0 0 [(11, 0), (0, a_s), (1, 0), (1, 0), (1, 0)] [] (m, s)
  refine g_iconst h 0 dX8_regionsOf_0 ?_
  refine g_istore_n h 1 dX8_regionsOf_1 (Nat.le_of_ble_eq_true rfl) rfl (L' := [(11, 0), (0, a_s), (0, 0), (1, 0), (1, 0)]) rfl ?_
  refine g_iconst h 2 dX8_regionsOf_2 ?_
  refine g_istore_n h 3 dX8_regionsOf_3 (Nat.le_of_ble_eq_true rfl) rfl (L' := [(11, 0), (0, a_s), (0, 0), (0, 0), (1, 0)]) rfl ?_
  obtain ⟨f1, ef1, hF⟩ := glx2 hF
  have J7 : ∀ (n1 : Nat) (x_n1 x_a1 : Int) (s1 : S2), ((-2147483648) ≤ x_n1 ∧ x_n1 ≤ 2147483647) → (0 ≤ x_a1 ∧ x_a1 ≤ 32) → gl2 n1 f1 x_n1 x_a1 s1 = some (r0, s0) → G X 0 0 4 [(11, 0), (0, a_s), (0, x_n1), (0, x_a1), (1, 0)] [] (m, s1) := by
    intro n1
    induction n1 with
    | zero => intro x_n1 x_a1 s1 _ _ hF; exact (gl2_0 hF).elim
    | succ n1 ih1 =>
      intro x_n1 x_a1 s1 q1 q2 hF
      obtain ⟨k1, ek1, hF⟩ := glu2 hF ef1
      have J2 : x_a1 < 32 → G X 0 0 10 [(11, 0), (0, a_s), (0, x_n1), (0, x_a1), (1, 0)] [] (m, s1) := by
        intro h2
        have hF := ite_t h2 hF
        refine g_bipush h 10 dX8_regionsOf_10 (by decide) ?_
        refine g_iload_n h 12 dX8_regionsOf_12 rfl ?_
        refine g_imul h 13 dX8_regionsOf_13 ?_
        refine g_iload_n h 14 dX8_regionsOf_14 rfl ?_
        refine g_iadd h 15 dX8_regionsOf_15 ?_
        refine g_istore h 16 dX8_regionsOf_16 (Nat.le_of_ble_eq_true rfl) rfl (L' := [(11, 0), (0, a_s), (0, x_n1), (0, x_a1), (0, (32 * a_s) + x_a1)]) rfl ?_
        refine G_typ fun hT_s1 => ?_
        have t1 : 0 ≤ s1 111 ((32 * a_s) + x_a1) ∧ s1 111 ((32 * a_s) + x_a1) ≤ 3 := hT_s1.2 111 ((32 * a_s) + x_a1)
        have t2 : 0 ≤ s1 111 (((32 * a_s) + x_a1) - 1) ∧ s1 111 (((32 * a_s) + x_a1) - 1) ≤ 3 := hT_s1.2 111 (((32 * a_s) + x_a1) - 1)
        have t3 : 0 ≤ s1 115 (((32 * a_s) + x_a1) - 1) ∧ s1 115 (((32 * a_s) + x_a1) - 1) ≤ 1 := hT_s1.2 115 (((32 * a_s) + x_a1) - 1)
        have t4 : 0 ≤ s1 115 ((32 * a_s) + x_a1) ∧ s1 115 ((32 * a_s) + x_a1) ≤ 1 := hT_s1.2 115 ((32 * a_s) + x_a1)
        have t5 : (-1) ≤ s1 112 (((32 * a_s) + x_a1) - 1) ∧ s1 112 (((32 * a_s) + x_a1) - 1) ≤ 2 := hT_s1.2 112 (((32 * a_s) + x_a1) - 1)
        have t6 : (-1) ≤ s1 112 ((32 * a_s) + x_a1) ∧ s1 112 ((32 * a_s) + x_a1) ≤ 2 := hT_s1.2 112 ((32 * a_s) + x_a1)
        have t7 : 0 ≤ s1 114 (((32 * a_s) + x_a1) - 1) ∧ s1 114 (((32 * a_s) + x_a1) - 1) ≤ 1 := hT_s1.2 114 (((32 * a_s) + x_a1) - 1)
        have t8 : 0 ≤ s1 114 ((32 * a_s) + x_a1) ∧ s1 114 ((32 * a_s) + x_a1) ≤ 1 := hT_s1.2 114 ((32 * a_s) + x_a1)
        have t9 : 0 ≤ s1 113 ((32 * a_s) + x_a1) ∧ s1 113 ((32 * a_s) + x_a1) ≤ 7 := hT_s1.2 113 ((32 * a_s) + x_a1)
        have t10 : 0 ≤ s1 113 (((32 * a_s) + x_a1) - 1) ∧ s1 113 (((32 * a_s) + x_a1) - 1) ≤ 7 := hT_s1.2 113 (((32 * a_s) + x_a1) - 1)
        obtain ⟨q3, hF⟩ := gd_some hF
        obtain ⟨q4, hF⟩ := gd_some hF
        obtain ⟨q5, hF⟩ := gd_some hF
        refine g_iload_n h 18 dX8_regionsOf_18 rfl ?_
        suffices J4 : ∀ v1 : Int, v1 = (if (0 < s1 111 ((32 * a_s) + x_a1)) ∧ (((x_a1 = 0) ∨ (s1 111 (((32 * a_s) + x_a1) - 1) = 0)) ∨ (¬ ((((s1 111 (((32 * a_s) + x_a1) - 1) = s1 111 ((32 * a_s) + x_a1)) ∧ (s1 115 (((32 * a_s) + x_a1) - 1) = s1 115 ((32 * a_s) + x_a1))) ∧ (s1 112 (((32 * a_s) + x_a1) - 1) = s1 112 ((32 * a_s) + x_a1))) ∧ ((s1 112 (((32 * a_s) + x_a1) - 1) = (-1)) ∨ ((s1 114 (((32 * a_s) + x_a1) - 1) = s1 114 ((32 * a_s) + x_a1)) ∧ (s1 113 ((32 * a_s) + x_a1) = (s1 113 (((32 * a_s) + x_a1) - 1)) + 1)))))) then 1 else 0 : Int) → G X 0 0 63 [(11, 0), (0, a_s), (0, x_n1), (0, x_a1), (0, (32 * a_s) + x_a1)] [(0, v1), (0, x_n1)] (m, s1) by
          have J5 : (0 < s1 111 ((32 * a_s) + x_a1)) ∧ (((x_a1 = 0) ∨ (s1 111 (((32 * a_s) + x_a1) - 1) = 0)) ∨ (¬ ((((s1 111 (((32 * a_s) + x_a1) - 1) = s1 111 ((32 * a_s) + x_a1)) ∧ (s1 115 (((32 * a_s) + x_a1) - 1) = s1 115 ((32 * a_s) + x_a1))) ∧ (s1 112 (((32 * a_s) + x_a1) - 1) = s1 112 ((32 * a_s) + x_a1))) ∧ ((s1 112 (((32 * a_s) + x_a1) - 1) = (-1)) ∨ ((s1 114 (((32 * a_s) + x_a1) - 1) = s1 114 ((32 * a_s) + x_a1)) ∧ (s1 113 ((32 * a_s) + x_a1) = (s1 113 (((32 * a_s) + x_a1) - 1)) + 1)))))) → G X 0 0 58 [(11, 0), (0, a_s), (0, x_n1), (0, x_a1), (0, (32 * a_s) + x_a1)] [(0, x_n1)] (m, s1) := by
            intro h7
            refine g_iconst h 58 dX8_regionsOf_58 ?_
            refine g_goto h 59 63 dX8_regionsOf_59 (by decide) ?_
            exact J4 _ (if_pos h7).symm
          have J6 : ¬ ((0 < s1 111 ((32 * a_s) + x_a1)) ∧ (((x_a1 = 0) ∨ (s1 111 (((32 * a_s) + x_a1) - 1) = 0)) ∨ (¬ ((((s1 111 (((32 * a_s) + x_a1) - 1) = s1 111 ((32 * a_s) + x_a1)) ∧ (s1 115 (((32 * a_s) + x_a1) - 1) = s1 115 ((32 * a_s) + x_a1))) ∧ (s1 112 (((32 * a_s) + x_a1) - 1) = s1 112 ((32 * a_s) + x_a1))) ∧ ((s1 112 (((32 * a_s) + x_a1) - 1) = (-1)) ∨ ((s1 114 (((32 * a_s) + x_a1) - 1) = s1 114 ((32 * a_s) + x_a1)) ∧ (s1 113 ((32 * a_s) + x_a1) = (s1 113 (((32 * a_s) + x_a1) - 1)) + 1))))))) → G X 0 0 62 [(11, 0), (0, a_s), (0, x_n1), (0, x_a1), (0, (32 * a_s) + x_a1)] [(0, x_n1)] (m, s1) := by
            intro h8
            refine g_iconst h 62 dX8_regionsOf_62 ?_
            exact J4 _ (if_neg h8).symm
          refine g_aload_nq h 19 dX8_regionsOf_19 rfl rfl ?_
          refine gf_M_rights h 20 dX8_regionsOf_20 kw_1017 ?_
          refine g_iload h 23 dX8_regionsOf_23 rfl ?_
          refine al_M_rights h 25 dX8_regionsOf_25 (by omega) ?_
          refine g_if_le h 26 62 (gRi (by omega)) dX8_regionsOf_26 (by decide) (fun h3 => ?_) (fun h3 => ?_)
          · exact J6 (fun q => (Int.not_lt.mpr h3) q.1)
          · refine g_iload_n h 29 dX8_regionsOf_29 rfl ?_
            refine g_if_eq h 30 58 (gRi (by omega)) dX8_regionsOf_30 (by decide) (fun h4 => ?_) (fun h4 => ?_)
            · exact J5 ⟨h3, (Or.inl (Or.inl h4))⟩
            · refine g_aload_nq h 33 dX8_regionsOf_33 rfl rfl ?_
              refine gf_M_rights h 34 dX8_regionsOf_34 kw_1017 ?_
              refine g_iload h 37 dX8_regionsOf_37 rfl ?_
              refine g_iconst h 39 dX8_regionsOf_39 ?_
              refine g_isub h 40 dX8_regionsOf_40 ?_
              refine al_M_rights h 41 dX8_regionsOf_41 (by omega) ?_
              refine g_if_eq h 42 58 (gRi (by omega)) dX8_regionsOf_42 (by decide) (fun h5 => ?_) (fun h5 => ?_)
              · exact J5 ⟨h3, (Or.inl (Or.inr h5))⟩
              · refine g_aload_nq h 45 dX8_regionsOf_45 rfl rfl ?_
                refine g_iload h 46 dX8_regionsOf_46 rfl ?_
                refine g_iconst h 48 dX8_regionsOf_48 ?_
                refine g_isub h 49 dX8_regionsOf_49 ?_
                refine g_iload h 50 dX8_regionsOf_50 rfl ?_
                refine g_callV h hE 52 dX8_regionsOf_52 (cpX8_areAlike (a_a := ((32 * a_s) + x_a1) - 1) (a_b := (32 * a_s) + x_a1) hl (by omega) (by omega)) mwX8_areAlike kw_1180 (by decide) (by decide) rfl (Nat.le_of_ble_eq_true rfl) rfl (Nat.le_of_ble_eq_true rfl) ⟨Nat.le_of_ble_eq_true rfl, Nat.le_of_ble_eq_true rfl⟩ rfl rfl ?_
                show G X 0 0 55 [(11, 0), (0, a_s), (0, x_n1), (0, x_a1), (0, (32 * a_s) + x_a1)] [(0, (if (((s1 111 (((32 * a_s) + x_a1) - 1) = s1 111 ((32 * a_s) + x_a1)) ∧ (s1 115 (((32 * a_s) + x_a1) - 1) = s1 115 ((32 * a_s) + x_a1))) ∧ (s1 112 (((32 * a_s) + x_a1) - 1) = s1 112 ((32 * a_s) + x_a1))) ∧ ((s1 112 (((32 * a_s) + x_a1) - 1) = (-1)) ∨ ((s1 114 (((32 * a_s) + x_a1) - 1) = s1 114 ((32 * a_s) + x_a1)) ∧ (s1 113 ((32 * a_s) + x_a1) = (s1 113 (((32 * a_s) + x_a1) - 1)) + 1))) then 1 else 0 : Int)), (0, x_n1)] (m, s1)
                refine g_if_ne h 55 62 (gRi gR_ite) dX8_regionsOf_55 (by decide) (fun h6 => ?_) (fun h6 => ?_)
                · exact J6 (fun q => (fun q => q.elim (fun q => q.elim h4 h5) (fun q => q (iz_t h6))) q.2)
                · exact J5 ⟨h3, (Or.inr (iz_f h6))⟩
        intro v1 e1
        subst e1
        refine g_iadd h 63 dX8_regionsOf_63 ?_
        refine g_istore_n h 64 dX8_regionsOf_64 (Nat.le_of_ble_eq_true rfl) rfl (L' := [(11, 0), (0, a_s), (0, x_n1 + (if (0 < s1 111 ((32 * a_s) + x_a1)) ∧ (((x_a1 = 0) ∨ (s1 111 (((32 * a_s) + x_a1) - 1) = 0)) ∨ (¬ ((((s1 111 (((32 * a_s) + x_a1) - 1) = s1 111 ((32 * a_s) + x_a1)) ∧ (s1 115 (((32 * a_s) + x_a1) - 1) = s1 115 ((32 * a_s) + x_a1))) ∧ (s1 112 (((32 * a_s) + x_a1) - 1) = s1 112 ((32 * a_s) + x_a1))) ∧ ((s1 112 (((32 * a_s) + x_a1) - 1) = (-1)) ∨ ((s1 114 (((32 * a_s) + x_a1) - 1) = s1 114 ((32 * a_s) + x_a1)) ∧ (s1 113 ((32 * a_s) + x_a1) = (s1 113 (((32 * a_s) + x_a1) - 1)) + 1)))))) then 1 else 0 : Int)), (0, x_a1), (0, (32 * a_s) + x_a1)]) rfl ?_
        refine g_iinc h 65 dX8_regionsOf_65 rfl rfl (L' := [(11, 0), (0, a_s), (0, x_n1 + (if (0 < s1 111 ((32 * a_s) + x_a1)) ∧ (((x_a1 = 0) ∨ (s1 111 (((32 * a_s) + x_a1) - 1) = 0)) ∨ (¬ ((((s1 111 (((32 * a_s) + x_a1) - 1) = s1 111 ((32 * a_s) + x_a1)) ∧ (s1 115 (((32 * a_s) + x_a1) - 1) = s1 115 ((32 * a_s) + x_a1))) ∧ (s1 112 (((32 * a_s) + x_a1) - 1) = s1 112 ((32 * a_s) + x_a1))) ∧ ((s1 112 (((32 * a_s) + x_a1) - 1) = (-1)) ∨ ((s1 114 (((32 * a_s) + x_a1) - 1) = s1 114 ((32 * a_s) + x_a1)) ∧ (s1 113 ((32 * a_s) + x_a1) = (s1 113 (((32 * a_s) + x_a1) - 1)) + 1)))))) then 1 else 0 : Int)), (0, x_a1 + 1), (0, (32 * a_s) + x_a1)]) rfl ?_
        refine g_goto h 68 4 dX8_regionsOf_68 (by decide) ?_
        obtain ⟨q6, hF⟩ := gd_some hF
        refine G_weak (L' := [(11, 0), (0, a_s), (0, x_n1 + (if (0 < s1 111 ((32 * a_s) + x_a1)) ∧ (((x_a1 = 0) ∨ (s1 111 (((32 * a_s) + x_a1) - 1) = 0)) ∨ (¬ ((((s1 111 (((32 * a_s) + x_a1) - 1) = s1 111 ((32 * a_s) + x_a1)) ∧ (s1 115 (((32 * a_s) + x_a1) - 1) = s1 115 ((32 * a_s) + x_a1))) ∧ (s1 112 (((32 * a_s) + x_a1) - 1) = s1 112 ((32 * a_s) + x_a1))) ∧ ((s1 112 (((32 * a_s) + x_a1) - 1) = (-1)) ∨ ((s1 114 (((32 * a_s) + x_a1) - 1) = s1 114 ((32 * a_s) + x_a1)) ∧ (s1 113 ((32 * a_s) + x_a1) = (s1 113 (((32 * a_s) + x_a1) - 1)) + 1)))))) then 1 else 0 : Int)), (0, x_a1 + 1), (1, 0)]) ⟨Or.inr rfl, Or.inr rfl, Or.inr rfl, Or.inr rfl, Or.inl rfl, trivial⟩ ?_
        rw [ek1] at hF
        exact ih1 _ _ _ (by omega) (by omega) hF
      have J3 : ¬ (x_a1 < 32) → G X 0 0 71 [(11, 0), (0, a_s), (0, x_n1), (0, x_a1), (1, 0)] [] (m, s1) := by
        intro h9
        have hF := ite_f h9 hF
        refine g_iload_n h 71 dX8_regionsOf_71 rfl ?_
        obtain ⟨e1, e2⟩ := some_2 hF
        rw [← e1, ← e2] at hE
        exact g_iret h 72 dX8_regionsOf_72 hE rfl rfl ⟨(Nat.le_of_ble_eq_true rfl), (Nat.le_of_ble_eq_true rfl)⟩
      refine g_iload_n h 4 dX8_regionsOf_4 rfl ?_
      refine g_bipush h 5 dX8_regionsOf_5 (by decide) ?_
      refine g_icmp_ge h 7 71 (gRi (by omega)) (gRi (by omega)) dX8_regionsOf_7 (by decide) (fun h1 => ?_) (fun h1 => ?_)
      · exact J3 (Int.not_lt.mpr h1)
      · exact J2 h1
  exact J7 _ _ _ _ (by omega) (by omega) hF
-- PagewrightModel.shifts
def FX8_shifts (a_f a_l : Int) (s : S2) : Option (Int × S2) :=
  gd (0 ≤ a_f ∧ a_f ≤ 23) <| gd (0 ≤ a_l ∧ a_l ≤ 1) <| cb (FX8_unlist a_f s) fun r1 s1 => cb (FX8_enlist a_f a_l s1) fun r2 s2 => bn (upd2 s2 124 a_f 0) fun s3 => some (0, s3)
set_option maxRecDepth 100000 in
set_option maxHeartbeats 4000000 in
theorem ctX8_shifts {l : Launch} {w : gW} {bs : Nat} (hl : l.stackTraces = false) {a_f a_l : Int} {s m s0 : S2} {r0 : Int} (hF : FX8_shifts a_f a_l s = some (r0, s0)) : gMet l w bs yX8_shifts cX8_shifts 3 none 1 0 [(11, 0), (0, a_f), (0, a_l)] (m, s) 0 none (m, s0) := by
  unfold FX8_shifts at hF
  obtain ⟨q_a_f, hF⟩ := gd_some hF
  obtain ⟨q_a_l, hF⟩ := gd_some hF
  refine g_start hl (by decide) (Nat.le_of_ble_eq_true rfl) rfl fun X h hE => ?_
  have h : gOk X "PagewrightModel" cX8_shifts 3 1 0 0 := h
  have hE : gEnd X l w bs 0 none 0 none (m, s0) := hE
  show G X 0 0 0 [(11, 0), (0, a_f), (0, a_l)] [] (m, s)
  refine g_aload_nq h 0 dX8_shifts_0 rfl rfl ?_
  refine g_iload_n h 1 dX8_shifts_1 rfl ?_
  obtain ⟨r1, s1, c1, hF⟩ := cb_some hF
  refine g_callV h hE 2 dX8_shifts_2 (ctX8_unlist hl c1) mwX8_unlist kw_1212 (by decide) (by decide) rfl (Nat.le_of_ble_eq_true rfl) rfl (Nat.le_of_ble_eq_true rfl) ⟨Nat.le_of_ble_eq_true rfl, Nat.le_of_ble_eq_true rfl⟩ rfl rfl ?_
  show G X 0 0 5 [(11, 0), (0, a_f), (0, a_l)] [] (m, s1)
  refine g_aload_nq h 5 dX8_shifts_5 rfl rfl ?_
  refine g_iload_n h 6 dX8_shifts_6 rfl ?_
  refine g_iload_n h 7 dX8_shifts_7 rfl ?_
  obtain ⟨r2, s2, c2, hF⟩ := cb_some hF
  refine g_callV h hE 8 dX8_shifts_8 (ctX8_enlist hl c2) mwX8_enlist kw_1324 (by decide) (by decide) rfl (Nat.le_of_ble_eq_true rfl) rfl (Nat.le_of_ble_eq_true rfl) ⟨Nat.le_of_ble_eq_true rfl, Nat.le_of_ble_eq_true rfl⟩ rfl rfl ?_
  show G X 0 0 11 [(11, 0), (0, a_f), (0, a_l)] [] (m, s2)
  refine g_aload_nq h 11 dX8_shifts_11 rfl rfl ?_
  refine gf_M_seen h 12 dX8_shifts_12 kw_1030 ?_
  refine g_iload_n h 15 dX8_shifts_15 rfl ?_
  refine g_iconst h 16 dX8_shifts_16 ?_
  obtain ⟨s3, es3, hF⟩ := bn_ex hF
  refine as_M_seen h 17 dX8_shifts_17 (by omega) (by omega) ?_
  rw [← es3]
  obtain ⟨e1, e2⟩ := some_2 hF
  rw [← e2] at hE
  exact g_vret h 18 dX8_shifts_18 hE rfl ⟨(Nat.le_of_ble_eq_true rfl), (Nat.le_of_ble_eq_true rfl)⟩
-- PagewrightModel.space
def FX8_space (a_g : Int) (s : S2) : Option (Int × S2) :=
  rgd (-2147483648) 2147483647 <| gd ((-2147483648) ≤ a_g ∧ a_g ≤ 2147483647) <| cb (FX8_asked_ (if (0 ≤ a_g) ∧ (a_g ≤ 2) then 1 else 0 : Int) (if s 102 0 < 6 then 1 else 0 : Int) s) fun r1 s1 => if r1 ≠ 0 then gd (0 ≤ s1 102 0 ∧ s1 102 0 ≤ 5) <| bn (upd2 s1 106 (s1 102 0) 1) fun s2 => gd (0 ≤ s2 102 0 ∧ s2 102 0 ≤ 5) <| gd (0 ≤ a_g ∧ a_g ≤ 2) <| bn (upd2 s2 107 (s2 102 0) a_g) fun s3 => gd (0 ≤ (s3 102 0) + 1 ∧ (s3 102 0) + 1 ≤ 6) <| bn (upd2 s3 102 0 ((s3 102 0) + 1)) fun s4 => some ((s4 102 0) - 1, s4) else some (0, s1)
theorem rgX8_space {a_g : Int} {s s0 : S2} {r0 : Int} (hF : FX8_space a_g s = some (r0, s0)) : (-2147483648) ≤ r0 ∧ r0 ≤ 2147483647 := (rgd_some hF).2
set_option maxRecDepth 100000 in
set_option maxHeartbeats 4000000 in
theorem ctX8_space {l : Launch} {w : gW} {bs : Nat} (hl : l.stackTraces = false) {a_g : Int} {s m s0 : S2} {r0 : Int} (hF : FX8_space a_g s = some (r0, s0)) : gMet l w bs yX8_space cX8_space 2 (some FieldType.int) 1 0 [(11, 0), (0, a_g)] (m, s) 0 (some (0, r0)) (m, s0) := by
  unfold FX8_space at hF
  obtain ⟨hF, hr⟩ := rgd_some hF
  obtain ⟨q_a_g, hF⟩ := gd_some hF
  refine g_start hl (by decide) (Nat.le_of_ble_eq_true rfl) rfl fun X h hE => ?_
  have h : gOk X "PagewrightModel" cX8_space 2 1 0 0 := h
  have hE : gEnd X l w bs 0 (some FieldType.int) 0 (some (0, r0)) (m, s0) := hE
  show G X 0 0 0 [(11, 0), (0, a_g)] [] (m, s)
  refine g_aload_nq h 0 dX8_space_0 rfl rfl ?_
  refine g_iload_n h 1 dX8_space_1 rfl ?_
  refine g_iconst h 2 dX8_space_2 ?_
  refine g_iconst h 3 dX8_space_3 ?_
  refine g_callS h hE 4 dX8_space_4 (cpX8_in (a_v := a_g) (a_low := 0) (a_high := 2) hl (by omega) (by omega) (by omega)) mwX8_in kw_1142 rfl (Nat.le_of_ble_eq_true rfl) rfl (Nat.le_of_ble_eq_true rfl) ⟨Nat.le_of_ble_eq_true rfl, Nat.le_of_ble_eq_true rfl⟩ rfl rfl ?_
  show G X 0 0 7 [(11, 0), (0, a_g)] [(0, (if (0 ≤ a_g) ∧ (a_g ≤ 2) then 1 else 0 : Int)), (11, 0)] (m, s)
  refine G_typ fun hT_s => ?_
  have t1 : 0 ≤ s 102 0 ∧ s 102 0 ≤ 6 := hT_s.2 102 0
  suffices J1 : ∀ v1 : Int, v1 = (if s 102 0 < 6 then 1 else 0 : Int) → G X 0 0 21 [(11, 0), (0, a_g)] [(0, v1), (0, (if (0 ≤ a_g) ∧ (a_g ≤ 2) then 1 else 0 : Int)), (11, 0)] (m, s) by
    have J2 : s 102 0 < 6 → G X 0 0 16 [(11, 0), (0, a_g)] [(0, (if (0 ≤ a_g) ∧ (a_g ≤ 2) then 1 else 0 : Int)), (11, 0)] (m, s) := by
      intro h2
      refine g_iconst h 16 dX8_space_16 ?_
      refine g_goto h 17 21 dX8_space_17 (by decide) ?_
      exact J1 _ (if_pos h2).symm
    have J3 : ¬ (s 102 0 < 6) → G X 0 0 20 [(11, 0), (0, a_g)] [(0, (if (0 ≤ a_g) ∧ (a_g ≤ 2) then 1 else 0 : Int)), (11, 0)] (m, s) := by
      intro h3
      refine g_iconst h 20 dX8_space_20 ?_
      exact J1 _ (if_neg h3).symm
    refine g_aload_nq h 7 dX8_space_7 rfl rfl ?_
    refine gf_M_spaces h 8 dX8_space_8 kw_1011 ?_
    refine g_bipush h 11 dX8_space_11 (by decide) ?_
    refine g_icmp_ge h 13 20 (gRi (by omega)) (gRi (by omega)) dX8_space_13 (by decide) (fun h1 => ?_) (fun h1 => ?_)
    · exact J3 (Int.not_lt.mpr h1)
    · exact J2 h1
  intro v1 e1
  subst e1
  obtain ⟨r1, s1, c1, hF⟩ := cb_some hF
  have t2 : 0 ≤ r1 ∧ r1 ≤ 1 := rgX8_asked_ c1
  refine g_callV h hE 21 dX8_space_21 (ctX8_asked_ hl c1) mwX8_asked_ kw_1145 (by decide) (by decide) rfl (Nat.le_of_ble_eq_true rfl) rfl (Nat.le_of_ble_eq_true rfl) ⟨Nat.le_of_ble_eq_true rfl, Nat.le_of_ble_eq_true rfl⟩ rfl rfl ?_
  show G X 0 0 24 [(11, 0), (0, a_g)] [(0, r1)] (m, s1)
  refine g_if_ne h 24 29 (gRi (by omega)) dX8_space_24 (by decide) (fun h4 => ?_) (fun h4 => ?_)
  · have hF := ite_t h4 hF
    refine g_aload_nq h 29 dX8_space_29 rfl rfl ?_
    refine gf_M_lives h 30 dX8_space_30 kw_1012 ?_
    refine G_typ fun hT_s1 => ?_
    have t3 : 0 ≤ s1 102 0 ∧ s1 102 0 ≤ 6 := hT_s1.2 102 0
    refine g_aload_nq h 33 dX8_space_33 rfl rfl ?_
    refine gf_M_spaces h 34 dX8_space_34 kw_1011 ?_
    obtain ⟨q1, hF⟩ := gd_some hF
    refine g_iconst h 37 dX8_space_37 ?_
    obtain ⟨s2, es2, hF⟩ := bn_ex hF
    refine as_M_lives h 38 dX8_space_38 (by omega) (by omega) ?_
    rw [← es2]
    refine g_aload_nq h 39 dX8_space_39 rfl rfl ?_
    refine gf_M_group h 40 dX8_space_40 kw_1013 ?_
    refine G_typ fun hT_s2 => ?_
    have t4 : 0 ≤ s2 102 0 ∧ s2 102 0 ≤ 6 := hT_s2.2 102 0
    refine g_aload_nq h 43 dX8_space_43 rfl rfl ?_
    refine gf_M_spaces h 44 dX8_space_44 kw_1011 ?_
    obtain ⟨q2, hF⟩ := gd_some hF
    refine g_iload_n h 47 dX8_space_47 rfl ?_
    obtain ⟨q3, hF⟩ := gd_some hF
    obtain ⟨s3, es3, hF⟩ := bn_ex hF
    refine as_M_group h 48 dX8_space_48 (by omega) (by omega) ?_
    rw [← es3]
    refine g_aload_nq h 49 dX8_space_49 rfl rfl ?_
    refine G_typ fun hT_s3 => ?_
    have t5 : 0 ≤ s3 102 0 ∧ s3 102 0 ≤ 6 := hT_s3.2 102 0
    refine g_dup h 50 dX8_space_50 (show (11 : Nat) ≠ 2 by decide) ?_
    refine gf_M_spaces h 51 dX8_space_51 kw_1011 ?_
    refine g_iconst h 54 dX8_space_54 ?_
    refine g_iadd h 55 dX8_space_55 ?_
    obtain ⟨q4, hF⟩ := gd_some hF
    obtain ⟨s4, es4, hF⟩ := bn_ex hF
    refine pf_M_spaces h 56 dX8_space_56 kw_1011 (by omega) ?_
    rw [← es4]
    refine G_typ fun hT_s4 => ?_
    have t6 : 0 ≤ s4 102 0 ∧ s4 102 0 ≤ 6 := hT_s4.2 102 0
    refine g_aload_nq h 59 dX8_space_59 rfl rfl ?_
    refine gf_M_spaces h 60 dX8_space_60 kw_1011 ?_
    refine g_iconst h 63 dX8_space_63 ?_
    refine g_isub h 64 dX8_space_64 ?_
    obtain ⟨e1, e2⟩ := some_2 hF
    rw [← e1, ← e2] at hE
    exact g_iret h 65 dX8_space_65 hE rfl rfl ⟨(Nat.le_of_ble_eq_true rfl), (Nat.le_of_ble_eq_true rfl)⟩
  · have hF := ite_f (fun q => q h4) hF
    refine g_iconst h 27 dX8_space_27 ?_
    obtain ⟨e1, e2⟩ := some_2 hF
    rw [← e1, ← e2] at hE
    exact g_iret h 28 dX8_space_28 hE rfl rfl ⟨(Nat.le_of_ble_eq_true rfl), (Nat.le_of_ble_eq_true rfl)⟩
-- PagewrightModel.translates
def FX8_translates (a_p a_e : Int) (s : S2) : Option (Int × S2) :=
  gd (0 ≤ a_p ∧ a_p ≤ 1) <| gd (0 ≤ a_e ∧ a_e ≤ 191) <| cb (FX8_translationOf a_p a_e s) fun r1 s1 => bn (fun (s2 : S2) => bn (fun (x_t1 : Int) (s9 : S2) => gd (0 ≤ x_t1 ∧ x_t1 ≤ 7) <| bn (upd2 s9 136 x_t1 a_e) fun s11 => bn (upd2 s11 137 x_t1 (s11 117 a_e)) fun s12 => bn (upd2 s12 138 x_t1 (s12 118 a_e)) fun s13 => bn (upd2 s13 139 x_t1 0) fun s14 => some (0, s14)) fun k3 => if r1 = (-1) then gd (0 ≤ (s2 135 a_p) + 1 ∧ (s2 135 a_p) + 1 ≤ 4) <| bn (upd2 s2 135 a_p ((s2 135 a_p) + 1)) fun s10 => gd ((-2147483648) ≤ (4 * a_p) + (s2 135 a_p) ∧ (4 * a_p) + (s2 135 a_p) ≤ 2147483647) <| k3 ((4 * a_p) + (s2 135 a_p)) s10 else k3 r1 s2) fun k1 => if (r1 = (-1)) ∧ (s1 135 a_p = 4) then gd ((-2147483648) ≤ 4 * a_p ∧ 4 * a_p ≤ 2147483647) <| gl1 1000 (fun k2 (x_k1 : Int) (s3 : S2) => if x_k1 < ((4 * a_p) + 4) - 1 then gd (0 ≤ x_k1 ∧ x_k1 ≤ 7) <| bn (upd2 s3 136 x_k1 (s3 136 (x_k1 + 1))) fun s4 => bn (upd2 s4 137 x_k1 (s4 137 (x_k1 + 1))) fun s5 => bn (upd2 s5 138 x_k1 (s5 138 (x_k1 + 1))) fun s6 => bn (upd2 s6 139 x_k1 (s6 139 (x_k1 + 1))) fun s7 => k2 (x_k1 + 1) s7 else gd (0 ≤ (s3 135 a_p) - 1 ∧ (s3 135 a_p) - 1 ≤ 4) <| bn (upd2 s3 135 a_p ((s3 135 a_p) - 1)) fun s8 => k1 s8) (4 * a_p) s1 else k1 s1
set_option maxRecDepth 100000 in
set_option maxHeartbeats 4000000 in
theorem ctX8_translates {l : Launch} {w : gW} {bs : Nat} (hl : l.stackTraces = false) {a_p a_e : Int} {s m s0 : S2} {r0 : Int} (hF : FX8_translates a_p a_e s = some (r0, s0)) : gMet l w bs yX8_translates cX8_translates 5 none 1 0 [(11, 0), (0, a_p), (0, a_e)] (m, s) 0 none (m, s0) := by
  unfold FX8_translates at hF
  obtain ⟨q_a_p, hF⟩ := gd_some hF
  obtain ⟨q_a_e, hF⟩ := gd_some hF
  refine g_start hl (by decide) (Nat.le_of_ble_eq_true rfl) rfl fun X h hE => ?_
  have h : gOk X "PagewrightModel" cX8_translates 5 1 0 0 := h
  have hE : gEnd X l w bs 0 none 0 none (m, s0) := hE
  show G X 0 0 0 [(11, 0), (0, a_p), (0, a_e), (1, 0), (1, 0)] [] (m, s)
  refine g_aload_nq h 0 dX8_translates_0 rfl rfl ?_
  refine g_iload_n h 1 dX8_translates_1 rfl ?_
  refine g_iload_n h 2 dX8_translates_2 rfl ?_
  obtain ⟨r1, s1, c1, hF⟩ := cb_some hF
  have t1 : (-1) ≤ r1 ∧ r1 ≤ 7 := rgX8_translationOf c1
  refine g_callV h hE 3 dX8_translates_3 (ctX8_translationOf hl c1) mwX8_translationOf kw_1288 (by decide) (by decide) rfl (Nat.le_of_ble_eq_true rfl) rfl (Nat.le_of_ble_eq_true rfl) ⟨Nat.le_of_ble_eq_true rfl, Nat.le_of_ble_eq_true rfl⟩ rfl rfl ?_
  show G X 0 0 6 [(11, 0), (0, a_p), (0, a_e), (1, 0), (1, 0)] [(0, r1)] (m, s1)
  refine g_istore_n h 6 dX8_translates_6 (Nat.le_of_ble_eq_true rfl) rfl (L' := [(11, 0), (0, a_p), (0, a_e), (0, r1), (1, 0)]) rfl ?_
  obtain ⟨k1, ek1, hF⟩ := bn_ex hF
  have J1 : ∀ (s2 : S2), k1 s2 = some (r0, s0) → G X 0 0 119 [(11, 0), (0, a_p), (0, a_e), (0, r1), (1, 0)] [] (m, s2) := by
    intro s2 hF
    rw [ek1] at hF
    obtain ⟨k3, ek3, hF⟩ := bn_ex hF
    have J8 : ∀ (x_t1 : Int) (s9 : S2), ((-2147483648) ≤ x_t1 ∧ x_t1 ≤ 2147483647) → k3 x_t1 s9 = some (r0, s0) → G X 0 0 145 [(11, 0), (0, a_p), (0, a_e), (0, x_t1), (1, 0)] [] (m, s9) := by
      intro x_t1 s9 q7 hF
      rw [ek3] at hF
      refine g_aload_nq h 145 dX8_translates_145 rfl rfl ?_
      refine gf_M_entry h 146 dX8_translates_146 kw_1043 ?_
      refine g_iload_n h 149 dX8_translates_149 rfl ?_
      obtain ⟨q8, hF⟩ := gd_some hF
      refine g_iload_n h 150 dX8_translates_150 rfl ?_
      obtain ⟨s11, es11, hF⟩ := bn_ex hF
      refine as_M_entry h 151 dX8_translates_151 (by omega) (by omega) ?_
      rw [← es11]
      refine g_aload_nq h 152 dX8_translates_152 rfl rfl ?_
      refine gf_M_frame h 153 dX8_translates_153 kw_1044 ?_
      refine g_iload_n h 156 dX8_translates_156 rfl ?_
      refine G_typ fun hT_s11 => ?_
      have t9 : 0 ≤ s11 117 a_e ∧ s11 117 a_e ≤ 23 := hT_s11.2 117 a_e
      refine g_aload_nq h 157 dX8_translates_157 rfl rfl ?_
      refine gf_M_page h 158 dX8_translates_158 kw_1023 ?_
      refine g_iload_n h 161 dX8_translates_161 rfl ?_
      refine al_M_page h 162 dX8_translates_162 (by omega) ?_
      obtain ⟨s12, es12, hF⟩ := bn_ex hF
      refine as_M_frame h 163 dX8_translates_163 (by omega) (by omega) ?_
      rw [← es12]
      refine g_aload_nq h 164 dX8_translates_164 rfl rfl ?_
      refine gf_M_may h 165 dX8_translates_165 kw_1045 ?_
      refine g_iload_n h 168 dX8_translates_168 rfl ?_
      refine G_typ fun hT_s12 => ?_
      have t10 : 0 ≤ s12 118 a_e ∧ s12 118 a_e ≤ 1 := hT_s12.2 118 a_e
      refine g_aload_nq h 169 dX8_translates_169 rfl rfl ?_
      refine gf_M_writable h 170 dX8_translates_170 kw_1024 ?_
      refine g_iload_n h 173 dX8_translates_173 rfl ?_
      refine al_M_writable h 174 dX8_translates_174 (by omega) ?_
      obtain ⟨s13, es13, hF⟩ := bn_ex hF
      refine as_M_may h 175 dX8_translates_175 (by omega) (by omega) ?_
      rw [← es13]
      refine g_aload_nq h 176 dX8_translates_176 rfl rfl ?_
      refine gf_M_waits h 177 dX8_translates_177 kw_1046 ?_
      refine g_iload_n h 180 dX8_translates_180 rfl ?_
      refine g_iconst h 181 dX8_translates_181 ?_
      obtain ⟨s14, es14, hF⟩ := bn_ex hF
      refine as_M_waits h 182 dX8_translates_182 (by omega) (by omega) ?_
      rw [← es14]
      obtain ⟨e1, e2⟩ := some_2 hF
      rw [← e2] at hE
      exact g_vret h 183 dX8_translates_183 hE rfl ⟨(Nat.le_of_ble_eq_true rfl), (Nat.le_of_ble_eq_true rfl)⟩
    have J9 : r1 = (-1) → G X 0 0 124 [(11, 0), (0, a_p), (0, a_e), (0, r1), (1, 0)] [] (m, s2) := by
      intro h9
      have hF := ite_t h9 hF
      refine G_typ fun hT_s2 => ?_
      have t8 : 0 ≤ s2 135 a_p ∧ s2 135 a_p ≤ 4 := hT_s2.2 135 a_p
      refine g_iconst h 124 dX8_translates_124 ?_
      refine g_iload_n h 125 dX8_translates_125 rfl ?_
      refine g_imul h 126 dX8_translates_126 ?_
      refine g_aload_nq h 127 dX8_translates_127 rfl rfl ?_
      refine gf_M_cached h 128 dX8_translates_128 kw_1042 ?_
      refine g_iload_n h 131 dX8_translates_131 rfl ?_
      refine al_M_cached h 132 dX8_translates_132 (by omega) ?_
      refine g_iadd h 133 dX8_translates_133 ?_
      refine g_istore_n h 134 dX8_translates_134 (Nat.le_of_ble_eq_true rfl) rfl (L' := [(11, 0), (0, a_p), (0, a_e), (0, (4 * a_p) + (s2 135 a_p)), (1, 0)]) rfl ?_
      refine g_aload_nq h 135 dX8_translates_135 rfl rfl ?_
      refine gf_M_cached h 136 dX8_translates_136 kw_1042 ?_
      refine g_iload_n h 139 dX8_translates_139 rfl ?_
      refine g_dup2 h 140 dX8_translates_140 (show (0 : Nat) ≠ 2 by decide) (show (53 : Nat) ≠ 2 by decide) ?_
      refine al_M_cached h 141 dX8_translates_141 (by omega) ?_
      refine g_iconst h 142 dX8_translates_142 ?_
      refine g_iadd h 143 dX8_translates_143 ?_
      obtain ⟨q5, hF⟩ := gd_some hF
      obtain ⟨s10, es10, hF⟩ := bn_ex hF
      refine as_M_cached h 144 dX8_translates_144 (by omega) (by omega) ?_
      rw [← es10]
      obtain ⟨q6, hF⟩ := gd_some hF
      exact J8 _ _ (by omega) hF
    have J10 : ¬ (r1 = (-1)) → G X 0 0 145 [(11, 0), (0, a_p), (0, a_e), (0, r1), (1, 0)] [] (m, s2) := by
      intro h10
      have hF := ite_f h10 hF
      exact J8 _ _ (by omega) hF
    refine g_iload_n h 119 dX8_translates_119 rfl ?_
    refine g_iconst h 120 dX8_translates_120 ?_
    refine g_icmp_ne h 121 145 (gRi (by omega)) (gRi (by omega)) dX8_translates_121 (by decide) (fun h8 => ?_) (fun h8 => ?_)
    · exact J10 h8
    · exact J9 h8
  refine G_typ fun hT_s1 => ?_
  have t2 : 0 ≤ s1 135 a_p ∧ s1 135 a_p ≤ 4 := hT_s1.2 135 a_p
  have J2 : (r1 = (-1)) ∧ (s1 135 a_p = 4) → G X 0 0 22 [(11, 0), (0, a_p), (0, a_e), (0, r1), (1, 0)] [] (m, s1) := by
    intro h3
    have hF := ite_t h3 hF
    refine g_iconst h 22 dX8_translates_22 ?_
    refine g_iload_n h 23 dX8_translates_23 rfl ?_
    refine g_imul h 24 dX8_translates_24 ?_
    refine g_istore h 25 dX8_translates_25 (Nat.le_of_ble_eq_true rfl) rfl (L' := [(11, 0), (0, a_p), (0, a_e), (0, r1), (0, 4 * a_p)]) rfl ?_
    obtain ⟨q4, hF⟩ := gd_some hF
    obtain ⟨f1, ef1, hF⟩ := glx1 hF
    have J7 : ∀ (n1 : Nat) (x_k1 : Int) (s3 : S2), ((-2147483648) ≤ x_k1 ∧ x_k1 ≤ 2147483647) → gl1 n1 f1 x_k1 s3 = some (r0, s0) → G X 0 0 27 [(11, 0), (0, a_p), (0, a_e), (0, r1), (0, x_k1)] [] (m, s3) := by
      intro n1
      induction n1 with
      | zero => intro x_k1 s3 _ hF; exact (gl1_0 hF).elim
      | succ n1 ih1 =>
        intro x_k1 s3 q1 hF
        obtain ⟨k2, ek2, hF⟩ := glu1 hF ef1
        have J5 : x_k1 < ((4 * a_p) + 4) - 1 → G X 0 0 39 [(11, 0), (0, a_p), (0, a_e), (0, r1), (0, x_k1)] [] (m, s3) := by
          intro h5
          have hF := ite_t h5 hF
          refine g_aload_nq h 39 dX8_translates_39 rfl rfl ?_
          refine gf_M_entry h 40 dX8_translates_40 kw_1043 ?_
          refine g_iload h 43 dX8_translates_43 rfl ?_
          obtain ⟨q2, hF⟩ := gd_some hF
          refine G_typ fun hT_s3 => ?_
          have t3 : 0 ≤ s3 136 (x_k1 + 1) ∧ s3 136 (x_k1 + 1) ≤ 191 := hT_s3.2 136 (x_k1 + 1)
          refine g_aload_nq h 45 dX8_translates_45 rfl rfl ?_
          refine gf_M_entry h 46 dX8_translates_46 kw_1043 ?_
          refine g_iload h 49 dX8_translates_49 rfl ?_
          refine g_iconst h 51 dX8_translates_51 ?_
          refine g_iadd h 52 dX8_translates_52 ?_
          refine al_M_entry h 53 dX8_translates_53 (by omega) ?_
          obtain ⟨s4, es4, hF⟩ := bn_ex hF
          refine as_M_entry h 54 dX8_translates_54 (by omega) (by omega) ?_
          rw [← es4]
          refine g_aload_nq h 55 dX8_translates_55 rfl rfl ?_
          refine gf_M_frame h 56 dX8_translates_56 kw_1044 ?_
          refine g_iload h 59 dX8_translates_59 rfl ?_
          refine G_typ fun hT_s4 => ?_
          have t4 : 0 ≤ s4 137 (x_k1 + 1) ∧ s4 137 (x_k1 + 1) ≤ 23 := hT_s4.2 137 (x_k1 + 1)
          refine g_aload_nq h 61 dX8_translates_61 rfl rfl ?_
          refine gf_M_frame h 62 dX8_translates_62 kw_1044 ?_
          refine g_iload h 65 dX8_translates_65 rfl ?_
          refine g_iconst h 67 dX8_translates_67 ?_
          refine g_iadd h 68 dX8_translates_68 ?_
          refine al_M_frame h 69 dX8_translates_69 (by omega) ?_
          obtain ⟨s5, es5, hF⟩ := bn_ex hF
          refine as_M_frame h 70 dX8_translates_70 (by omega) (by omega) ?_
          rw [← es5]
          refine g_aload_nq h 71 dX8_translates_71 rfl rfl ?_
          refine gf_M_may h 72 dX8_translates_72 kw_1045 ?_
          refine g_iload h 75 dX8_translates_75 rfl ?_
          refine G_typ fun hT_s5 => ?_
          have t5 : 0 ≤ s5 138 (x_k1 + 1) ∧ s5 138 (x_k1 + 1) ≤ 1 := hT_s5.2 138 (x_k1 + 1)
          refine g_aload_nq h 77 dX8_translates_77 rfl rfl ?_
          refine gf_M_may h 78 dX8_translates_78 kw_1045 ?_
          refine g_iload h 81 dX8_translates_81 rfl ?_
          refine g_iconst h 83 dX8_translates_83 ?_
          refine g_iadd h 84 dX8_translates_84 ?_
          refine al_M_may h 85 dX8_translates_85 (by omega) ?_
          obtain ⟨s6, es6, hF⟩ := bn_ex hF
          refine as_M_may h 86 dX8_translates_86 (by omega) (by omega) ?_
          rw [← es6]
          refine g_aload_nq h 87 dX8_translates_87 rfl rfl ?_
          refine gf_M_waits h 88 dX8_translates_88 kw_1046 ?_
          refine g_iload h 91 dX8_translates_91 rfl ?_
          refine G_typ fun hT_s6 => ?_
          have t6 : 0 ≤ s6 139 (x_k1 + 1) ∧ s6 139 (x_k1 + 1) ≤ 1 := hT_s6.2 139 (x_k1 + 1)
          refine g_aload_nq h 93 dX8_translates_93 rfl rfl ?_
          refine gf_M_waits h 94 dX8_translates_94 kw_1046 ?_
          refine g_iload h 97 dX8_translates_97 rfl ?_
          refine g_iconst h 99 dX8_translates_99 ?_
          refine g_iadd h 100 dX8_translates_100 ?_
          refine al_M_waits h 101 dX8_translates_101 (by omega) ?_
          obtain ⟨s7, es7, hF⟩ := bn_ex hF
          refine as_M_waits h 102 dX8_translates_102 (by omega) (by omega) ?_
          rw [← es7]
          refine g_iinc h 103 dX8_translates_103 rfl rfl (L' := [(11, 0), (0, a_p), (0, a_e), (0, r1), (0, x_k1 + 1)]) rfl ?_
          refine g_goto h 106 27 dX8_translates_106 (by decide) ?_
          rw [ek2] at hF
          exact ih1 _ _ (by omega) hF
        have J6 : ¬ (x_k1 < ((4 * a_p) + 4) - 1) → G X 0 0 109 [(11, 0), (0, a_p), (0, a_e), (0, r1), (0, x_k1)] [] (m, s3) := by
          intro h6
          have hF := ite_f h6 hF
          refine g_aload_nq h 109 dX8_translates_109 rfl rfl ?_
          refine gf_M_cached h 110 dX8_translates_110 kw_1042 ?_
          refine g_iload_n h 113 dX8_translates_113 rfl ?_
          refine G_typ fun hT_s3 => ?_
          have t7 : 0 ≤ s3 135 a_p ∧ s3 135 a_p ≤ 4 := hT_s3.2 135 a_p
          refine g_dup2 h 114 dX8_translates_114 (show (0 : Nat) ≠ 2 by decide) (show (53 : Nat) ≠ 2 by decide) ?_
          refine al_M_cached h 115 dX8_translates_115 (by omega) ?_
          refine g_iconst h 116 dX8_translates_116 ?_
          refine g_isub h 117 dX8_translates_117 ?_
          obtain ⟨q3, hF⟩ := gd_some hF
          obtain ⟨s8, es8, hF⟩ := bn_ex hF
          refine as_M_cached h 118 dX8_translates_118 (by omega) (by omega) ?_
          rw [← es8]
          refine G_weak (L' := [(11, 0), (0, a_p), (0, a_e), (0, r1), (1, 0)]) ⟨Or.inr rfl, Or.inr rfl, Or.inr rfl, Or.inr rfl, Or.inl rfl, trivial⟩ ?_
          exact J1 _ hF
        refine g_iload h 27 dX8_translates_27 rfl ?_
        refine g_iconst h 29 dX8_translates_29 ?_
        refine g_iload_n h 30 dX8_translates_30 rfl ?_
        refine g_imul h 31 dX8_translates_31 ?_
        refine g_iconst h 32 dX8_translates_32 ?_
        refine g_iadd h 33 dX8_translates_33 ?_
        refine g_iconst h 34 dX8_translates_34 ?_
        refine g_isub h 35 dX8_translates_35 ?_
        refine g_icmp_ge h 36 109 (gRi (by omega)) (gRi (by omega)) dX8_translates_36 (by decide) (fun h4 => ?_) (fun h4 => ?_)
        · exact J6 (Int.not_lt.mpr h4)
        · exact J5 h4
    exact J7 _ _ _ (by omega) hF
  have J3 : ¬ ((r1 = (-1)) ∧ (s1 135 a_p = 4)) → G X 0 0 119 [(11, 0), (0, a_p), (0, a_e), (0, r1), (1, 0)] [] (m, s1) := by
    intro h7
    have hF := ite_f h7 hF
    exact J1 _ hF
  refine g_iload_n h 7 dX8_translates_7 rfl ?_
  refine g_iconst h 8 dX8_translates_8 ?_
  refine g_icmp_ne h 9 119 (gRi (by omega)) (gRi (by omega)) dX8_translates_9 (by decide) (fun h1 => ?_) (fun h1 => ?_)
  · exact J3 (fun q => h1 q.1)
  · refine g_aload_nq h 12 dX8_translates_12 rfl rfl ?_
    refine gf_M_cached h 13 dX8_translates_13 kw_1042 ?_
    refine g_iload_n h 16 dX8_translates_16 rfl ?_
    refine al_M_cached h 17 dX8_translates_17 (by omega) ?_
    refine g_iconst h 18 dX8_translates_18 ?_
    refine g_icmp_ne h 19 119 (gRi (by omega)) (gRi (by omega)) dX8_translates_19 (by decide) (fun h2 => ?_) (fun h2 => ?_)
    · exact J3 (fun q => h2 q.2)
    · exact J2 ⟨h1, h2⟩
-- PagewrightModel.unwrites
def FX8_unwrites (a_e : Int) (s : S2) : Option (Int × S2) :=
  gd (0 ≤ a_e ∧ a_e ≤ 191) <| bn (fun (s1 : S2) => some (0, s1)) fun k1 => if (s 116 a_e = 1) ∧ (s 118 a_e ≠ 0) then bn (upd2 s 118 a_e 0) fun s2 => cb (FX8_tells a_e s2) fun r1 s3 => k1 s3 else k1 s
set_option maxRecDepth 100000 in
set_option maxHeartbeats 4000000 in
theorem ctX8_unwrites {l : Launch} {w : gW} {bs : Nat} (hl : l.stackTraces = false) {a_e : Int} {s m s0 : S2} {r0 : Int} (hF : FX8_unwrites a_e s = some (r0, s0)) : gMet l w bs yX8_unwrites cX8_unwrites 2 none 1 0 [(11, 0), (0, a_e)] (m, s) 0 none (m, s0) := by
  unfold FX8_unwrites at hF
  obtain ⟨q_a_e, hF⟩ := gd_some hF
  refine g_start hl (by decide) (Nat.le_of_ble_eq_true rfl) rfl fun X h hE => ?_
  have h : gOk X "PagewrightModel" cX8_unwrites 2 1 0 0 := h
  have hE : gEnd X l w bs 0 none 0 none (m, s0) := hE
  show G X 0 0 0 [(11, 0), (0, a_e)] [] (m, s)
  obtain ⟨k1, ek1, hF⟩ := bn_ex hF
  have J1 : ∀ (s1 : S2), k1 s1 = some (r0, s0) → G X 0 0 31 [(11, 0), (0, a_e)] [] (m, s1) := by
    intro s1 hF
    rw [ek1] at hF
    obtain ⟨e1, e2⟩ := some_2 hF
    rw [← e2] at hE
    exact g_vret h 31 dX8_unwrites_31 hE rfl ⟨(Nat.le_of_ble_eq_true rfl), (Nat.le_of_ble_eq_true rfl)⟩
  refine G_typ fun hT_s => ?_
  have t1 : 0 ≤ s 116 a_e ∧ s 116 a_e ≤ 2 := hT_s.2 116 a_e
  have t2 : 0 ≤ s 118 a_e ∧ s 118 a_e ≤ 1 := hT_s.2 118 a_e
  have J2 : (s 116 a_e = 1) ∧ (s 118 a_e ≠ 0) → G X 0 0 19 [(11, 0), (0, a_e)] [] (m, s) := by
    intro h3
    have hF := ite_t h3 hF
    refine g_aload_nq h 19 dX8_unwrites_19 rfl rfl ?_
    refine gf_M_writable h 20 dX8_unwrites_20 kw_1024 ?_
    refine g_iload_n h 23 dX8_unwrites_23 rfl ?_
    refine g_iconst h 24 dX8_unwrites_24 ?_
    obtain ⟨s2, es2, hF⟩ := bn_ex hF
    refine as_M_writable h 25 dX8_unwrites_25 (by omega) (by omega) ?_
    rw [← es2]
    refine g_aload_nq h 26 dX8_unwrites_26 rfl rfl ?_
    refine g_iload_n h 27 dX8_unwrites_27 rfl ?_
    obtain ⟨r1, s3, c1, hF⟩ := cb_some hF
    refine g_callV h hE 28 dX8_unwrites_28 (ctX8_tells hl c1) mwX8_tells kw_1200 (by decide) (by decide) rfl (Nat.le_of_ble_eq_true rfl) rfl (Nat.le_of_ble_eq_true rfl) ⟨Nat.le_of_ble_eq_true rfl, Nat.le_of_ble_eq_true rfl⟩ rfl rfl ?_
    show G X 0 0 31 [(11, 0), (0, a_e)] [] (m, s3)
    exact J1 _ hF
  have J3 : ¬ ((s 116 a_e = 1) ∧ (s 118 a_e ≠ 0)) → G X 0 0 31 [(11, 0), (0, a_e)] [] (m, s) := by
    intro h4
    have hF := ite_f h4 hF
    exact J1 _ hF
  refine g_aload_nq h 0 dX8_unwrites_0 rfl rfl ?_
  refine gf_M_state h 1 dX8_unwrites_1 kw_1022 ?_
  refine g_iload_n h 4 dX8_unwrites_4 rfl ?_
  refine al_M_state h 5 dX8_unwrites_5 (by omega) ?_
  refine g_iconst h 6 dX8_unwrites_6 ?_
  refine g_icmp_ne h 7 31 (gRi (by omega)) (gRi (by omega)) dX8_unwrites_7 (by decide) (fun h1 => ?_) (fun h1 => ?_)
  · exact J3 (fun q => h1 q.1)
  · refine g_aload_nq h 10 dX8_unwrites_10 rfl rfl ?_
    refine gf_M_writable h 11 dX8_unwrites_11 kw_1024 ?_
    refine g_iload_n h 14 dX8_unwrites_14 rfl ?_
    refine al_M_writable h 15 dX8_unwrites_15 (by omega) ?_
    refine g_if_eq h 16 31 (gRi (by omega)) dX8_unwrites_16 (by decide) (fun h2 => ?_) (fun h2 => ?_)
    · exact J3 (fun q => (fun q => q h2) q.2)
    · exact J2 ⟨h1, h2⟩
-- PagewrightModel.about
def FX8_about (a_s a_what : Int) (s : S2) : Option (Int × S2) :=
  rgd (-2147483648) 2147483647 <| gd ((-2147483648) ≤ a_s ∧ a_s ≤ 2147483647) <| gd ((-2147483648) ≤ a_what ∧ a_what ≤ 2147483647) <| cb (FX8_asked_ (if (0 ≤ a_s) ∧ (a_s ≤ (s 102 0) - 1) then 1 else 0 : Int) (if (0 ≤ a_what) ∧ (a_what ≤ 5) then 1 else 0 : Int) s) fun r1 s1 => if r1 ≠ 0 then bn (fun (v1 : Int) (s2 : S2) => some (v1, s2)) fun k1 => if a_what = 0 then gd (0 ≤ a_s ∧ a_s ≤ 5) <| k1 (if s1 106 a_s ≠ 0 then 1 else 0 : Int) s1 else bn (fun (v3 : Int) (s3 : S2) => k1 v3 s3) fun k2 => if a_what = 1 then cb (FX8_regionsOf a_s s1) fun r2 s4 => k2 r2 s4 else bn (fun (v4 : Int) (s5 : S2) => k2 v4 s5) fun k3 => if a_what < 4 then cb (FX8_inState a_s (a_what - 1) s1) fun r3 s6 => k3 r3 s6 else bn (fun (v5 : Int) (s7 : S2) => k3 v5 s7) fun k4 => if a_what = 4 then cb (FX8_blocksOf a_s s1) fun r4 s8 => k4 r4 s8 else cb (FX8_scoreOf a_s s1) fun r5 s9 => k4 r5 s9 else some (0, s1)
theorem rgX8_about {a_s a_what : Int} {s s0 : S2} {r0 : Int} (hF : FX8_about a_s a_what s = some (r0, s0)) : (-2147483648) ≤ r0 ∧ r0 ≤ 2147483647 := (rgd_some hF).2
set_option maxRecDepth 100000 in
set_option maxHeartbeats 4000000 in
theorem ctX8_about {l : Launch} {w : gW} {bs : Nat} (hl : l.stackTraces = false) {a_s a_what : Int} {s m s0 : S2} {r0 : Int} (hF : FX8_about a_s a_what s = some (r0, s0)) : gMet l w bs yX8_about cX8_about 3 (some FieldType.int) 2 0 [(11, 0), (0, a_s), (0, a_what)] (m, s) 0 (some (0, r0)) (m, s0) := by
  unfold FX8_about at hF
  obtain ⟨hF, hr⟩ := rgd_some hF
  obtain ⟨q_a_s, hF⟩ := gd_some hF
  obtain ⟨q_a_what, hF⟩ := gd_some hF
  refine g_start hl (by decide) (Nat.le_of_ble_eq_true rfl) rfl fun X h hE => ?_
  have h : gOk X "PagewrightModel" cX8_about 3 2 0 0 := h
  have hE : gEnd X l w bs 0 (some FieldType.int) 0 (some (0, r0)) (m, s0) := hE
  show G X 0 0 0 [(11, 0), (0, a_s), (0, a_what)] [] (m, s)
  refine g_aload_nq h 0 dX8_about_0 rfl rfl ?_
  refine G_typ fun hT_s => ?_
  have t1 : 0 ≤ s 102 0 ∧ s 102 0 ≤ 6 := hT_s.2 102 0
  refine g_aload_nq h 1 dX8_about_1 rfl rfl ?_
  refine g_iload_n h 2 dX8_about_2 rfl ?_
  refine g_callV h hE 3 dX8_about_3 (cpX8_isSpace (a_s := a_s) hl (by omega)) mwX8_isSpace kw_1156 (by decide) (by decide) rfl (Nat.le_of_ble_eq_true rfl) rfl (Nat.le_of_ble_eq_true rfl) ⟨Nat.le_of_ble_eq_true rfl, Nat.le_of_ble_eq_true rfl⟩ rfl rfl ?_
  show G X 0 0 6 [(11, 0), (0, a_s), (0, a_what)] [(0, (if (0 ≤ a_s) ∧ (a_s ≤ (s 102 0) - 1) then 1 else 0 : Int)), (11, 0)] (m, s)
  refine g_iload_n h 6 dX8_about_6 rfl ?_
  refine g_iconst h 7 dX8_about_7 ?_
  refine g_iconst h 8 dX8_about_8 ?_
  refine g_callS h hE 9 dX8_about_9 (cpX8_in (a_v := a_what) (a_low := 0) (a_high := 5) hl (by omega) (by omega) (by omega)) mwX8_in kw_1142 rfl (Nat.le_of_ble_eq_true rfl) rfl (Nat.le_of_ble_eq_true rfl) ⟨Nat.le_of_ble_eq_true rfl, Nat.le_of_ble_eq_true rfl⟩ rfl rfl ?_
  show G X 0 0 12 [(11, 0), (0, a_s), (0, a_what)] [(0, (if (0 ≤ a_what) ∧ (a_what ≤ 5) then 1 else 0 : Int)), (0, (if (0 ≤ a_s) ∧ (a_s ≤ (s 102 0) - 1) then 1 else 0 : Int)), (11, 0)] (m, s)
  obtain ⟨r1, s1, c1, hF⟩ := cb_some hF
  have t2 : 0 ≤ r1 ∧ r1 ≤ 1 := rgX8_asked_ c1
  refine g_callV h hE 12 dX8_about_12 (ctX8_asked_ hl c1) mwX8_asked_ kw_1145 (by decide) (by decide) rfl (Nat.le_of_ble_eq_true rfl) rfl (Nat.le_of_ble_eq_true rfl) ⟨Nat.le_of_ble_eq_true rfl, Nat.le_of_ble_eq_true rfl⟩ rfl rfl ?_
  show G X 0 0 15 [(11, 0), (0, a_s), (0, a_what)] [(0, r1)] (m, s1)
  refine g_if_ne h 15 20 (gRi (by omega)) dX8_about_15 (by decide) (fun h1 => ?_) (fun h1 => ?_)
  · have hF := ite_t h1 hF
    obtain ⟨k1, ek1, hF⟩ := bn_ex hF
    have J1 : ∀ (v1 : Int) (s2 : S2), ((-2147483648) ≤ v1 ∧ v1 ≤ 2147483647) → k1 v1 s2 = some (r0, s0) → G X 0 0 88 [(11, 0), (0, a_s), (0, a_what)] [(0, v1)] (m, s2) := by
      intro v1 s2 q5 hF
      rw [ek1] at hF
      obtain ⟨e1, e2⟩ := some_2 hF
      rw [← e1, ← e2] at hE
      exact g_iret h 88 dX8_about_88 hE rfl rfl ⟨(Nat.le_of_ble_eq_true rfl), (Nat.le_of_ble_eq_true rfl)⟩
    have J2 : a_what = 0 → G X 0 0 24 [(11, 0), (0, a_s), (0, a_what)] [] (m, s1) := by
      intro h3
      have hF := ite_t h3 hF
      refine G_typ fun hT_s1 => ?_
      have t3 : 0 ≤ s1 106 a_s ∧ s1 106 a_s ≤ 1 := hT_s1.2 106 a_s
      obtain ⟨q1, hF⟩ := gd_some hF
      suffices J4 : ∀ v2 : Int, v2 = (if s1 106 a_s ≠ 0 then 1 else 0 : Int) → G X 0 0 88 [(11, 0), (0, a_s), (0, a_what)] [(0, v2)] (m, s1) by
        have J5 : s1 106 a_s ≠ 0 → G X 0 0 33 [(11, 0), (0, a_s), (0, a_what)] [] (m, s1) := by
          intro h5
          refine g_iconst h 33 dX8_about_33 ?_
          refine g_goto h 34 88 dX8_about_34 (by decide) ?_
          exact J4 _ (if_pos h5).symm
        have J6 : ¬ (s1 106 a_s ≠ 0) → G X 0 0 37 [(11, 0), (0, a_s), (0, a_what)] [] (m, s1) := by
          intro h6
          refine g_iconst h 37 dX8_about_37 ?_
          refine g_goto h 38 88 dX8_about_38 (by decide) ?_
          exact J4 _ (if_neg h6).symm
        refine g_aload_nq h 24 dX8_about_24 rfl rfl ?_
        refine gf_M_lives h 25 dX8_about_25 kw_1012 ?_
        refine g_iload_n h 28 dX8_about_28 rfl ?_
        refine al_M_lives h 29 dX8_about_29 (by omega) ?_
        refine g_if_eq h 30 37 (gRi (by omega)) dX8_about_30 (by decide) (fun h4 => ?_) (fun h4 => ?_)
        · exact J6 (fun q => q h4)
        · exact J5 h4
      intro v2 e1
      subst e1
      exact J1 _ _ (by omega) hF
    have J3 : ¬ (a_what = 0) → G X 0 0 41 [(11, 0), (0, a_s), (0, a_what)] [] (m, s1) := by
      intro h7
      have hF := ite_f h7 hF
      obtain ⟨k2, ek2, hF⟩ := bn_ex hF
      have J7 : ∀ (v3 : Int) (s3 : S2), ((-2147483648) ≤ v3 ∧ v3 ≤ 2147483647) → k2 v3 s3 = some (r0, s0) → G X 0 0 88 [(11, 0), (0, a_s), (0, a_what)] [(0, v3)] (m, s3) := by
        intro v3 s3 q4 hF
        rw [ek2] at hF
        exact J1 _ _ (by omega) hF
      have J8 : a_what = 1 → G X 0 0 46 [(11, 0), (0, a_s), (0, a_what)] [] (m, s1) := by
        intro h9
        have hF := ite_t h9 hF
        refine g_aload_nq h 46 dX8_about_46 rfl rfl ?_
        refine g_iload_n h 47 dX8_about_47 rfl ?_
        obtain ⟨r2, s4, c2, hF⟩ := cb_some hF
        have t4 : 0 ≤ r2 ∧ r2 ≤ 32 := rgX8_regionsOf c2
        refine g_callV h hE 48 dX8_about_48 (ctX8_regionsOf hl c2) mwX8_regionsOf kw_1176 (by decide) (by decide) rfl (Nat.le_of_ble_eq_true rfl) rfl (Nat.le_of_ble_eq_true rfl) ⟨Nat.le_of_ble_eq_true rfl, Nat.le_of_ble_eq_true rfl⟩ rfl rfl ?_
        show G X 0 0 51 [(11, 0), (0, a_s), (0, a_what)] [(0, r2)] (m, s4)
        refine g_goto h 51 88 dX8_about_51 (by decide) ?_
        exact J7 _ _ (by omega) hF
      have J9 : ¬ (a_what = 1) → G X 0 0 54 [(11, 0), (0, a_s), (0, a_what)] [] (m, s1) := by
        intro h10
        have hF := ite_f h10 hF
        obtain ⟨k3, ek3, hF⟩ := bn_ex hF
        have J10 : ∀ (v4 : Int) (s5 : S2), ((-2147483648) ≤ v4 ∧ v4 ≤ 2147483647) → k3 v4 s5 = some (r0, s0) → G X 0 0 88 [(11, 0), (0, a_s), (0, a_what)] [(0, v4)] (m, s5) := by
          intro v4 s5 q3 hF
          rw [ek3] at hF
          exact J7 _ _ (by omega) hF
        have J11 : a_what < 4 → G X 0 0 59 [(11, 0), (0, a_s), (0, a_what)] [] (m, s1) := by
          intro h12
          have hF := ite_t h12 hF
          refine g_aload_nq h 59 dX8_about_59 rfl rfl ?_
          refine g_iload_n h 60 dX8_about_60 rfl ?_
          refine g_iload_n h 61 dX8_about_61 rfl ?_
          refine g_iconst h 62 dX8_about_62 ?_
          refine g_isub h 63 dX8_about_63 ?_
          obtain ⟨r3, s6, c3, hF⟩ := cb_some hF
          have t5 : 0 ≤ r3 ∧ r3 ≤ 32 := rgX8_inState c3
          refine g_callV h hE 64 dX8_about_64 (ctX8_inState hl c3) mwX8_inState kw_1460 (by decide) (by decide) rfl (Nat.le_of_ble_eq_true rfl) rfl (Nat.le_of_ble_eq_true rfl) ⟨Nat.le_of_ble_eq_true rfl, Nat.le_of_ble_eq_true rfl⟩ rfl rfl ?_
          show G X 0 0 67 [(11, 0), (0, a_s), (0, a_what)] [(0, r3)] (m, s6)
          refine g_goto h 67 88 dX8_about_67 (by decide) ?_
          exact J10 _ _ (by omega) hF
        have J12 : ¬ (a_what < 4) → G X 0 0 70 [(11, 0), (0, a_s), (0, a_what)] [] (m, s1) := by
          intro h13
          have hF := ite_f h13 hF
          obtain ⟨k4, ek4, hF⟩ := bn_ex hF
          have J13 : ∀ (v5 : Int) (s7 : S2), ((-2147483648) ≤ v5 ∧ v5 ≤ 2147483647) → k4 v5 s7 = some (r0, s0) → G X 0 0 88 [(11, 0), (0, a_s), (0, a_what)] [(0, v5)] (m, s7) := by
            intro v5 s7 q2 hF
            rw [ek4] at hF
            exact J10 _ _ (by omega) hF
          have J14 : a_what = 4 → G X 0 0 75 [(11, 0), (0, a_s), (0, a_what)] [] (m, s1) := by
            intro h15
            have hF := ite_t h15 hF
            refine g_aload_nq h 75 dX8_about_75 rfl rfl ?_
            refine g_iload_n h 76 dX8_about_76 rfl ?_
            obtain ⟨r4, s8, c4, hF⟩ := cb_some hF
            have t6 : 0 ≤ r4 ∧ r4 ≤ 8 := rgX8_blocksOf c4
            refine g_callV h hE 77 dX8_about_77 (ctX8_blocksOf hl c4) mwX8_blocksOf kw_1412 (by decide) (by decide) rfl (Nat.le_of_ble_eq_true rfl) rfl (Nat.le_of_ble_eq_true rfl) ⟨Nat.le_of_ble_eq_true rfl, Nat.le_of_ble_eq_true rfl⟩ rfl rfl ?_
            show G X 0 0 80 [(11, 0), (0, a_s), (0, a_what)] [(0, r4)] (m, s8)
            refine g_goto h 80 88 dX8_about_80 (by decide) ?_
            exact J13 _ _ (by omega) hF
          have J15 : ¬ (a_what = 4) → G X 0 0 83 [(11, 0), (0, a_s), (0, a_what)] [] (m, s1) := by
            intro h16
            have hF := ite_f h16 hF
            refine g_aload_nq h 83 dX8_about_83 rfl rfl ?_
            refine g_iload_n h 84 dX8_about_84 rfl ?_
            obtain ⟨r5, s9, c5, hF⟩ := cb_some hF
            have t7 : (-50) ≤ r5 ∧ r5 ≤ 82 := rgX8_scoreOf c5
            refine g_callV h hE 85 dX8_about_85 (ctX8_scoreOf hl c5) mwX8_scoreOf kw_1244 (by decide) (by decide) rfl (Nat.le_of_ble_eq_true rfl) rfl (Nat.le_of_ble_eq_true rfl) ⟨Nat.le_of_ble_eq_true rfl, Nat.le_of_ble_eq_true rfl⟩ rfl rfl ?_
            show G X 0 0 88 [(11, 0), (0, a_s), (0, a_what)] [(0, r5)] (m, s9)
            exact J13 _ _ (by omega) hF
          refine g_iload_n h 70 dX8_about_70 rfl ?_
          refine g_iconst h 71 dX8_about_71 ?_
          refine g_icmp_ne h 72 83 (gRi (by omega)) (gRi (by omega)) dX8_about_72 (by decide) (fun h14 => ?_) (fun h14 => ?_)
          · exact J15 h14
          · exact J14 h14
        refine g_iload_n h 54 dX8_about_54 rfl ?_
        refine g_iconst h 55 dX8_about_55 ?_
        refine g_icmp_ge h 56 70 (gRi (by omega)) (gRi (by omega)) dX8_about_56 (by decide) (fun h11 => ?_) (fun h11 => ?_)
        · exact J12 (Int.not_lt.mpr h11)
        · exact J11 h11
      refine g_iload_n h 41 dX8_about_41 rfl ?_
      refine g_iconst h 42 dX8_about_42 ?_
      refine g_icmp_ne h 43 54 (gRi (by omega)) (gRi (by omega)) dX8_about_43 (by decide) (fun h8 => ?_) (fun h8 => ?_)
      · exact J9 h8
      · exact J8 h8
    refine g_iload_n h 20 dX8_about_20 rfl ?_
    refine g_if_ne h 21 41 (gRi (by omega)) dX8_about_21 (by decide) (fun h2 => ?_) (fun h2 => ?_)
    · exact J3 h2
    · exact J2 h2
  · have hF := ite_f (fun q => q h1) hF
    refine g_iconst h 18 dX8_about_18 ?_
    obtain ⟨e1, e2⟩ := some_2 hF
    rw [← e1, ← e2] at hE
    exact g_iret h 19 dX8_about_19 hE rfl rfl ⟨(Nat.le_of_ble_eq_true rfl), (Nat.le_of_ble_eq_true rfl)⟩
-- PagewrightModel.adjust
def FX8_adjust (a_s a_by : Int) (s : S2) : Option (Int × S2) :=
  rgd (-2147483648) 2147483647 <| gd ((-2147483648) ≤ a_s ∧ a_s ≤ 2147483647) <| gd ((-2147483648) ≤ a_by ∧ a_by ≤ 2147483647) <| cb (FX8_asked_ (if (0 ≤ a_s) ∧ (a_s ≤ (s 102 0) - 1) then 1 else 0 : Int) (if ((-50) ≤ a_by) ∧ (a_by ≤ 50) then 1 else 0 : Int) s) fun r1 s1 => if r1 ≠ 0 then gd (0 ≤ a_s ∧ a_s ≤ 5) <| gd ((-50) ≤ a_by ∧ a_by ≤ 50) <| bn (upd2 s1 108 a_s a_by) fun s2 => some (s1 108 a_s, s2) else some (0, s1)
theorem rgX8_adjust {a_s a_by : Int} {s s0 : S2} {r0 : Int} (hF : FX8_adjust a_s a_by s = some (r0, s0)) : (-2147483648) ≤ r0 ∧ r0 ≤ 2147483647 := (rgd_some hF).2
set_option maxRecDepth 100000 in
set_option maxHeartbeats 4000000 in
theorem ctX8_adjust {l : Launch} {w : gW} {bs : Nat} (hl : l.stackTraces = false) {a_s a_by : Int} {s m s0 : S2} {r0 : Int} (hF : FX8_adjust a_s a_by s = some (r0, s0)) : gMet l w bs yX8_adjust cX8_adjust 4 (some FieldType.int) 2 0 [(11, 0), (0, a_s), (0, a_by)] (m, s) 0 (some (0, r0)) (m, s0) := by
  unfold FX8_adjust at hF
  obtain ⟨hF, hr⟩ := rgd_some hF
  obtain ⟨q_a_s, hF⟩ := gd_some hF
  obtain ⟨q_a_by, hF⟩ := gd_some hF
  refine g_start hl (by decide) (Nat.le_of_ble_eq_true rfl) rfl fun X h hE => ?_
  have h : gOk X "PagewrightModel" cX8_adjust 4 2 0 0 := h
  have hE : gEnd X l w bs 0 (some FieldType.int) 0 (some (0, r0)) (m, s0) := hE
  show G X 0 0 0 [(11, 0), (0, a_s), (0, a_by), (1, 0)] [] (m, s)
  refine g_aload_nq h 0 dX8_adjust_0 rfl rfl ?_
  refine G_typ fun hT_s => ?_
  have t1 : 0 ≤ s 102 0 ∧ s 102 0 ≤ 6 := hT_s.2 102 0
  refine g_aload_nq h 1 dX8_adjust_1 rfl rfl ?_
  refine g_iload_n h 2 dX8_adjust_2 rfl ?_
  refine g_callV h hE 3 dX8_adjust_3 (cpX8_isSpace (a_s := a_s) hl (by omega)) mwX8_isSpace kw_1156 (by decide) (by decide) rfl (Nat.le_of_ble_eq_true rfl) rfl (Nat.le_of_ble_eq_true rfl) ⟨Nat.le_of_ble_eq_true rfl, Nat.le_of_ble_eq_true rfl⟩ rfl rfl ?_
  show G X 0 0 6 [(11, 0), (0, a_s), (0, a_by), (1, 0)] [(0, (if (0 ≤ a_s) ∧ (a_s ≤ (s 102 0) - 1) then 1 else 0 : Int)), (11, 0)] (m, s)
  refine g_iload_n h 6 dX8_adjust_6 rfl ?_
  refine g_bipush h 7 dX8_adjust_7 (by decide) ?_
  refine g_bipush h 9 dX8_adjust_9 (by decide) ?_
  refine g_callS h hE 11 dX8_adjust_11 (cpX8_in (a_v := a_by) (a_low := (-50)) (a_high := 50) hl (by omega) (by omega) (by omega)) mwX8_in kw_1142 rfl (Nat.le_of_ble_eq_true rfl) rfl (Nat.le_of_ble_eq_true rfl) ⟨Nat.le_of_ble_eq_true rfl, Nat.le_of_ble_eq_true rfl⟩ rfl rfl ?_
  show G X 0 0 14 [(11, 0), (0, a_s), (0, a_by), (1, 0)] [(0, (if ((-50) ≤ a_by) ∧ (a_by ≤ 50) then 1 else 0 : Int)), (0, (if (0 ≤ a_s) ∧ (a_s ≤ (s 102 0) - 1) then 1 else 0 : Int)), (11, 0)] (m, s)
  obtain ⟨r1, s1, c1, hF⟩ := cb_some hF
  have t2 : 0 ≤ r1 ∧ r1 ≤ 1 := rgX8_asked_ c1
  refine g_callV h hE 14 dX8_adjust_14 (ctX8_asked_ hl c1) mwX8_asked_ kw_1145 (by decide) (by decide) rfl (Nat.le_of_ble_eq_true rfl) rfl (Nat.le_of_ble_eq_true rfl) ⟨Nat.le_of_ble_eq_true rfl, Nat.le_of_ble_eq_true rfl⟩ rfl rfl ?_
  show G X 0 0 17 [(11, 0), (0, a_s), (0, a_by), (1, 0)] [(0, r1)] (m, s1)
  refine g_if_ne h 17 22 (gRi (by omega)) dX8_adjust_17 (by decide) (fun h1 => ?_) (fun h1 => ?_)
  · have hF := ite_t h1 hF
    refine G_typ fun hT_s1 => ?_
    have t3 : (-50) ≤ s1 108 a_s ∧ s1 108 a_s ≤ 50 := hT_s1.2 108 a_s
    obtain ⟨q1, hF⟩ := gd_some hF
    refine g_aload_nq h 22 dX8_adjust_22 rfl rfl ?_
    refine gf_M_adjusted h 23 dX8_adjust_23 kw_1014 ?_
    refine g_iload_n h 26 dX8_adjust_26 rfl ?_
    refine al_M_adjusted h 27 dX8_adjust_27 (by omega) ?_
    refine g_istore_n h 28 dX8_adjust_28 (Nat.le_of_ble_eq_true rfl) rfl (L' := [(11, 0), (0, a_s), (0, a_by), (0, s1 108 a_s)]) rfl ?_
    refine g_aload_nq h 29 dX8_adjust_29 rfl rfl ?_
    refine gf_M_adjusted h 30 dX8_adjust_30 kw_1014 ?_
    refine g_iload_n h 33 dX8_adjust_33 rfl ?_
    refine g_iload_n h 34 dX8_adjust_34 rfl ?_
    obtain ⟨q2, hF⟩ := gd_some hF
    obtain ⟨s2, es2, hF⟩ := bn_ex hF
    refine as_M_adjusted h 35 dX8_adjust_35 (by omega) (by omega) ?_
    rw [← es2]
    refine g_iload_n h 36 dX8_adjust_36 rfl ?_
    obtain ⟨e1, e2⟩ := some_2 hF
    rw [← e1, ← e2] at hE
    exact g_iret h 37 dX8_adjust_37 hE rfl rfl ⟨(Nat.le_of_ble_eq_true rfl), (Nat.le_of_ble_eq_true rfl)⟩
  · have hF := ite_f (fun q => q h1) hF
    refine g_iconst h 20 dX8_adjust_20 ?_
    obtain ⟨e1, e2⟩ := some_2 hF
    rw [← e1, ← e2] at hE
    exact g_iret h 21 dX8_adjust_21 hE rfl rfl ⟨(Nat.le_of_ble_eq_true rfl), (Nat.le_of_ble_eq_true rfl)⟩
-- PagewrightModel.canJoin
def FX8_canJoin (a_s a_a : Int) (s : S2) : Option (Int × S2) :=
  rgd 0 1 <| gd (0 ≤ a_s ∧ a_s ≤ 5) <| gd (0 ≤ a_a ∧ a_a ≤ 28) <| gl2 1000 (fun k1 (x_can1 : Int) (x_k1 : Int) (s1 : S2) => if (x_k1 < 4) ∧ (x_can1 ≠ 0) then bn (fun (v1 : Int) (s2 : S2) => k1 v1 (x_k1 + 1) s2) fun k2 => bn (fun (s3 : S2) => k2 1 s3) fun k3 => bn (fun (s4 : S2) => k2 0 s4) fun k4 => gd (0 ≤ ((32 * a_s) + a_a) + x_k1 ∧ ((32 * a_s) + a_a) + x_k1 ≤ 191) <| if (((((0 < s1 111 (((32 * a_s) + a_a) + x_k1)) ∧ (s1 112 (((32 * a_s) + a_a) + x_k1) = (-1))) ∧ (¬ (s1 120 (((32 * a_s) + a_a) + x_k1) ≠ 0))) ∧ (s1 116 (((32 * a_s) + a_a) + x_k1) = 1)) ∧ (s1 121 (s1 117 (((32 * a_s) + a_a) + x_k1)) = 1)) ∧ (¬ (s1 126 (s1 117 (((32 * a_s) + a_a) + x_k1)) ≠ 0)) then cb (FX8_entriesOf (s1 117 (((32 * a_s) + a_a) + x_k1)) s1) fun r1 s5 => if r1 = 1 then gd ((¬ (x_k1 = 0)) → 0 ≤ (((32 * a_s) + a_a) + x_k1) - 1 ∧ (((32 * a_s) + a_a) + x_k1) - 1 ≤ 191) <| if (x_k1 = 0) ∨ ((((s5 111 ((((32 * a_s) + a_a) + x_k1) - 1) = s5 111 (((32 * a_s) + a_a) + x_k1)) ∧ (s5 115 ((((32 * a_s) + a_a) + x_k1) - 1) = s5 115 (((32 * a_s) + a_a) + x_k1))) ∧ (s5 112 ((((32 * a_s) + a_a) + x_k1) - 1) = s5 112 (((32 * a_s) + a_a) + x_k1))) ∧ ((s5 112 ((((32 * a_s) + a_a) + x_k1) - 1) = (-1)) ∨ ((s5 114 ((((32 * a_s) + a_a) + x_k1) - 1) = s5 114 (((32 * a_s) + a_a) + x_k1)) ∧ (s5 113 (((32 * a_s) + a_a) + x_k1) = (s5 113 ((((32 * a_s) + a_a) + x_k1) - 1)) + 1)))) then k3 s5 else k4 s5 else k4 s5 else k4 s1 else some (x_can1, s1)) 1 0 s
theorem rgX8_canJoin {a_s a_a : Int} {s s0 : S2} {r0 : Int} (hF : FX8_canJoin a_s a_a s = some (r0, s0)) : 0 ≤ r0 ∧ r0 ≤ 1 := (rgd_some hF).2
set_option maxRecDepth 100000 in
set_option maxHeartbeats 4000000 in
theorem ctX8_canJoin {l : Launch} {w : gW} {bs : Nat} (hl : l.stackTraces = false) {a_s a_a : Int} {s m s0 : S2} {r0 : Int} (hF : FX8_canJoin a_s a_a s = some (r0, s0)) : gMet l w bs yX8_canJoin cX8_canJoin 6 (some FieldType.boolean) 2 0 [(11, 0), (0, a_s), (0, a_a)] (m, s) 0 (some (0, r0)) (m, s0) := by
  unfold FX8_canJoin at hF
  obtain ⟨hF, hr⟩ := rgd_some hF
  obtain ⟨q_a_s, hF⟩ := gd_some hF
  obtain ⟨q_a_a, hF⟩ := gd_some hF
  refine g_start hl (by decide) (Nat.le_of_ble_eq_true rfl) rfl fun X h hE => ?_
  have h : gOk X "PagewrightModel" cX8_canJoin 6 2 0 0 := h
  have hE : gEnd X l w bs 0 (some FieldType.boolean) 0 (some (0, r0)) (m, s0) := hE
  show G X 0 0 0 [(11, 0), (0, a_s), (0, a_a), (1, 0), (1, 0), (1, 0)] [] (m, s)
  refine g_iconst h 0 dX8_canJoin_0 ?_
  refine g_istore_n h 1 dX8_canJoin_1 (Nat.le_of_ble_eq_true rfl) rfl (L' := [(11, 0), (0, a_s), (0, a_a), (0, 1), (1, 0), (1, 0)]) rfl ?_
  refine g_iconst h 2 dX8_canJoin_2 ?_
  refine g_istore h 3 dX8_canJoin_3 (Nat.le_of_ble_eq_true rfl) rfl (L' := [(11, 0), (0, a_s), (0, a_a), (0, 1), (0, 0), (1, 0)]) rfl ?_
  obtain ⟨f1, ef1, hF⟩ := glx2 hF
  have J11 : ∀ (n1 : Nat) (x_can1 x_k1 : Int) (s1 : S2), (0 ≤ x_can1 ∧ x_can1 ≤ 1) → (0 ≤ x_k1 ∧ x_k1 ≤ 4) → gl2 n1 f1 x_can1 x_k1 s1 = some (r0, s0) → G X 0 0 5 [(11, 0), (0, a_s), (0, a_a), (0, x_can1), (0, x_k1), (1, 0)] [] (m, s1) := by
    intro n1
    induction n1 with
    | zero => intro x_can1 x_k1 s1 _ _ hF; exact (gl2_0 hF).elim
    | succ n1 ih1 =>
      intro x_can1 x_k1 s1 q1 q2 hF
      obtain ⟨k1, ek1, hF⟩ := glu2 hF ef1
      have J2 : (x_k1 < 4) ∧ (x_can1 ≠ 0) → G X 0 0 15 [(11, 0), (0, a_s), (0, a_a), (0, x_can1), (0, x_k1), (1, 0)] [] (m, s1) := by
        intro h3
        have hF := ite_t h3 hF
        refine g_bipush h 15 dX8_canJoin_15 (by decide) ?_
        refine g_iload_n h 17 dX8_canJoin_17 rfl ?_
        refine g_imul h 18 dX8_canJoin_18 ?_
        refine g_iload_n h 19 dX8_canJoin_19 rfl ?_
        refine g_iadd h 20 dX8_canJoin_20 ?_
        refine g_iload h 21 dX8_canJoin_21 rfl ?_
        refine g_iadd h 23 dX8_canJoin_23 ?_
        refine g_istore h 24 dX8_canJoin_24 (Nat.le_of_ble_eq_true rfl) rfl (L' := [(11, 0), (0, a_s), (0, a_a), (0, x_can1), (0, x_k1), (0, ((32 * a_s) + a_a) + x_k1)]) rfl ?_
        obtain ⟨k2, ek2, hF⟩ := bn_ex hF
        have J4 : ∀ (v1 : Int) (s2 : S2), (0 ≤ v1 ∧ v1 ≤ 1) → k2 v1 s2 = some (r0, s0) → G X 0 0 137 [(11, 0), (0, a_s), (0, a_a), (0, x_can1), (0, x_k1), (0, ((32 * a_s) + a_a) + x_k1)] [(0, v1)] (m, s2) := by
          intro v1 s2 q5 hF
          rw [ek2] at hF
          refine g_istore_n h 137 dX8_canJoin_137 (Nat.le_of_ble_eq_true rfl) rfl (L' := [(11, 0), (0, a_s), (0, a_a), (0, v1), (0, x_k1), (0, ((32 * a_s) + a_a) + x_k1)]) rfl ?_
          refine g_iinc h 138 dX8_canJoin_138 rfl rfl (L' := [(11, 0), (0, a_s), (0, a_a), (0, v1), (0, x_k1 + 1), (0, ((32 * a_s) + a_a) + x_k1)]) rfl ?_
          refine g_goto h 141 5 dX8_canJoin_141 (by decide) ?_
          refine G_weak (L' := [(11, 0), (0, a_s), (0, a_a), (0, v1), (0, x_k1 + 1), (1, 0)]) ⟨Or.inr rfl, Or.inr rfl, Or.inr rfl, Or.inr rfl, Or.inr rfl, Or.inl rfl, trivial⟩ ?_
          rw [ek1] at hF
          exact ih1 _ _ _ (by omega) (by omega) hF
        obtain ⟨k3, ek3, hF⟩ := bn_ex hF
        have J5 : ∀ (s3 : S2), k3 s3 = some (r0, s0) → G X 0 0 132 [(11, 0), (0, a_s), (0, a_a), (0, x_can1), (0, x_k1), (0, ((32 * a_s) + a_a) + x_k1)] [] (m, s3) := by
          intro s3 hF
          rw [ek3] at hF
          refine g_iconst h 132 dX8_canJoin_132 ?_
          refine g_goto h 133 137 dX8_canJoin_133 (by decide) ?_
          exact J4 _ _ (by omega) hF
        obtain ⟨k4, ek4, hF⟩ := bn_ex hF
        have J6 : ∀ (s4 : S2), k4 s4 = some (r0, s0) → G X 0 0 136 [(11, 0), (0, a_s), (0, a_a), (0, x_can1), (0, x_k1), (0, ((32 * a_s) + a_a) + x_k1)] [] (m, s4) := by
          intro s4 hF
          rw [ek4] at hF
          refine g_iconst h 136 dX8_canJoin_136 ?_
          exact J4 _ _ (by omega) hF
        refine G_typ fun hT_s1 => ?_
        have t1 : 0 ≤ s1 111 (((32 * a_s) + a_a) + x_k1) ∧ s1 111 (((32 * a_s) + a_a) + x_k1) ≤ 3 := hT_s1.2 111 (((32 * a_s) + a_a) + x_k1)
        have t2 : (-1) ≤ s1 112 (((32 * a_s) + a_a) + x_k1) ∧ s1 112 (((32 * a_s) + a_a) + x_k1) ≤ 2 := hT_s1.2 112 (((32 * a_s) + a_a) + x_k1)
        have t3 : 0 ≤ s1 120 (((32 * a_s) + a_a) + x_k1) ∧ s1 120 (((32 * a_s) + a_a) + x_k1) ≤ 1 := hT_s1.2 120 (((32 * a_s) + a_a) + x_k1)
        have t4 : 0 ≤ s1 116 (((32 * a_s) + a_a) + x_k1) ∧ s1 116 (((32 * a_s) + a_a) + x_k1) ≤ 2 := hT_s1.2 116 (((32 * a_s) + a_a) + x_k1)
        have t5 : 0 ≤ s1 117 (((32 * a_s) + a_a) + x_k1) ∧ s1 117 (((32 * a_s) + a_a) + x_k1) ≤ 23 := hT_s1.2 117 (((32 * a_s) + a_a) + x_k1)
        have t6 : 0 ≤ s1 121 (s1 117 (((32 * a_s) + a_a) + x_k1)) ∧ s1 121 (s1 117 (((32 * a_s) + a_a) + x_k1)) ≤ 2 := hT_s1.2 121 (s1 117 (((32 * a_s) + a_a) + x_k1))
        have t7 : 0 ≤ s1 126 (s1 117 (((32 * a_s) + a_a) + x_k1)) ∧ s1 126 (s1 117 (((32 * a_s) + a_a) + x_k1)) ≤ 1 := hT_s1.2 126 (s1 117 (((32 * a_s) + a_a) + x_k1))
        obtain ⟨q3, hF⟩ := gd_some hF
        have J7 : (((((0 < s1 111 (((32 * a_s) + a_a) + x_k1)) ∧ (s1 112 (((32 * a_s) + a_a) + x_k1) = (-1))) ∧ (¬ (s1 120 (((32 * a_s) + a_a) + x_k1) ≠ 0))) ∧ (s1 116 (((32 * a_s) + a_a) + x_k1) = 1)) ∧ (s1 121 (s1 117 (((32 * a_s) + a_a) + x_k1)) = 1)) ∧ (¬ (s1 126 (s1 117 (((32 * a_s) + a_a) + x_k1)) ≠ 0)) → G X 0 0 99 [(11, 0), (0, a_s), (0, a_a), (0, x_can1), (0, x_k1), (0, ((32 * a_s) + a_a) + x_k1)] [] (m, s1) := by
          intro h10
          have hF := ite_t h10 hF
          refine g_aload_nq h 99 dX8_canJoin_99 rfl rfl ?_
          refine g_aload_nq h 100 dX8_canJoin_100 rfl rfl ?_
          refine gf_M_page h 101 dX8_canJoin_101 kw_1023 ?_
          refine g_iload h 104 dX8_canJoin_104 rfl ?_
          refine al_M_page h 106 dX8_canJoin_106 (by omega) ?_
          obtain ⟨r1, s5, c1, hF⟩ := cb_some hF
          have t8 : 0 ≤ r1 ∧ r1 ≤ 192 := rgX8_entriesOf c1
          refine g_callV h hE 107 dX8_canJoin_107 (ctX8_entriesOf hl c1) mwX8_entriesOf kw_1204 (by decide) (by decide) rfl (Nat.le_of_ble_eq_true rfl) rfl (Nat.le_of_ble_eq_true rfl) ⟨Nat.le_of_ble_eq_true rfl, Nat.le_of_ble_eq_true rfl⟩ rfl rfl ?_
          show G X 0 0 110 [(11, 0), (0, a_s), (0, a_a), (0, x_can1), (0, x_k1), (0, ((32 * a_s) + a_a) + x_k1)] [(0, r1)] (m, s5)
          refine g_iconst h 110 dX8_canJoin_110 ?_
          refine g_icmp_ne h 111 136 (gRi (by omega)) (gRi (by omega)) dX8_canJoin_111 (by decide) (fun h11 => ?_) (fun h11 => ?_)
          · have hF := ite_f h11 hF
            exact J6 _ hF
          · have hF := ite_t h11 hF
            refine G_typ fun hT_s5 => ?_
            have t9 : 0 ≤ s5 111 ((((32 * a_s) + a_a) + x_k1) - 1) ∧ s5 111 ((((32 * a_s) + a_a) + x_k1) - 1) ≤ 3 := hT_s5.2 111 ((((32 * a_s) + a_a) + x_k1) - 1)
            have t10 : 0 ≤ s5 111 (((32 * a_s) + a_a) + x_k1) ∧ s5 111 (((32 * a_s) + a_a) + x_k1) ≤ 3 := hT_s5.2 111 (((32 * a_s) + a_a) + x_k1)
            have t11 : 0 ≤ s5 115 ((((32 * a_s) + a_a) + x_k1) - 1) ∧ s5 115 ((((32 * a_s) + a_a) + x_k1) - 1) ≤ 1 := hT_s5.2 115 ((((32 * a_s) + a_a) + x_k1) - 1)
            have t12 : 0 ≤ s5 115 (((32 * a_s) + a_a) + x_k1) ∧ s5 115 (((32 * a_s) + a_a) + x_k1) ≤ 1 := hT_s5.2 115 (((32 * a_s) + a_a) + x_k1)
            have t13 : (-1) ≤ s5 112 ((((32 * a_s) + a_a) + x_k1) - 1) ∧ s5 112 ((((32 * a_s) + a_a) + x_k1) - 1) ≤ 2 := hT_s5.2 112 ((((32 * a_s) + a_a) + x_k1) - 1)
            have t14 : (-1) ≤ s5 112 (((32 * a_s) + a_a) + x_k1) ∧ s5 112 (((32 * a_s) + a_a) + x_k1) ≤ 2 := hT_s5.2 112 (((32 * a_s) + a_a) + x_k1)
            have t15 : 0 ≤ s5 114 ((((32 * a_s) + a_a) + x_k1) - 1) ∧ s5 114 ((((32 * a_s) + a_a) + x_k1) - 1) ≤ 1 := hT_s5.2 114 ((((32 * a_s) + a_a) + x_k1) - 1)
            have t16 : 0 ≤ s5 114 (((32 * a_s) + a_a) + x_k1) ∧ s5 114 (((32 * a_s) + a_a) + x_k1) ≤ 1 := hT_s5.2 114 (((32 * a_s) + a_a) + x_k1)
            have t17 : 0 ≤ s5 113 (((32 * a_s) + a_a) + x_k1) ∧ s5 113 (((32 * a_s) + a_a) + x_k1) ≤ 7 := hT_s5.2 113 (((32 * a_s) + a_a) + x_k1)
            have t18 : 0 ≤ s5 113 ((((32 * a_s) + a_a) + x_k1) - 1) ∧ s5 113 ((((32 * a_s) + a_a) + x_k1) - 1) ≤ 7 := hT_s5.2 113 ((((32 * a_s) + a_a) + x_k1) - 1)
            obtain ⟨q4, hF⟩ := gd_some hF
            have J9 : (x_k1 = 0) ∨ ((((s5 111 ((((32 * a_s) + a_a) + x_k1) - 1) = s5 111 (((32 * a_s) + a_a) + x_k1)) ∧ (s5 115 ((((32 * a_s) + a_a) + x_k1) - 1) = s5 115 (((32 * a_s) + a_a) + x_k1))) ∧ (s5 112 ((((32 * a_s) + a_a) + x_k1) - 1) = s5 112 (((32 * a_s) + a_a) + x_k1))) ∧ ((s5 112 ((((32 * a_s) + a_a) + x_k1) - 1) = (-1)) ∨ ((s5 114 ((((32 * a_s) + a_a) + x_k1) - 1) = s5 114 (((32 * a_s) + a_a) + x_k1)) ∧ (s5 113 (((32 * a_s) + a_a) + x_k1) = (s5 113 ((((32 * a_s) + a_a) + x_k1) - 1)) + 1)))) → G X 0 0 132 [(11, 0), (0, a_s), (0, a_a), (0, x_can1), (0, x_k1), (0, ((32 * a_s) + a_a) + x_k1)] [] (m, s5) := by
              intro h14
              have hF := ite_t h14 hF
              exact J5 _ hF
            have J10 : ¬ ((x_k1 = 0) ∨ ((((s5 111 ((((32 * a_s) + a_a) + x_k1) - 1) = s5 111 (((32 * a_s) + a_a) + x_k1)) ∧ (s5 115 ((((32 * a_s) + a_a) + x_k1) - 1) = s5 115 (((32 * a_s) + a_a) + x_k1))) ∧ (s5 112 ((((32 * a_s) + a_a) + x_k1) - 1) = s5 112 (((32 * a_s) + a_a) + x_k1))) ∧ ((s5 112 ((((32 * a_s) + a_a) + x_k1) - 1) = (-1)) ∨ ((s5 114 ((((32 * a_s) + a_a) + x_k1) - 1) = s5 114 (((32 * a_s) + a_a) + x_k1)) ∧ (s5 113 (((32 * a_s) + a_a) + x_k1) = (s5 113 ((((32 * a_s) + a_a) + x_k1) - 1)) + 1))))) → G X 0 0 136 [(11, 0), (0, a_s), (0, a_a), (0, x_can1), (0, x_k1), (0, ((32 * a_s) + a_a) + x_k1)] [] (m, s5) := by
              intro h15
              have hF := ite_f h15 hF
              exact J6 _ hF
            refine g_iload h 114 dX8_canJoin_114 rfl ?_
            refine g_if_eq h 116 132 (gRi (by omega)) dX8_canJoin_116 (by decide) (fun h12 => ?_) (fun h12 => ?_)
            · exact J9 (Or.inl h12)
            · refine g_aload_nq h 119 dX8_canJoin_119 rfl rfl ?_
              refine g_iload h 120 dX8_canJoin_120 rfl ?_
              refine g_iconst h 122 dX8_canJoin_122 ?_
              refine g_isub h 123 dX8_canJoin_123 ?_
              refine g_iload h 124 dX8_canJoin_124 rfl ?_
              refine g_callV h hE 126 dX8_canJoin_126 (cpX8_areAlike (a_a := (((32 * a_s) + a_a) + x_k1) - 1) (a_b := ((32 * a_s) + a_a) + x_k1) hl (by omega) (by omega)) mwX8_areAlike kw_1180 (by decide) (by decide) rfl (Nat.le_of_ble_eq_true rfl) rfl (Nat.le_of_ble_eq_true rfl) ⟨Nat.le_of_ble_eq_true rfl, Nat.le_of_ble_eq_true rfl⟩ rfl rfl ?_
              show G X 0 0 129 [(11, 0), (0, a_s), (0, a_a), (0, x_can1), (0, x_k1), (0, ((32 * a_s) + a_a) + x_k1)] [(0, (if (((s5 111 ((((32 * a_s) + a_a) + x_k1) - 1) = s5 111 (((32 * a_s) + a_a) + x_k1)) ∧ (s5 115 ((((32 * a_s) + a_a) + x_k1) - 1) = s5 115 (((32 * a_s) + a_a) + x_k1))) ∧ (s5 112 ((((32 * a_s) + a_a) + x_k1) - 1) = s5 112 (((32 * a_s) + a_a) + x_k1))) ∧ ((s5 112 ((((32 * a_s) + a_a) + x_k1) - 1) = (-1)) ∨ ((s5 114 ((((32 * a_s) + a_a) + x_k1) - 1) = s5 114 (((32 * a_s) + a_a) + x_k1)) ∧ (s5 113 (((32 * a_s) + a_a) + x_k1) = (s5 113 ((((32 * a_s) + a_a) + x_k1) - 1)) + 1))) then 1 else 0 : Int))] (m, s5)
              refine g_if_eq h 129 136 (gRi gR_ite) dX8_canJoin_129 (by decide) (fun h13 => ?_) (fun h13 => ?_)
              · exact J10 (fun q => q.elim h12 (iz_f h13))
              · exact J9 (Or.inr (iz_t h13))
        have J8 : ¬ ((((((0 < s1 111 (((32 * a_s) + a_a) + x_k1)) ∧ (s1 112 (((32 * a_s) + a_a) + x_k1) = (-1))) ∧ (¬ (s1 120 (((32 * a_s) + a_a) + x_k1) ≠ 0))) ∧ (s1 116 (((32 * a_s) + a_a) + x_k1) = 1)) ∧ (s1 121 (s1 117 (((32 * a_s) + a_a) + x_k1)) = 1)) ∧ (¬ (s1 126 (s1 117 (((32 * a_s) + a_a) + x_k1)) ≠ 0))) → G X 0 0 136 [(11, 0), (0, a_s), (0, a_a), (0, x_can1), (0, x_k1), (0, ((32 * a_s) + a_a) + x_k1)] [] (m, s1) := by
          intro h16
          have hF := ite_f h16 hF
          exact J6 _ hF
        refine g_aload_nq h 26 dX8_canJoin_26 rfl rfl ?_
        refine gf_M_rights h 27 dX8_canJoin_27 kw_1017 ?_
        refine g_iload h 30 dX8_canJoin_30 rfl ?_
        refine al_M_rights h 32 dX8_canJoin_32 (by omega) ?_
        refine g_if_le h 33 136 (gRi (by omega)) dX8_canJoin_33 (by decide) (fun h4 => ?_) (fun h4 => ?_)
        · exact J8 (fun q => (fun q => (fun q => (fun q => (fun q => (Int.not_lt.mpr h4) q.1) q.1) q.1) q.1) q.1)
        · refine g_aload_nq h 36 dX8_canJoin_36 rfl rfl ?_
          refine gf_M_file h 37 dX8_canJoin_37 kw_1018 ?_
          refine g_iload h 40 dX8_canJoin_40 rfl ?_
          refine al_M_file h 42 dX8_canJoin_42 (by omega) ?_
          refine g_iconst h 43 dX8_canJoin_43 ?_
          refine g_icmp_ne h 44 136 (gRi (by omega)) (gRi (by omega)) dX8_canJoin_44 (by decide) (fun h5 => ?_) (fun h5 => ?_)
          · exact J8 (fun q => (fun q => (fun q => (fun q => (fun q => h5 q.2) q.1) q.1) q.1) q.1)
          · refine g_aload_nq h 47 dX8_canJoin_47 rfl rfl ?_
            refine gf_M_block h 48 dX8_canJoin_48 kw_1026 ?_
            refine g_iload h 51 dX8_canJoin_51 rfl ?_
            refine al_M_block h 53 dX8_canJoin_53 (by omega) ?_
            refine g_if_ne h 54 136 (gRi (by omega)) dX8_canJoin_54 (by decide) (fun h6 => ?_) (fun h6 => ?_)
            · exact J8 (fun q => (fun q => (fun q => (fun q => (fun q => q h6) q.2) q.1) q.1) q.1)
            · refine g_aload_nq h 57 dX8_canJoin_57 rfl rfl ?_
              refine gf_M_state h 58 dX8_canJoin_58 kw_1022 ?_
              refine g_iload h 61 dX8_canJoin_61 rfl ?_
              refine al_M_state h 63 dX8_canJoin_63 (by omega) ?_
              refine g_iconst h 64 dX8_canJoin_64 ?_
              refine g_icmp_ne h 65 136 (gRi (by omega)) (gRi (by omega)) dX8_canJoin_65 (by decide) (fun h7 => ?_) (fun h7 => ?_)
              · exact J8 (fun q => (fun q => (fun q => h7 q.2) q.1) q.1)
              · refine g_aload_nq h 68 dX8_canJoin_68 rfl rfl ?_
                refine gf_M_kind h 69 dX8_canJoin_69 kw_1027 ?_
                refine g_aload_nq h 72 dX8_canJoin_72 rfl rfl ?_
                refine gf_M_page h 73 dX8_canJoin_73 kw_1023 ?_
                refine g_iload h 76 dX8_canJoin_76 rfl ?_
                refine al_M_page h 78 dX8_canJoin_78 (by omega) ?_
                refine al_M_kind h 79 dX8_canJoin_79 (by omega) ?_
                refine g_iconst h 80 dX8_canJoin_80 ?_
                refine g_icmp_ne h 81 136 (gRi (by omega)) (gRi (by omega)) dX8_canJoin_81 (by decide) (fun h8 => ?_) (fun h8 => ?_)
                · exact J8 (fun q => (fun q => h8 q.2) q.1)
                · refine g_aload_nq h 84 dX8_canJoin_84 rfl rfl ?_
                  refine gf_M_mark h 85 dX8_canJoin_85 kw_1032 ?_
                  refine g_aload_nq h 88 dX8_canJoin_88 rfl rfl ?_
                  refine gf_M_page h 89 dX8_canJoin_89 kw_1023 ?_
                  refine g_iload h 92 dX8_canJoin_92 rfl ?_
                  refine al_M_page h 94 dX8_canJoin_94 (by omega) ?_
                  refine al_M_mark h 95 dX8_canJoin_95 (by omega) ?_
                  refine g_if_ne h 96 136 (gRi (by omega)) dX8_canJoin_96 (by decide) (fun h9 => ?_) (fun h9 => ?_)
                  · exact J8 (fun q => (fun q => q h9) q.2)
                  · exact J7 ⟨⟨⟨⟨⟨h4, h5⟩, (fun q => q h6)⟩, h7⟩, h8⟩, (fun q => q h9)⟩
      have J3 : ¬ ((x_k1 < 4) ∧ (x_can1 ≠ 0)) → G X 0 0 144 [(11, 0), (0, a_s), (0, a_a), (0, x_can1), (0, x_k1), (1, 0)] [] (m, s1) := by
        intro h17
        have hF := ite_f h17 hF
        refine g_iload_n h 144 dX8_canJoin_144 rfl ?_
        obtain ⟨e1, e2⟩ := some_2 hF
        rw [← e1, ← e2] at hE
        exact g_iret h 145 dX8_canJoin_145 hE rfl (g_nb (by rw [← e1] at hr; exact hr)) ⟨(Nat.le_of_ble_eq_true rfl), (Nat.le_of_ble_eq_true rfl)⟩
      refine g_iload h 5 dX8_canJoin_5 rfl ?_
      refine g_iconst h 7 dX8_canJoin_7 ?_
      refine g_icmp_ge h 8 144 (gRi (by omega)) (gRi (by omega)) dX8_canJoin_8 (by decide) (fun h1 => ?_) (fun h1 => ?_)
      · exact J3 (fun q => (Int.not_lt.mpr h1) q.1)
      · refine g_iload_n h 11 dX8_canJoin_11 rfl ?_
        refine g_if_eq h 12 144 (gRi (by omega)) dX8_canJoin_12 (by decide) (fun h2 => ?_) (fun h2 => ?_)
        · exact J3 (fun q => (fun q => q h2) q.2)
        · exact J2 ⟨h1, h2⟩
  exact J11 _ _ _ _ (by omega) (by omega) hF
-- PagewrightModel.disk
def FX8_disk (a_its a_i : Int) (s : S2) : Option (Int × S2) :=
  rgd (-2147483648) 2147483647 <| gd ((-2147483648) ≤ a_its ∧ a_its ≤ 2147483647) <| gd ((-2147483648) ≤ a_i ∧ a_i ≤ 2147483647) <| bn (fun (v1 : Int) (s1 : S2) => some (v1, s1)) fun k1 => cb (FX8_asked (if ((0 ≤ a_its) ∧ (a_its ≤ 2)) ∧ ((0 ≤ a_i) ∧ (a_i ≤ 7)) then 1 else 0 : Int) s) fun r1 s2 => if r1 ≠ 0 then gd (0 ≤ (8 * a_its) + a_i ∧ (8 * a_its) + a_i ≤ 23) <| k1 (s2 130 ((8 * a_its) + a_i)) s2 else k1 0 s2
theorem rgX8_disk {a_its a_i : Int} {s s0 : S2} {r0 : Int} (hF : FX8_disk a_its a_i s = some (r0, s0)) : (-2147483648) ≤ r0 ∧ r0 ≤ 2147483647 := (rgd_some hF).2
set_option maxRecDepth 100000 in
set_option maxHeartbeats 4000000 in
theorem ctX8_disk {l : Launch} {w : gW} {bs : Nat} (hl : l.stackTraces = false) {a_its a_i : Int} {s m s0 : S2} {r0 : Int} (hF : FX8_disk a_its a_i s = some (r0, s0)) : gMet l w bs yX8_disk cX8_disk 3 (some FieldType.int) 2 0 [(11, 0), (0, a_its), (0, a_i)] (m, s) 0 (some (0, r0)) (m, s0) := by
  unfold FX8_disk at hF
  obtain ⟨hF, hr⟩ := rgd_some hF
  obtain ⟨q_a_its, hF⟩ := gd_some hF
  obtain ⟨q_a_i, hF⟩ := gd_some hF
  refine g_start hl (by decide) (Nat.le_of_ble_eq_true rfl) rfl fun X h hE => ?_
  have h : gOk X "PagewrightModel" cX8_disk 3 2 0 0 := h
  have hE : gEnd X l w bs 0 (some FieldType.int) 0 (some (0, r0)) (m, s0) := hE
  show G X 0 0 0 [(11, 0), (0, a_its), (0, a_i)] [] (m, s)
  obtain ⟨k1, ek1, hF⟩ := bn_ex hF
  have J1 : ∀ (v1 : Int) (s1 : S2), ((-2147483648) ≤ v1 ∧ v1 ≤ 2147483647) → k1 v1 s1 = some (r0, s0) → G X 0 0 27 [(11, 0), (0, a_its), (0, a_i)] [(0, v1)] (m, s1) := by
    intro v1 s1 q2 hF
    rw [ek1] at hF
    obtain ⟨e1, e2⟩ := some_2 hF
    rw [← e1, ← e2] at hE
    exact g_iret h 27 dX8_disk_27 hE rfl rfl ⟨(Nat.le_of_ble_eq_true rfl), (Nat.le_of_ble_eq_true rfl)⟩
  refine g_aload_nq h 0 dX8_disk_0 rfl rfl ?_
  refine g_iload_n h 1 dX8_disk_1 rfl ?_
  refine g_iload_n h 2 dX8_disk_2 rfl ?_
  refine g_callS h hE 3 dX8_disk_3 (cpX8_isFile (a_its := a_its) (a_i := a_i) hl (by omega) (by omega)) mwX8_isFile kw_1381 rfl (Nat.le_of_ble_eq_true rfl) rfl (Nat.le_of_ble_eq_true rfl) ⟨Nat.le_of_ble_eq_true rfl, Nat.le_of_ble_eq_true rfl⟩ rfl rfl ?_
  show G X 0 0 6 [(11, 0), (0, a_its), (0, a_i)] [(0, (if ((0 ≤ a_its) ∧ (a_its ≤ 2)) ∧ ((0 ≤ a_i) ∧ (a_i ≤ 7)) then 1 else 0 : Int)), (11, 0)] (m, s)
  obtain ⟨r1, s2, c1, hF⟩ := cb_some hF
  have t1 : 0 ≤ r1 ∧ r1 ≤ 1 := rgX8_asked c1
  refine g_callV h hE 6 dX8_disk_6 (ctX8_asked hl c1) mwX8_asked kw_1260 (by decide) (by decide) rfl (Nat.le_of_ble_eq_true rfl) rfl (Nat.le_of_ble_eq_true rfl) ⟨Nat.le_of_ble_eq_true rfl, Nat.le_of_ble_eq_true rfl⟩ rfl rfl ?_
  show G X 0 0 9 [(11, 0), (0, a_its), (0, a_i)] [(0, r1)] (m, s2)
  refine g_if_eq h 9 26 (gRi (by omega)) dX8_disk_9 (by decide) (fun h1 => ?_) (fun h1 => ?_)
  · have hF := ite_f (fun q => q h1) hF
    refine g_iconst h 26 dX8_disk_26 ?_
    exact J1 _ _ (by omega) hF
  · have hF := ite_t h1 hF
    refine G_typ fun hT_s2 => ?_
    have t2 : 0 ≤ s2 130 ((8 * a_its) + a_i) ∧ s2 130 ((8 * a_its) + a_i) ≤ 99999 := hT_s2.2 130 ((8 * a_its) + a_i)
    obtain ⟨q1, hF⟩ := gd_some hF
    refine g_aload_nq h 12 dX8_disk_12 rfl rfl ?_
    refine gf_M_disk h 13 dX8_disk_13 kw_1036 ?_
    refine g_bipush h 16 dX8_disk_16 (by decide) ?_
    refine g_iload_n h 18 dX8_disk_18 rfl ?_
    refine g_imul h 19 dX8_disk_19 ?_
    refine g_iload_n h 20 dX8_disk_20 rfl ?_
    refine g_iadd h 21 dX8_disk_21 ?_
    refine al_M_disk h 22 dX8_disk_22 (by omega) ?_
    refine g_goto h 23 27 dX8_disk_23 (by decide) ?_
    exact J1 _ _ (by omega) hF
-- PagewrightModel.entry
def FX8_entry (a_s a_a a_what : Int) (s : S2) : Option (Int × S2) :=
  rgd (-2147483648) 2147483647 <| gd ((-2147483648) ≤ a_s ∧ a_s ≤ 2147483647) <| gd ((-2147483648) ≤ a_a ∧ a_a ≤ 2147483647) <| gd ((-2147483648) ≤ a_what ∧ a_what ≤ 2147483647) <| cb (FX8_asked_ (if (0 ≤ a_s) ∧ (a_s ≤ (s 102 0) - 1) then 1 else 0 : Int) (if ((0 ≤ a_a) ∧ (a_a ≤ 31)) ∧ ((0 ≤ a_what) ∧ (a_what ≤ 5)) then 1 else 0 : Int) s) fun r1 s1 => if r1 ≠ 0 then gd (0 ≤ (32 * a_s) + a_a ∧ (32 * a_s) + a_a ≤ 191) <| if a_what = 0 then some (s1 111 ((32 * a_s) + a_a), s1) else if a_what = 1 then some ((if 0 < s1 111 ((32 * a_s) + a_a) then s1 116 ((32 * a_s) + a_a) else (-1) : Int), s1) else if a_what = 2 then some ((if (0 < s1 111 ((32 * a_s) + a_a)) ∧ (s1 116 ((32 * a_s) + a_a) = 1) then s1 117 ((32 * a_s) + a_a) else (-1) : Int), s1) else if a_what = 3 then some ((if ¬ ((0 < s1 111 ((32 * a_s) + a_a)) ∧ (s1 116 ((32 * a_s) + a_a) = 1)) then (-1) else (if s1 118 ((32 * a_s) + a_a) ≠ 0 then 1 else 0 : Int) : Int), s1) else if a_what = 4 then gd (((0 < s1 111 ((32 * a_s) + a_a)) ∧ (s1 116 ((32 * a_s) + a_a) = 2)) → 0 ≤ s1 119 ((32 * a_s) + a_a) ∧ s1 119 ((32 * a_s) + a_a) ≤ 17) <| some ((if (0 < s1 111 ((32 * a_s) + a_a)) ∧ (s1 116 ((32 * a_s) + a_a) = 2) then s1 132 (s1 119 ((32 * a_s) + a_a)) else (-1) : Int), s1) else some ((if (0 < s1 111 ((32 * a_s) + a_a)) ∧ (s1 120 ((32 * a_s) + a_a) ≠ 0) then 1 else 0 : Int), s1) else some (0, s1)
theorem rgX8_entry {a_s a_a a_what : Int} {s s0 : S2} {r0 : Int} (hF : FX8_entry a_s a_a a_what s = some (r0, s0)) : (-2147483648) ≤ r0 ∧ r0 ≤ 2147483647 := (rgd_some hF).2
set_option maxRecDepth 100000 in
set_option maxHeartbeats 4000000 in
theorem ctX8_entry {l : Launch} {w : gW} {bs : Nat} (hl : l.stackTraces = false) {a_s a_a a_what : Int} {s m s0 : S2} {r0 : Int} (hF : FX8_entry a_s a_a a_what s = some (r0, s0)) : gMet l w bs yX8_entry cX8_entry 7 (some FieldType.int) 2 0 [(11, 0), (0, a_s), (0, a_a), (0, a_what)] (m, s) 0 (some (0, r0)) (m, s0) := by
  unfold FX8_entry at hF
  obtain ⟨hF, hr⟩ := rgd_some hF
  obtain ⟨q_a_s, hF⟩ := gd_some hF
  obtain ⟨q_a_a, hF⟩ := gd_some hF
  obtain ⟨q_a_what, hF⟩ := gd_some hF
  refine g_start hl (by decide) (Nat.le_of_ble_eq_true rfl) rfl fun X h hE => ?_
  have h : gOk X "PagewrightModel" cX8_entry 7 2 0 0 := h
  have hE : gEnd X l w bs 0 (some FieldType.int) 0 (some (0, r0)) (m, s0) := hE
  show G X 0 0 0 [(11, 0), (0, a_s), (0, a_a), (0, a_what), (1, 0), (1, 0), (1, 0)] [] (m, s)
  refine g_aload_nq h 0 dX8_entry_0 rfl rfl ?_
  refine G_typ fun hT_s => ?_
  have t1 : 0 ≤ s 102 0 ∧ s 102 0 ≤ 6 := hT_s.2 102 0
  refine g_aload_nq h 1 dX8_entry_1 rfl rfl ?_
  refine g_iload_n h 2 dX8_entry_2 rfl ?_
  refine g_callV h hE 3 dX8_entry_3 (cpX8_isSpace (a_s := a_s) hl (by omega)) mwX8_isSpace kw_1156 (by decide) (by decide) rfl (Nat.le_of_ble_eq_true rfl) rfl (Nat.le_of_ble_eq_true rfl) ⟨Nat.le_of_ble_eq_true rfl, Nat.le_of_ble_eq_true rfl⟩ rfl rfl ?_
  show G X 0 0 6 [(11, 0), (0, a_s), (0, a_a), (0, a_what), (1, 0), (1, 0), (1, 0)] [(0, (if (0 ≤ a_s) ∧ (a_s ≤ (s 102 0) - 1) then 1 else 0 : Int)), (11, 0)] (m, s)
  suffices J1 : ∀ v1 : Int, v1 = (if ((0 ≤ a_a) ∧ (a_a ≤ 31)) ∧ ((0 ≤ a_what) ∧ (a_what ≤ 5)) then 1 else 0 : Int) → G X 0 0 30 [(11, 0), (0, a_s), (0, a_a), (0, a_what), (1, 0), (1, 0), (1, 0)] [(0, v1), (0, (if (0 ≤ a_s) ∧ (a_s ≤ (s 102 0) - 1) then 1 else 0 : Int)), (11, 0)] (m, s) by
    have J2 : ((0 ≤ a_a) ∧ (a_a ≤ 31)) ∧ ((0 ≤ a_what) ∧ (a_what ≤ 5)) → G X 0 0 25 [(11, 0), (0, a_s), (0, a_a), (0, a_what), (1, 0), (1, 0), (1, 0)] [(0, (if (0 ≤ a_s) ∧ (a_s ≤ (s 102 0) - 1) then 1 else 0 : Int)), (11, 0)] (m, s) := by
      intro h3
      refine g_iconst h 25 dX8_entry_25 ?_
      refine g_goto h 26 30 dX8_entry_26 (by decide) ?_
      exact J1 _ (if_pos h3).symm
    have J3 : ¬ (((0 ≤ a_a) ∧ (a_a ≤ 31)) ∧ ((0 ≤ a_what) ∧ (a_what ≤ 5))) → G X 0 0 29 [(11, 0), (0, a_s), (0, a_a), (0, a_what), (1, 0), (1, 0), (1, 0)] [(0, (if (0 ≤ a_s) ∧ (a_s ≤ (s 102 0) - 1) then 1 else 0 : Int)), (11, 0)] (m, s) := by
      intro h4
      refine g_iconst h 29 dX8_entry_29 ?_
      exact J1 _ (if_neg h4).symm
    refine g_iload_n h 6 dX8_entry_6 rfl ?_
    refine g_iconst h 7 dX8_entry_7 ?_
    refine g_bipush h 8 dX8_entry_8 (by decide) ?_
    refine g_callS h hE 10 dX8_entry_10 (cpX8_in (a_v := a_a) (a_low := 0) (a_high := 31) hl (by omega) (by omega) (by omega)) mwX8_in kw_1142 rfl (Nat.le_of_ble_eq_true rfl) rfl (Nat.le_of_ble_eq_true rfl) ⟨Nat.le_of_ble_eq_true rfl, Nat.le_of_ble_eq_true rfl⟩ rfl rfl ?_
    show G X 0 0 13 [(11, 0), (0, a_s), (0, a_a), (0, a_what), (1, 0), (1, 0), (1, 0)] [(0, (if (0 ≤ a_a) ∧ (a_a ≤ 31) then 1 else 0 : Int)), (0, (if (0 ≤ a_s) ∧ (a_s ≤ (s 102 0) - 1) then 1 else 0 : Int)), (11, 0)] (m, s)
    refine g_if_eq h 13 29 (gRi gR_ite) dX8_entry_13 (by decide) (fun h1 => ?_) (fun h1 => ?_)
    · exact J3 (fun q => (iz_f h1) q.1)
    · refine g_iload_n h 16 dX8_entry_16 rfl ?_
      refine g_iconst h 17 dX8_entry_17 ?_
      refine g_iconst h 18 dX8_entry_18 ?_
      refine g_callS h hE 19 dX8_entry_19 (cpX8_in (a_v := a_what) (a_low := 0) (a_high := 5) hl (by omega) (by omega) (by omega)) mwX8_in kw_1142 rfl (Nat.le_of_ble_eq_true rfl) rfl (Nat.le_of_ble_eq_true rfl) ⟨Nat.le_of_ble_eq_true rfl, Nat.le_of_ble_eq_true rfl⟩ rfl rfl ?_
      show G X 0 0 22 [(11, 0), (0, a_s), (0, a_a), (0, a_what), (1, 0), (1, 0), (1, 0)] [(0, (if (0 ≤ a_what) ∧ (a_what ≤ 5) then 1 else 0 : Int)), (0, (if (0 ≤ a_s) ∧ (a_s ≤ (s 102 0) - 1) then 1 else 0 : Int)), (11, 0)] (m, s)
      refine g_if_eq h 22 29 (gRi gR_ite) dX8_entry_22 (by decide) (fun h2 => ?_) (fun h2 => ?_)
      · exact J3 (fun q => (iz_f h2) q.2)
      · exact J2 ⟨(iz_t h1), (iz_t h2)⟩
  intro v1 e1
  subst e1
  obtain ⟨r1, s1, c1, hF⟩ := cb_some hF
  have t2 : 0 ≤ r1 ∧ r1 ≤ 1 := rgX8_asked_ c1
  refine g_callV h hE 30 dX8_entry_30 (ctX8_asked_ hl c1) mwX8_asked_ kw_1145 (by decide) (by decide) rfl (Nat.le_of_ble_eq_true rfl) rfl (Nat.le_of_ble_eq_true rfl) ⟨Nat.le_of_ble_eq_true rfl, Nat.le_of_ble_eq_true rfl⟩ rfl rfl ?_
  show G X 0 0 33 [(11, 0), (0, a_s), (0, a_a), (0, a_what), (1, 0), (1, 0), (1, 0)] [(0, r1)] (m, s1)
  refine g_if_ne h 33 38 (gRi (by omega)) dX8_entry_33 (by decide) (fun h5 => ?_) (fun h5 => ?_)
  · have hF := ite_t h5 hF
    refine g_bipush h 38 dX8_entry_38 (by decide) ?_
    refine g_iload_n h 40 dX8_entry_40 rfl ?_
    refine g_imul h 41 dX8_entry_41 ?_
    refine g_iload_n h 42 dX8_entry_42 rfl ?_
    refine g_iadd h 43 dX8_entry_43 ?_
    refine g_istore h 44 dX8_entry_44 (Nat.le_of_ble_eq_true rfl) rfl (L' := [(11, 0), (0, a_s), (0, a_a), (0, a_what), (0, (32 * a_s) + a_a), (1, 0), (1, 0)]) rfl ?_
    refine G_typ fun hT_s1 => ?_
    have t3 : 0 ≤ s1 111 ((32 * a_s) + a_a) ∧ s1 111 ((32 * a_s) + a_a) ≤ 3 := hT_s1.2 111 ((32 * a_s) + a_a)
    obtain ⟨q1, hF⟩ := gd_some hF
    suffices J4 : ∀ v2 : Int, v2 = (if 0 < s1 111 ((32 * a_s) + a_a) then 1 else 0 : Int) → G X 0 0 61 [(11, 0), (0, a_s), (0, a_a), (0, a_what), (0, (32 * a_s) + a_a), (1, 0), (1, 0)] [(0, v2)] (m, s1) by
      have J5 : 0 < s1 111 ((32 * a_s) + a_a) → G X 0 0 56 [(11, 0), (0, a_s), (0, a_a), (0, a_what), (0, (32 * a_s) + a_a), (1, 0), (1, 0)] [] (m, s1) := by
        intro h7
        refine g_iconst h 56 dX8_entry_56 ?_
        refine g_goto h 57 61 dX8_entry_57 (by decide) ?_
        exact J4 _ (if_pos h7).symm
      have J6 : ¬ (0 < s1 111 ((32 * a_s) + a_a)) → G X 0 0 60 [(11, 0), (0, a_s), (0, a_a), (0, a_what), (0, (32 * a_s) + a_a), (1, 0), (1, 0)] [] (m, s1) := by
        intro h8
        refine g_iconst h 60 dX8_entry_60 ?_
        exact J4 _ (if_neg h8).symm
      refine g_aload_nq h 46 dX8_entry_46 rfl rfl ?_
      refine gf_M_rights h 47 dX8_entry_47 kw_1017 ?_
      refine g_iload h 50 dX8_entry_50 rfl ?_
      refine al_M_rights h 52 dX8_entry_52 (by omega) ?_
      refine g_if_le h 53 60 (gRi (by omega)) dX8_entry_53 (by decide) (fun h6 => ?_) (fun h6 => ?_)
      · exact J6 (Int.not_lt.mpr h6)
      · exact J5 h6
    intro v2 e2
    subst e2
    refine g_istore h 61 dX8_entry_61 (Nat.le_of_ble_eq_true rfl) rfl (L' := [(11, 0), (0, a_s), (0, a_a), (0, a_what), (0, (32 * a_s) + a_a), (0, (if 0 < s1 111 ((32 * a_s) + a_a) then 1 else 0 : Int)), (1, 0)]) rfl ?_
    have t4 : 0 ≤ s1 116 ((32 * a_s) + a_a) ∧ s1 116 ((32 * a_s) + a_a) ≤ 2 := hT_s1.2 116 ((32 * a_s) + a_a)
    suffices J7 : ∀ v3 : Int, v3 = (if (0 < s1 111 ((32 * a_s) + a_a)) ∧ (s1 116 ((32 * a_s) + a_a) = 1) then 1 else 0 : Int) → G X 0 0 84 [(11, 0), (0, a_s), (0, a_a), (0, a_what), (0, (32 * a_s) + a_a), (0, (if 0 < s1 111 ((32 * a_s) + a_a) then 1 else 0 : Int)), (1, 0)] [(0, v3)] (m, s1) by
      have J8 : (0 < s1 111 ((32 * a_s) + a_a)) ∧ (s1 116 ((32 * a_s) + a_a) = 1) → G X 0 0 79 [(11, 0), (0, a_s), (0, a_a), (0, a_what), (0, (32 * a_s) + a_a), (0, (if 0 < s1 111 ((32 * a_s) + a_a) then 1 else 0 : Int)), (1, 0)] [] (m, s1) := by
        intro h11
        refine g_iconst h 79 dX8_entry_79 ?_
        refine g_goto h 80 84 dX8_entry_80 (by decide) ?_
        exact J7 _ (if_pos h11).symm
      have J9 : ¬ ((0 < s1 111 ((32 * a_s) + a_a)) ∧ (s1 116 ((32 * a_s) + a_a) = 1)) → G X 0 0 83 [(11, 0), (0, a_s), (0, a_a), (0, a_what), (0, (32 * a_s) + a_a), (0, (if 0 < s1 111 ((32 * a_s) + a_a) then 1 else 0 : Int)), (1, 0)] [] (m, s1) := by
        intro h12
        refine g_iconst h 83 dX8_entry_83 ?_
        exact J7 _ (if_neg h12).symm
      refine g_iload h 63 dX8_entry_63 rfl ?_
      refine g_if_eq h 65 83 (gRi gR_ite) dX8_entry_65 (by decide) (fun h9 => ?_) (fun h9 => ?_)
      · exact J9 (fun q => (iz_f h9) q.1)
      · refine g_aload_nq h 68 dX8_entry_68 rfl rfl ?_
        refine gf_M_state h 69 dX8_entry_69 kw_1022 ?_
        refine g_iload h 72 dX8_entry_72 rfl ?_
        refine al_M_state h 74 dX8_entry_74 (by omega) ?_
        refine g_iconst h 75 dX8_entry_75 ?_
        refine g_icmp_ne h 76 83 (gRi (by omega)) (gRi (by omega)) dX8_entry_76 (by decide) (fun h10 => ?_) (fun h10 => ?_)
        · exact J9 (fun q => h10 q.2)
        · exact J8 ⟨(iz_t h9), h10⟩
    intro v3 e3
    subst e3
    refine g_istore h 84 dX8_entry_84 (Nat.le_of_ble_eq_true rfl) rfl (L' := [(11, 0), (0, a_s), (0, a_a), (0, a_what), (0, (32 * a_s) + a_a), (0, (if 0 < s1 111 ((32 * a_s) + a_a) then 1 else 0 : Int)), (0, (if (0 < s1 111 ((32 * a_s) + a_a)) ∧ (s1 116 ((32 * a_s) + a_a) = 1) then 1 else 0 : Int))]) rfl ?_
    refine g_iload_n h 86 dX8_entry_86 rfl ?_
    by_cases h13 : a_what = 0
    · have hF := ite_t h13 hF
      refine g_tsIn h 87 dX8_entry_87 0 120 h13 (by decide) (by decide) 33 (by decide) (by decide) ?_
      refine g_aload_nq h 120 dX8_entry_120 rfl rfl ?_
      refine gf_M_rights h 121 dX8_entry_121 kw_1017 ?_
      refine g_iload h 124 dX8_entry_124 rfl ?_
      refine al_M_rights h 126 dX8_entry_126 (by omega) ?_
      obtain ⟨e1, e2⟩ := some_2 hF
      rw [← e1, ← e2] at hE
      exact g_iret h 127 dX8_entry_127 hE rfl rfl ⟨(Nat.le_of_ble_eq_true rfl), (Nat.le_of_ble_eq_true rfl)⟩
    have hF := ite_f h13 hF
    by_cases h14 : a_what = 1
    · have hF := ite_t h14 hF
      refine g_tsIn h 87 dX8_entry_87 1 128 h14 (by decide) (by decide) 41 (by decide) (by decide) ?_
      suffices J10 : ∀ v4 : Int, v4 = (if 0 < s1 111 ((32 * a_s) + a_a) then s1 116 ((32 * a_s) + a_a) else (-1) : Int) → G X 0 0 144 [(11, 0), (0, a_s), (0, a_a), (0, a_what), (0, (32 * a_s) + a_a), (0, (if 0 < s1 111 ((32 * a_s) + a_a) then 1 else 0 : Int)), (0, (if (0 < s1 111 ((32 * a_s) + a_a)) ∧ (s1 116 ((32 * a_s) + a_a) = 1) then 1 else 0 : Int))] [(0, v4)] (m, s1) by
        have J11 : 0 < s1 111 ((32 * a_s) + a_a) → G X 0 0 133 [(11, 0), (0, a_s), (0, a_a), (0, a_what), (0, (32 * a_s) + a_a), (0, (if 0 < s1 111 ((32 * a_s) + a_a) then 1 else 0 : Int)), (0, (if (0 < s1 111 ((32 * a_s) + a_a)) ∧ (s1 116 ((32 * a_s) + a_a) = 1) then 1 else 0 : Int))] [] (m, s1) := by
          intro h16
          refine g_aload_nq h 133 dX8_entry_133 rfl rfl ?_
          refine gf_M_state h 134 dX8_entry_134 kw_1022 ?_
          refine g_iload h 137 dX8_entry_137 rfl ?_
          refine al_M_state h 139 dX8_entry_139 (by omega) ?_
          refine g_goto h 140 144 dX8_entry_140 (by decide) ?_
          exact J10 _ (if_pos h16).symm
        have J12 : ¬ (0 < s1 111 ((32 * a_s) + a_a)) → G X 0 0 143 [(11, 0), (0, a_s), (0, a_a), (0, a_what), (0, (32 * a_s) + a_a), (0, (if 0 < s1 111 ((32 * a_s) + a_a) then 1 else 0 : Int)), (0, (if (0 < s1 111 ((32 * a_s) + a_a)) ∧ (s1 116 ((32 * a_s) + a_a) = 1) then 1 else 0 : Int))] [] (m, s1) := by
          intro h17
          refine g_iconst h 143 dX8_entry_143 ?_
          exact J10 _ (if_neg h17).symm
        refine g_iload h 128 dX8_entry_128 rfl ?_
        refine g_if_eq h 130 143 (gRi gR_ite) dX8_entry_130 (by decide) (fun h15 => ?_) (fun h15 => ?_)
        · exact J12 (iz_f h15)
        · exact J11 (iz_t h15)
      intro v4 e4
      subst e4
      obtain ⟨e1, e2⟩ := some_2 hF
      rw [← e1, ← e2] at hE
      exact g_iret h 144 dX8_entry_144 hE rfl rfl ⟨(Nat.le_of_ble_eq_true rfl), (Nat.le_of_ble_eq_true rfl)⟩
    have hF := ite_f h14 hF
    by_cases h18 : a_what = 2
    · have hF := ite_t h18 hF
      refine g_tsIn h 87 dX8_entry_87 2 145 h18 (by decide) (by decide) 58 (by decide) (by decide) ?_
      have t5 : 0 ≤ s1 117 ((32 * a_s) + a_a) ∧ s1 117 ((32 * a_s) + a_a) ≤ 23 := hT_s1.2 117 ((32 * a_s) + a_a)
      suffices J13 : ∀ v5 : Int, v5 = (if (0 < s1 111 ((32 * a_s) + a_a)) ∧ (s1 116 ((32 * a_s) + a_a) = 1) then s1 117 ((32 * a_s) + a_a) else (-1) : Int) → G X 0 0 161 [(11, 0), (0, a_s), (0, a_a), (0, a_what), (0, (32 * a_s) + a_a), (0, (if 0 < s1 111 ((32 * a_s) + a_a) then 1 else 0 : Int)), (0, (if (0 < s1 111 ((32 * a_s) + a_a)) ∧ (s1 116 ((32 * a_s) + a_a) = 1) then 1 else 0 : Int))] [(0, v5)] (m, s1) by
        have J14 : (0 < s1 111 ((32 * a_s) + a_a)) ∧ (s1 116 ((32 * a_s) + a_a) = 1) → G X 0 0 150 [(11, 0), (0, a_s), (0, a_a), (0, a_what), (0, (32 * a_s) + a_a), (0, (if 0 < s1 111 ((32 * a_s) + a_a) then 1 else 0 : Int)), (0, (if (0 < s1 111 ((32 * a_s) + a_a)) ∧ (s1 116 ((32 * a_s) + a_a) = 1) then 1 else 0 : Int))] [] (m, s1) := by
          intro h20
          refine g_aload_nq h 150 dX8_entry_150 rfl rfl ?_
          refine gf_M_page h 151 dX8_entry_151 kw_1023 ?_
          refine g_iload h 154 dX8_entry_154 rfl ?_
          refine al_M_page h 156 dX8_entry_156 (by omega) ?_
          refine g_goto h 157 161 dX8_entry_157 (by decide) ?_
          exact J13 _ (if_pos h20).symm
        have J15 : ¬ ((0 < s1 111 ((32 * a_s) + a_a)) ∧ (s1 116 ((32 * a_s) + a_a) = 1)) → G X 0 0 160 [(11, 0), (0, a_s), (0, a_a), (0, a_what), (0, (32 * a_s) + a_a), (0, (if 0 < s1 111 ((32 * a_s) + a_a) then 1 else 0 : Int)), (0, (if (0 < s1 111 ((32 * a_s) + a_a)) ∧ (s1 116 ((32 * a_s) + a_a) = 1) then 1 else 0 : Int))] [] (m, s1) := by
          intro h21
          refine g_iconst h 160 dX8_entry_160 ?_
          exact J13 _ (if_neg h21).symm
        refine g_iload h 145 dX8_entry_145 rfl ?_
        refine g_if_eq h 147 160 (gRi gR_ite) dX8_entry_147 (by decide) (fun h19 => ?_) (fun h19 => ?_)
        · exact J15 (iz_f h19)
        · exact J14 (iz_t h19)
      intro v5 e5
      subst e5
      obtain ⟨e1, e2⟩ := some_2 hF
      rw [← e1, ← e2] at hE
      exact g_iret h 161 dX8_entry_161 hE rfl rfl ⟨(Nat.le_of_ble_eq_true rfl), (Nat.le_of_ble_eq_true rfl)⟩
    have hF := ite_f h18 hF
    by_cases h22 : a_what = 3
    · have hF := ite_t h22 hF
      refine g_tsIn h 87 dX8_entry_87 3 162 h22 (by decide) (by decide) 75 (by decide) (by decide) ?_
      have t6 : 0 ≤ s1 118 ((32 * a_s) + a_a) ∧ s1 118 ((32 * a_s) + a_a) ≤ 1 := hT_s1.2 118 ((32 * a_s) + a_a)
      suffices J16 : ∀ v7 : Int, v7 = (if ¬ ((0 < s1 111 ((32 * a_s) + a_a)) ∧ (s1 116 ((32 * a_s) + a_a) = 1)) then (-1) else (if s1 118 ((32 * a_s) + a_a) ≠ 0 then 1 else 0 : Int) : Int) → G X 0 0 186 [(11, 0), (0, a_s), (0, a_a), (0, a_what), (0, (32 * a_s) + a_a), (0, (if 0 < s1 111 ((32 * a_s) + a_a) then 1 else 0 : Int)), (0, (if (0 < s1 111 ((32 * a_s) + a_a)) ∧ (s1 116 ((32 * a_s) + a_a) = 1) then 1 else 0 : Int))] [(0, v7)] (m, s1) by
        have J17 : ¬ ((0 < s1 111 ((32 * a_s) + a_a)) ∧ (s1 116 ((32 * a_s) + a_a) = 1)) → G X 0 0 167 [(11, 0), (0, a_s), (0, a_a), (0, a_what), (0, (32 * a_s) + a_a), (0, (if 0 < s1 111 ((32 * a_s) + a_a) then 1 else 0 : Int)), (0, (if (0 < s1 111 ((32 * a_s) + a_a)) ∧ (s1 116 ((32 * a_s) + a_a) = 1) then 1 else 0 : Int))] [] (m, s1) := by
          intro h24
          refine g_iconst h 167 dX8_entry_167 ?_
          refine g_goto h 168 186 dX8_entry_168 (by decide) ?_
          exact J16 _ (if_pos h24).symm
        have J18 : ¬ (¬ ((0 < s1 111 ((32 * a_s) + a_a)) ∧ (s1 116 ((32 * a_s) + a_a) = 1))) → G X 0 0 171 [(11, 0), (0, a_s), (0, a_a), (0, a_what), (0, (32 * a_s) + a_a), (0, (if 0 < s1 111 ((32 * a_s) + a_a) then 1 else 0 : Int)), (0, (if (0 < s1 111 ((32 * a_s) + a_a)) ∧ (s1 116 ((32 * a_s) + a_a) = 1) then 1 else 0 : Int))] [] (m, s1) := by
          intro h25
          suffices J19 : ∀ v6 : Int, v6 = (if s1 118 ((32 * a_s) + a_a) ≠ 0 then 1 else 0 : Int) → G X 0 0 186 [(11, 0), (0, a_s), (0, a_a), (0, a_what), (0, (32 * a_s) + a_a), (0, (if 0 < s1 111 ((32 * a_s) + a_a) then 1 else 0 : Int)), (0, (if (0 < s1 111 ((32 * a_s) + a_a)) ∧ (s1 116 ((32 * a_s) + a_a) = 1) then 1 else 0 : Int))] [(0, v6)] (m, s1) by
            have J20 : s1 118 ((32 * a_s) + a_a) ≠ 0 → G X 0 0 181 [(11, 0), (0, a_s), (0, a_a), (0, a_what), (0, (32 * a_s) + a_a), (0, (if 0 < s1 111 ((32 * a_s) + a_a) then 1 else 0 : Int)), (0, (if (0 < s1 111 ((32 * a_s) + a_a)) ∧ (s1 116 ((32 * a_s) + a_a) = 1) then 1 else 0 : Int))] [] (m, s1) := by
              intro h27
              refine g_iconst h 181 dX8_entry_181 ?_
              refine g_goto h 182 186 dX8_entry_182 (by decide) ?_
              exact J19 _ (if_pos h27).symm
            have J21 : ¬ (s1 118 ((32 * a_s) + a_a) ≠ 0) → G X 0 0 185 [(11, 0), (0, a_s), (0, a_a), (0, a_what), (0, (32 * a_s) + a_a), (0, (if 0 < s1 111 ((32 * a_s) + a_a) then 1 else 0 : Int)), (0, (if (0 < s1 111 ((32 * a_s) + a_a)) ∧ (s1 116 ((32 * a_s) + a_a) = 1) then 1 else 0 : Int))] [] (m, s1) := by
              intro h28
              refine g_iconst h 185 dX8_entry_185 ?_
              exact J19 _ (if_neg h28).symm
            refine g_aload_nq h 171 dX8_entry_171 rfl rfl ?_
            refine gf_M_writable h 172 dX8_entry_172 kw_1024 ?_
            refine g_iload h 175 dX8_entry_175 rfl ?_
            refine al_M_writable h 177 dX8_entry_177 (by omega) ?_
            refine g_if_eq h 178 185 (gRi (by omega)) dX8_entry_178 (by decide) (fun h26 => ?_) (fun h26 => ?_)
            · exact J21 (fun q => q h26)
            · exact J20 h26
          intro v6 e6
          subst e6
          exact J16 _ (if_neg h25).symm
        refine g_iload h 162 dX8_entry_162 rfl ?_
        refine g_if_ne h 164 171 (gRi gR_ite) dX8_entry_164 (by decide) (fun h23 => ?_) (fun h23 => ?_)
        · exact J18 (fun q => q (iz_t h23))
        · exact J17 (iz_f h23)
      intro v7 e7
      subst e7
      obtain ⟨e1, e2⟩ := some_2 hF
      rw [← e1, ← e2] at hE
      exact g_iret h 186 dX8_entry_186 hE rfl rfl ⟨(Nat.le_of_ble_eq_true rfl), (Nat.le_of_ble_eq_true rfl)⟩
    have hF := ite_f h22 hF
    by_cases h29 : a_what = 4
    · have hF := ite_t h29 hF
      refine g_tsIn h 87 dX8_entry_87 4 187 h29 (by decide) (by decide) 100 (by decide) (by decide) ?_
      have t7 : (-1) ≤ s1 119 ((32 * a_s) + a_a) ∧ s1 119 ((32 * a_s) + a_a) ≤ 17 := hT_s1.2 119 ((32 * a_s) + a_a)
      have t8 : (-1) ≤ s1 132 (s1 119 ((32 * a_s) + a_a)) ∧ s1 132 (s1 119 ((32 * a_s) + a_a)) ≤ 10 := hT_s1.2 132 (s1 119 ((32 * a_s) + a_a))
      obtain ⟨q2, hF⟩ := gd_some hF
      suffices J22 : ∀ v8 : Int, v8 = (if (0 < s1 111 ((32 * a_s) + a_a)) ∧ (s1 116 ((32 * a_s) + a_a) = 2) then s1 132 (s1 119 ((32 * a_s) + a_a)) else (-1) : Int) → G X 0 0 219 [(11, 0), (0, a_s), (0, a_a), (0, a_what), (0, (32 * a_s) + a_a), (0, (if 0 < s1 111 ((32 * a_s) + a_a) then 1 else 0 : Int)), (0, (if (0 < s1 111 ((32 * a_s) + a_a)) ∧ (s1 116 ((32 * a_s) + a_a) = 1) then 1 else 0 : Int))] [(0, v8)] (m, s1) by
        have J23 : (0 < s1 111 ((32 * a_s) + a_a)) ∧ (s1 116 ((32 * a_s) + a_a) = 2) → G X 0 0 203 [(11, 0), (0, a_s), (0, a_a), (0, a_what), (0, (32 * a_s) + a_a), (0, (if 0 < s1 111 ((32 * a_s) + a_a) then 1 else 0 : Int)), (0, (if (0 < s1 111 ((32 * a_s) + a_a)) ∧ (s1 116 ((32 * a_s) + a_a) = 1) then 1 else 0 : Int))] [] (m, s1) := by
          intro h32
          refine g_aload_nq h 203 dX8_entry_203 rfl rfl ?_
          refine gf_M_place h 204 dX8_entry_204 kw_1038 ?_
          refine g_aload_nq h 207 dX8_entry_207 rfl rfl ?_
          refine gf_M_record h 208 dX8_entry_208 kw_1025 ?_
          refine g_iload h 211 dX8_entry_211 rfl ?_
          refine al_M_record h 213 dX8_entry_213 (by omega) ?_
          refine al_M_place h 214 dX8_entry_214 (by omega) ?_
          refine g_goto h 215 219 dX8_entry_215 (by decide) ?_
          exact J22 _ (if_pos h32).symm
        have J24 : ¬ ((0 < s1 111 ((32 * a_s) + a_a)) ∧ (s1 116 ((32 * a_s) + a_a) = 2)) → G X 0 0 218 [(11, 0), (0, a_s), (0, a_a), (0, a_what), (0, (32 * a_s) + a_a), (0, (if 0 < s1 111 ((32 * a_s) + a_a) then 1 else 0 : Int)), (0, (if (0 < s1 111 ((32 * a_s) + a_a)) ∧ (s1 116 ((32 * a_s) + a_a) = 1) then 1 else 0 : Int))] [] (m, s1) := by
          intro h33
          refine g_iconst h 218 dX8_entry_218 ?_
          exact J22 _ (if_neg h33).symm
        refine g_iload h 187 dX8_entry_187 rfl ?_
        refine g_if_eq h 189 218 (gRi gR_ite) dX8_entry_189 (by decide) (fun h30 => ?_) (fun h30 => ?_)
        · exact J24 (fun q => (iz_f h30) q.1)
        · refine g_aload_nq h 192 dX8_entry_192 rfl rfl ?_
          refine gf_M_state h 193 dX8_entry_193 kw_1022 ?_
          refine g_iload h 196 dX8_entry_196 rfl ?_
          refine al_M_state h 198 dX8_entry_198 (by omega) ?_
          refine g_iconst h 199 dX8_entry_199 ?_
          refine g_icmp_ne h 200 218 (gRi (by omega)) (gRi (by omega)) dX8_entry_200 (by decide) (fun h31 => ?_) (fun h31 => ?_)
          · exact J24 (fun q => h31 q.2)
          · exact J23 ⟨(iz_t h30), h31⟩
      intro v8 e8
      subst e8
      obtain ⟨e1, e2⟩ := some_2 hF
      rw [← e1, ← e2] at hE
      exact g_iret h 219 dX8_entry_219 hE rfl rfl ⟨(Nat.le_of_ble_eq_true rfl), (Nat.le_of_ble_eq_true rfl)⟩
    have hF := ite_f h29 hF
    refine g_tsOut h 87 dX8_entry_87 220 (gRi (by omega)) (by omega) (by decide) ?_
    have t9 : 0 ≤ s1 120 ((32 * a_s) + a_a) ∧ s1 120 ((32 * a_s) + a_a) ≤ 1 := hT_s1.2 120 ((32 * a_s) + a_a)
    suffices J25 : ∀ v9 : Int, v9 = (if (0 < s1 111 ((32 * a_s) + a_a)) ∧ (s1 120 ((32 * a_s) + a_a) ≠ 0) then 1 else 0 : Int) → G X 0 0 240 [(11, 0), (0, a_s), (0, a_a), (0, a_what), (0, (32 * a_s) + a_a), (0, (if 0 < s1 111 ((32 * a_s) + a_a) then 1 else 0 : Int)), (0, (if (0 < s1 111 ((32 * a_s) + a_a)) ∧ (s1 116 ((32 * a_s) + a_a) = 1) then 1 else 0 : Int))] [(0, v9)] (m, s1) by
      have J26 : (0 < s1 111 ((32 * a_s) + a_a)) ∧ (s1 120 ((32 * a_s) + a_a) ≠ 0) → G X 0 0 235 [(11, 0), (0, a_s), (0, a_a), (0, a_what), (0, (32 * a_s) + a_a), (0, (if 0 < s1 111 ((32 * a_s) + a_a) then 1 else 0 : Int)), (0, (if (0 < s1 111 ((32 * a_s) + a_a)) ∧ (s1 116 ((32 * a_s) + a_a) = 1) then 1 else 0 : Int))] [] (m, s1) := by
        intro h36
        refine g_iconst h 235 dX8_entry_235 ?_
        refine g_goto h 236 240 dX8_entry_236 (by decide) ?_
        exact J25 _ (if_pos h36).symm
      have J27 : ¬ ((0 < s1 111 ((32 * a_s) + a_a)) ∧ (s1 120 ((32 * a_s) + a_a) ≠ 0)) → G X 0 0 239 [(11, 0), (0, a_s), (0, a_a), (0, a_what), (0, (32 * a_s) + a_a), (0, (if 0 < s1 111 ((32 * a_s) + a_a) then 1 else 0 : Int)), (0, (if (0 < s1 111 ((32 * a_s) + a_a)) ∧ (s1 116 ((32 * a_s) + a_a) = 1) then 1 else 0 : Int))] [] (m, s1) := by
        intro h37
        refine g_iconst h 239 dX8_entry_239 ?_
        exact J25 _ (if_neg h37).symm
      refine g_iload h 220 dX8_entry_220 rfl ?_
      refine g_if_eq h 222 239 (gRi gR_ite) dX8_entry_222 (by decide) (fun h34 => ?_) (fun h34 => ?_)
      · exact J27 (fun q => (iz_f h34) q.1)
      · refine g_aload_nq h 225 dX8_entry_225 rfl rfl ?_
        refine gf_M_block h 226 dX8_entry_226 kw_1026 ?_
        refine g_iload h 229 dX8_entry_229 rfl ?_
        refine al_M_block h 231 dX8_entry_231 (by omega) ?_
        refine g_if_eq h 232 239 (gRi (by omega)) dX8_entry_232 (by decide) (fun h35 => ?_) (fun h35 => ?_)
        · exact J27 (fun q => (fun q => q h35) q.2)
        · exact J26 ⟨(iz_t h34), h35⟩
    intro v9 e9
    subst e9
    obtain ⟨e1, e2⟩ := some_2 hF
    rw [← e1, ← e2] at hE
    exact g_iret h 240 dX8_entry_240 hE rfl rfl ⟨(Nat.le_of_ble_eq_true rfl), (Nat.le_of_ble_eq_true rfl)⟩
  · have hF := ite_f (fun q => q h5) hF
    refine g_iconst h 36 dX8_entry_36 ?_
    obtain ⟨e1, e2⟩ := some_2 hF
    rw [← e1, ← e2] at hE
    exact g_iret h 37 dX8_entry_37 hE rfl rfl ⟨(Nat.le_of_ble_eq_true rfl), (Nat.le_of_ble_eq_true rfl)⟩
-- PagewrightModel.frame
def FX8_frame (a_f a_what : Int) (s : S2) : Option (Int × S2) :=
  rgd (-2147483648) 2147483647 <| gd ((-2147483648) ≤ a_f ∧ a_f ≤ 2147483647) <| gd ((-2147483648) ≤ a_what ∧ a_what ≤ 2147483647) <| cb (FX8_asked (if ((0 ≤ a_f) ∧ (a_f ≤ 23)) ∧ ((0 ≤ a_what) ∧ (a_what ≤ 7)) then 1 else 0 : Int) s) fun r1 s1 => if r1 ≠ 0 then if a_what = 0 then bn (fun (v2 : Int) (s2 : S2) => some (v2, s2)) fun k1 => cb (FX8_lingers a_f s1) fun r2 s3 => if r2 ≠ 0 then k1 3 s3 else gd (0 ≤ a_f ∧ a_f ≤ 23) <| k1 (s3 121 a_f) s3 else gd (0 ≤ a_f ∧ a_f ≤ 23) <| if s1 121 a_f = 0 then some ((-1), s1) else if a_what = 1 then some (s1 122 a_f, s1) else if a_what = 2 then some (s1 123 a_f, s1) else if a_what = 3 then some ((if s1 124 a_f ≠ 0 then 1 else 0 : Int), s1) else if a_what = 4 then cb (FX8_entriesOf a_f s1) fun r3 s4 => some (r3, s4) else if a_what = 5 then some (s1 125 a_f, s1) else if a_what = 6 then some ((if s1 126 a_f ≠ 0 then 1 else 0 : Int), s1) else gd ((¬ (s1 121 a_f = 1)) → 0 ≤ s1 127 a_f ∧ s1 127 a_f ≤ 2147483647) <| some ((if s1 121 a_f = 1 then (-1) else (10 * ((s1 127 a_f) / 8)) + ((s1 127 a_f) % 8) : Int), s1) else some (0, s1)
theorem rgX8_frame {a_f a_what : Int} {s s0 : S2} {r0 : Int} (hF : FX8_frame a_f a_what s = some (r0, s0)) : (-2147483648) ≤ r0 ∧ r0 ≤ 2147483647 := (rgd_some hF).2
set_option maxRecDepth 100000 in
set_option maxHeartbeats 4000000 in
theorem ctX8_frame {l : Launch} {w : gW} {bs : Nat} (hl : l.stackTraces = false) {a_f a_what : Int} {s m s0 : S2} {r0 : Int} (hF : FX8_frame a_f a_what s = some (r0, s0)) : gMet l w bs yX8_frame cX8_frame 3 (some FieldType.int) 2 0 [(11, 0), (0, a_f), (0, a_what)] (m, s) 0 (some (0, r0)) (m, s0) := by
  unfold FX8_frame at hF
  obtain ⟨hF, hr⟩ := rgd_some hF
  obtain ⟨q_a_f, hF⟩ := gd_some hF
  obtain ⟨q_a_what, hF⟩ := gd_some hF
  refine g_start hl (by decide) (Nat.le_of_ble_eq_true rfl) rfl fun X h hE => ?_
  have h : gOk X "PagewrightModel" cX8_frame 3 2 0 0 := h
  have hE : gEnd X l w bs 0 (some FieldType.int) 0 (some (0, r0)) (m, s0) := hE
  show G X 0 0 0 [(11, 0), (0, a_f), (0, a_what)] [] (m, s)
  refine g_aload_nq h 0 dX8_frame_0 rfl rfl ?_
  suffices J1 : ∀ v1 : Int, v1 = (if ((0 ≤ a_f) ∧ (a_f ≤ 23)) ∧ ((0 ≤ a_what) ∧ (a_what ≤ 7)) then 1 else 0 : Int) → G X 0 0 26 [(11, 0), (0, a_f), (0, a_what)] [(0, v1), (11, 0)] (m, s) by
    have J2 : ((0 ≤ a_f) ∧ (a_f ≤ 23)) ∧ ((0 ≤ a_what) ∧ (a_what ≤ 7)) → G X 0 0 21 [(11, 0), (0, a_f), (0, a_what)] [(11, 0)] (m, s) := by
      intro h3
      refine g_iconst h 21 dX8_frame_21 ?_
      refine g_goto h 22 26 dX8_frame_22 (by decide) ?_
      exact J1 _ (if_pos h3).symm
    have J3 : ¬ (((0 ≤ a_f) ∧ (a_f ≤ 23)) ∧ ((0 ≤ a_what) ∧ (a_what ≤ 7))) → G X 0 0 25 [(11, 0), (0, a_f), (0, a_what)] [(11, 0)] (m, s) := by
      intro h4
      refine g_iconst h 25 dX8_frame_25 ?_
      exact J1 _ (if_neg h4).symm
    refine g_iload_n h 1 dX8_frame_1 rfl ?_
    refine g_iconst h 2 dX8_frame_2 ?_
    refine g_bipush h 3 dX8_frame_3 (by decide) ?_
    refine g_callS h hE 5 dX8_frame_5 (cpX8_in (a_v := a_f) (a_low := 0) (a_high := 23) hl (by omega) (by omega) (by omega)) mwX8_in kw_1142 rfl (Nat.le_of_ble_eq_true rfl) rfl (Nat.le_of_ble_eq_true rfl) ⟨Nat.le_of_ble_eq_true rfl, Nat.le_of_ble_eq_true rfl⟩ rfl rfl ?_
    show G X 0 0 8 [(11, 0), (0, a_f), (0, a_what)] [(0, (if (0 ≤ a_f) ∧ (a_f ≤ 23) then 1 else 0 : Int)), (11, 0)] (m, s)
    refine g_if_eq h 8 25 (gRi gR_ite) dX8_frame_8 (by decide) (fun h1 => ?_) (fun h1 => ?_)
    · exact J3 (fun q => (iz_f h1) q.1)
    · refine g_iload_n h 11 dX8_frame_11 rfl ?_
      refine g_iconst h 12 dX8_frame_12 ?_
      refine g_bipush h 13 dX8_frame_13 (by decide) ?_
      refine g_callS h hE 15 dX8_frame_15 (cpX8_in (a_v := a_what) (a_low := 0) (a_high := 7) hl (by omega) (by omega) (by omega)) mwX8_in kw_1142 rfl (Nat.le_of_ble_eq_true rfl) rfl (Nat.le_of_ble_eq_true rfl) ⟨Nat.le_of_ble_eq_true rfl, Nat.le_of_ble_eq_true rfl⟩ rfl rfl ?_
      show G X 0 0 18 [(11, 0), (0, a_f), (0, a_what)] [(0, (if (0 ≤ a_what) ∧ (a_what ≤ 7) then 1 else 0 : Int)), (11, 0)] (m, s)
      refine g_if_eq h 18 25 (gRi gR_ite) dX8_frame_18 (by decide) (fun h2 => ?_) (fun h2 => ?_)
      · exact J3 (fun q => (iz_f h2) q.2)
      · exact J2 ⟨(iz_t h1), (iz_t h2)⟩
  intro v1 e1
  subst e1
  obtain ⟨r1, s1, c1, hF⟩ := cb_some hF
  have t1 : 0 ≤ r1 ∧ r1 ≤ 1 := rgX8_asked c1
  refine g_callV h hE 26 dX8_frame_26 (ctX8_asked hl c1) mwX8_asked kw_1260 (by decide) (by decide) rfl (Nat.le_of_ble_eq_true rfl) rfl (Nat.le_of_ble_eq_true rfl) ⟨Nat.le_of_ble_eq_true rfl, Nat.le_of_ble_eq_true rfl⟩ rfl rfl ?_
  show G X 0 0 29 [(11, 0), (0, a_f), (0, a_what)] [(0, r1)] (m, s1)
  refine g_if_ne h 29 34 (gRi (by omega)) dX8_frame_29 (by decide) (fun h5 => ?_) (fun h5 => ?_)
  · have hF := ite_t h5 hF
    have J4 : a_what = 0 → G X 0 0 38 [(11, 0), (0, a_f), (0, a_what)] [] (m, s1) := by
      intro h7
      have hF := ite_t h7 hF
      obtain ⟨k1, ek1, hF⟩ := bn_ex hF
      have J6 : ∀ (v2 : Int) (s2 : S2), ((-2147483648) ≤ v2 ∧ v2 ≤ 2147483647) → k1 v2 s2 = some (r0, s0) → G X 0 0 56 [(11, 0), (0, a_f), (0, a_what)] [(0, v2)] (m, s2) := by
        intro v2 s2 q2 hF
        rw [ek1] at hF
        obtain ⟨e1, e2⟩ := some_2 hF
        rw [← e1, ← e2] at hE
        exact g_iret h 56 dX8_frame_56 hE rfl rfl ⟨(Nat.le_of_ble_eq_true rfl), (Nat.le_of_ble_eq_true rfl)⟩
      refine g_aload_nq h 38 dX8_frame_38 rfl rfl ?_
      refine g_iload_n h 39 dX8_frame_39 rfl ?_
      obtain ⟨r2, s3, c2, hF⟩ := cb_some hF
      have t2 : 0 ≤ r2 ∧ r2 ≤ 1 := rgX8_lingers c2
      refine g_callV h hE 40 dX8_frame_40 (ctX8_lingers hl c2) mwX8_lingers kw_1352 (by decide) (by decide) rfl (Nat.le_of_ble_eq_true rfl) rfl (Nat.le_of_ble_eq_true rfl) ⟨Nat.le_of_ble_eq_true rfl, Nat.le_of_ble_eq_true rfl⟩ rfl rfl ?_
      show G X 0 0 43 [(11, 0), (0, a_f), (0, a_what)] [(0, r2)] (m, s3)
      refine g_if_eq h 43 50 (gRi (by omega)) dX8_frame_43 (by decide) (fun h8 => ?_) (fun h8 => ?_)
      · have hF := ite_f (fun q => q h8) hF
        refine G_typ fun hT_s3 => ?_
        have t3 : 0 ≤ s3 121 a_f ∧ s3 121 a_f ≤ 2 := hT_s3.2 121 a_f
        obtain ⟨q1, hF⟩ := gd_some hF
        refine g_aload_nq h 50 dX8_frame_50 rfl rfl ?_
        refine gf_M_kind h 51 dX8_frame_51 kw_1027 ?_
        refine g_iload_n h 54 dX8_frame_54 rfl ?_
        refine al_M_kind h 55 dX8_frame_55 (by omega) ?_
        exact J6 _ _ (by omega) hF
      · have hF := ite_t h8 hF
        refine g_iconst h 46 dX8_frame_46 ?_
        refine g_goto h 47 56 dX8_frame_47 (by decide) ?_
        exact J6 _ _ (by omega) hF
    have J5 : ¬ (a_what = 0) → G X 0 0 57 [(11, 0), (0, a_f), (0, a_what)] [] (m, s1) := by
      intro h9
      have hF := ite_f h9 hF
      refine G_typ fun hT_s1 => ?_
      have t4 : 0 ≤ s1 121 a_f ∧ s1 121 a_f ≤ 2 := hT_s1.2 121 a_f
      obtain ⟨q3, hF⟩ := gd_some hF
      have J7 : s1 121 a_f = 0 → G X 0 0 66 [(11, 0), (0, a_f), (0, a_what)] [] (m, s1) := by
        intro h11
        have hF := ite_t h11 hF
        refine g_iconst h 66 dX8_frame_66 ?_
        obtain ⟨e1, e2⟩ := some_2 hF
        rw [← e1, ← e2] at hE
        exact g_iret h 67 dX8_frame_67 hE rfl rfl ⟨(Nat.le_of_ble_eq_true rfl), (Nat.le_of_ble_eq_true rfl)⟩
      have J8 : ¬ (s1 121 a_f = 0) → G X 0 0 68 [(11, 0), (0, a_f), (0, a_what)] [] (m, s1) := by
        intro h12
        have hF := ite_f h12 hF
        refine g_iload_n h 68 dX8_frame_68 rfl ?_
        by_cases h13 : a_what = 1
        · have hF := ite_t h13 hF
          refine g_tsIn h 69 dX8_frame_69 1 108 h13 (by decide) (by decide) 39 (by decide) (by decide) ?_
          have t5 : 0 ≤ s1 122 a_f ∧ s1 122 a_f ≤ 99999 := hT_s1.2 122 a_f
          refine g_aload_nq h 108 dX8_frame_108 rfl rfl ?_
          refine gf_M_value h 109 dX8_frame_109 kw_1028 ?_
          refine g_iload_n h 112 dX8_frame_112 rfl ?_
          refine al_M_value h 113 dX8_frame_113 (by omega) ?_
          obtain ⟨e1, e2⟩ := some_2 hF
          rw [← e1, ← e2] at hE
          exact g_iret h 114 dX8_frame_114 hE rfl rfl ⟨(Nat.le_of_ble_eq_true rfl), (Nat.le_of_ble_eq_true rfl)⟩
        have hF := ite_f h13 hF
        by_cases h14 : a_what = 2
        · have hF := ite_t h14 hF
          refine g_tsIn h 69 dX8_frame_69 2 115 h14 (by decide) (by decide) 46 (by decide) (by decide) ?_
          have t6 : 0 ≤ s1 123 a_f ∧ s1 123 a_f ≤ 1 := hT_s1.2 123 a_f
          refine g_aload_nq h 115 dX8_frame_115 rfl rfl ?_
          refine gf_M_list h 116 dX8_frame_116 kw_1029 ?_
          refine g_iload_n h 119 dX8_frame_119 rfl ?_
          refine al_M_list h 120 dX8_frame_120 (by omega) ?_
          obtain ⟨e1, e2⟩ := some_2 hF
          rw [← e1, ← e2] at hE
          exact g_iret h 121 dX8_frame_121 hE rfl rfl ⟨(Nat.le_of_ble_eq_true rfl), (Nat.le_of_ble_eq_true rfl)⟩
        have hF := ite_f h14 hF
        by_cases h15 : a_what = 3
        · have hF := ite_t h15 hF
          refine g_tsIn h 69 dX8_frame_69 3 122 h15 (by decide) (by decide) 53 (by decide) (by decide) ?_
          have t7 : 0 ≤ s1 124 a_f ∧ s1 124 a_f ≤ 1 := hT_s1.2 124 a_f
          suffices J9 : ∀ v3 : Int, v3 = (if s1 124 a_f ≠ 0 then 1 else 0 : Int) → G X 0 0 136 [(11, 0), (0, a_f), (0, a_what)] [(0, v3)] (m, s1) by
            have J10 : s1 124 a_f ≠ 0 → G X 0 0 131 [(11, 0), (0, a_f), (0, a_what)] [] (m, s1) := by
              intro h17
              refine g_iconst h 131 dX8_frame_131 ?_
              refine g_goto h 132 136 dX8_frame_132 (by decide) ?_
              exact J9 _ (if_pos h17).symm
            have J11 : ¬ (s1 124 a_f ≠ 0) → G X 0 0 135 [(11, 0), (0, a_f), (0, a_what)] [] (m, s1) := by
              intro h18
              refine g_iconst h 135 dX8_frame_135 ?_
              exact J9 _ (if_neg h18).symm
            refine g_aload_nq h 122 dX8_frame_122 rfl rfl ?_
            refine gf_M_seen h 123 dX8_frame_123 kw_1030 ?_
            refine g_iload_n h 126 dX8_frame_126 rfl ?_
            refine al_M_seen h 127 dX8_frame_127 (by omega) ?_
            refine g_if_eq h 128 135 (gRi (by omega)) dX8_frame_128 (by decide) (fun h16 => ?_) (fun h16 => ?_)
            · exact J11 (fun q => q h16)
            · exact J10 h16
          intro v3 e2
          subst e2
          obtain ⟨e1, e2⟩ := some_2 hF
          rw [← e1, ← e2] at hE
          exact g_iret h 136 dX8_frame_136 hE rfl rfl ⟨(Nat.le_of_ble_eq_true rfl), (Nat.le_of_ble_eq_true rfl)⟩
        have hF := ite_f h15 hF
        by_cases h19 : a_what = 4
        · have hF := ite_t h19 hF
          refine g_tsIn h 69 dX8_frame_69 4 137 h19 (by decide) (by decide) 68 (by decide) (by decide) ?_
          refine g_aload_nq h 137 dX8_frame_137 rfl rfl ?_
          refine g_iload_n h 138 dX8_frame_138 rfl ?_
          obtain ⟨r3, s4, c3, hF⟩ := cb_some hF
          have t8 : 0 ≤ r3 ∧ r3 ≤ 192 := rgX8_entriesOf c3
          refine g_callV h hE 139 dX8_frame_139 (ctX8_entriesOf hl c3) mwX8_entriesOf kw_1204 (by decide) (by decide) rfl (Nat.le_of_ble_eq_true rfl) rfl (Nat.le_of_ble_eq_true rfl) ⟨Nat.le_of_ble_eq_true rfl, Nat.le_of_ble_eq_true rfl⟩ rfl rfl ?_
          show G X 0 0 142 [(11, 0), (0, a_f), (0, a_what)] [(0, r3)] (m, s4)
          obtain ⟨e1, e2⟩ := some_2 hF
          rw [← e1, ← e2] at hE
          exact g_iret h 142 dX8_frame_142 hE rfl rfl ⟨(Nat.le_of_ble_eq_true rfl), (Nat.le_of_ble_eq_true rfl)⟩
        have hF := ite_f h19 hF
        by_cases h20 : a_what = 5
        · have hF := ite_t h20 hF
          refine g_tsIn h 69 dX8_frame_69 5 143 h20 (by decide) (by decide) 74 (by decide) (by decide) ?_
          have t9 : 0 ≤ s1 125 a_f ∧ s1 125 a_f ≤ 2 := hT_s1.2 125 a_f
          refine g_aload_nq h 143 dX8_frame_143 rfl rfl ?_
          refine gf_M_owner h 144 dX8_frame_144 kw_1031 ?_
          refine g_iload_n h 147 dX8_frame_147 rfl ?_
          refine al_M_owner h 148 dX8_frame_148 (by omega) ?_
          obtain ⟨e1, e2⟩ := some_2 hF
          rw [← e1, ← e2] at hE
          exact g_iret h 149 dX8_frame_149 hE rfl rfl ⟨(Nat.le_of_ble_eq_true rfl), (Nat.le_of_ble_eq_true rfl)⟩
        have hF := ite_f h20 hF
        by_cases h21 : a_what = 6
        · have hF := ite_t h21 hF
          refine g_tsIn h 69 dX8_frame_69 6 150 h21 (by decide) (by decide) 81 (by decide) (by decide) ?_
          have t10 : 0 ≤ s1 126 a_f ∧ s1 126 a_f ≤ 1 := hT_s1.2 126 a_f
          suffices J12 : ∀ v4 : Int, v4 = (if s1 126 a_f ≠ 0 then 1 else 0 : Int) → G X 0 0 164 [(11, 0), (0, a_f), (0, a_what)] [(0, v4)] (m, s1) by
            have J13 : s1 126 a_f ≠ 0 → G X 0 0 159 [(11, 0), (0, a_f), (0, a_what)] [] (m, s1) := by
              intro h23
              refine g_iconst h 159 dX8_frame_159 ?_
              refine g_goto h 160 164 dX8_frame_160 (by decide) ?_
              exact J12 _ (if_pos h23).symm
            have J14 : ¬ (s1 126 a_f ≠ 0) → G X 0 0 163 [(11, 0), (0, a_f), (0, a_what)] [] (m, s1) := by
              intro h24
              refine g_iconst h 163 dX8_frame_163 ?_
              exact J12 _ (if_neg h24).symm
            refine g_aload_nq h 150 dX8_frame_150 rfl rfl ?_
            refine gf_M_mark h 151 dX8_frame_151 kw_1032 ?_
            refine g_iload_n h 154 dX8_frame_154 rfl ?_
            refine al_M_mark h 155 dX8_frame_155 (by omega) ?_
            refine g_if_eq h 156 163 (gRi (by omega)) dX8_frame_156 (by decide) (fun h22 => ?_) (fun h22 => ?_)
            · exact J14 (fun q => q h22)
            · exact J13 h22
          intro v4 e3
          subst e3
          obtain ⟨e1, e2⟩ := some_2 hF
          rw [← e1, ← e2] at hE
          exact g_iret h 164 dX8_frame_164 hE rfl rfl ⟨(Nat.le_of_ble_eq_true rfl), (Nat.le_of_ble_eq_true rfl)⟩
        have hF := ite_f h21 hF
        refine g_tsOut h 69 dX8_frame_69 165 (gRi (by omega)) (by omega) (by decide) ?_
        have t11 : (-1) ≤ s1 127 a_f ∧ s1 127 a_f ≤ 23 := hT_s1.2 127 a_f
        obtain ⟨q4, hF⟩ := gd_some hF
        suffices J15 : ∀ v5 : Int, v5 = (if s1 121 a_f = 1 then (-1) else (10 * ((s1 127 a_f) / 8)) + ((s1 127 a_f) % 8) : Int) → G X 0 0 201 [(11, 0), (0, a_f), (0, a_what)] [(0, v5)] (m, s1) by
          have J16 : s1 121 a_f = 1 → G X 0 0 175 [(11, 0), (0, a_f), (0, a_what)] [] (m, s1) := by
            intro h26
            refine g_iconst h 175 dX8_frame_175 ?_
            refine g_goto h 176 201 dX8_frame_176 (by decide) ?_
            exact J15 _ (if_pos h26).symm
          have J17 : ¬ (s1 121 a_f = 1) → G X 0 0 179 [(11, 0), (0, a_f), (0, a_what)] [] (m, s1) := by
            intro h27
            refine g_bipush h 179 dX8_frame_179 (by decide) ?_
            refine g_aload_nq h 181 dX8_frame_181 rfl rfl ?_
            refine gf_M_key h 182 dX8_frame_182 kw_1033 ?_
            refine g_iload_n h 185 dX8_frame_185 rfl ?_
            refine al_M_key h 186 dX8_frame_186 (by omega) ?_
            refine g_bipush h 187 dX8_frame_187 (by decide) ?_
            refine g_idiv h 189 dX8_frame_189 (by omega) (by omega) ?_
            refine g_imul h 190 dX8_frame_190 ?_
            refine g_aload_nq h 191 dX8_frame_191 rfl rfl ?_
            refine gf_M_key h 192 dX8_frame_192 kw_1033 ?_
            refine g_iload_n h 195 dX8_frame_195 rfl ?_
            refine al_M_key h 196 dX8_frame_196 (by omega) ?_
            refine g_bipush h 197 dX8_frame_197 (by decide) ?_
            refine g_irem h 199 dX8_frame_199 (by omega) (by omega) ?_
            refine g_iadd h 200 dX8_frame_200 ?_
            exact J15 _ (if_neg h27).symm
          refine g_aload_nq h 165 dX8_frame_165 rfl rfl ?_
          refine gf_M_kind h 166 dX8_frame_166 kw_1027 ?_
          refine g_iload_n h 169 dX8_frame_169 rfl ?_
          refine al_M_kind h 170 dX8_frame_170 (by omega) ?_
          refine g_iconst h 171 dX8_frame_171 ?_
          refine g_icmp_ne h 172 179 (gRi (by omega)) (gRi (by omega)) dX8_frame_172 (by decide) (fun h25 => ?_) (fun h25 => ?_)
          · exact J17 h25
          · exact J16 h25
        intro v5 e4
        subst e4
        obtain ⟨e1, e2⟩ := some_2 hF
        rw [← e1, ← e2] at hE
        exact g_iret h 201 dX8_frame_201 hE rfl rfl ⟨(Nat.le_of_ble_eq_true rfl), (Nat.le_of_ble_eq_true rfl)⟩
      refine g_aload_nq h 57 dX8_frame_57 rfl rfl ?_
      refine gf_M_kind h 58 dX8_frame_58 kw_1027 ?_
      refine g_iload_n h 61 dX8_frame_61 rfl ?_
      refine al_M_kind h 62 dX8_frame_62 (by omega) ?_
      refine g_if_ne h 63 68 (gRi (by omega)) dX8_frame_63 (by decide) (fun h10 => ?_) (fun h10 => ?_)
      · exact J8 h10
      · exact J7 h10
    refine g_iload_n h 34 dX8_frame_34 rfl ?_
    refine g_if_ne h 35 57 (gRi (by omega)) dX8_frame_35 (by decide) (fun h6 => ?_) (fun h6 => ?_)
    · exact J5 h6
    · exact J4 h6
  · have hF := ite_f (fun q => q h5) hF
    refine g_iconst h 32 dX8_frame_32 ?_
    obtain ⟨e1, e2⟩ := some_2 hF
    rw [← e1, ← e2] at hE
    exact g_iret h 33 dX8_frame_33 hE rfl rfl ⟨(Nat.le_of_ble_eq_true rfl), (Nat.le_of_ble_eq_true rfl)⟩
-- PagewrightModel.goes
def FX8_goes (a_f : Int) (s : S2) : Option (Int × S2) :=
  rgd 0 1 <| gd (0 ≤ a_f ∧ a_f ≤ 23) <| bn (fun (v1 : Int) (s1 : S2) => if (s1 121 a_f = 1) ∧ (v1 = (-1)) then some (0, s1) else bn (upd2 s1 140 2 ((s1 140 2) + 1)) fun s3 => bn (fun (s4 : S2) => gl1 1000 (fun k4 (x_e1 : Int) (s9 : S2) => if x_e1 < 192 then bn (fun (s10 : S2) => k4 (x_e1 + 1) s10) fun k5 => if ((0 < s9 111 x_e1) ∧ (s9 116 x_e1 = 1)) ∧ (s9 117 x_e1 = a_f) then cb (FX8_tells x_e1 s9) fun r2 s11 => cb (FX8_unblocks x_e1 s11) fun r3 s12 => bn (upd2 s12 116 x_e1 (if v1 = (-1) then 0 else 2 : Int)) fun s13 => gd ((-1) ≤ v1 ∧ v1 ≤ 17) <| bn (upd2 s13 119 x_e1 v1) fun s14 => k5 s14 else k5 s9 else cb (FX8_unlist a_f s9) fun r4 s15 => bn (upd2 s15 121 a_f 0) fun s16 => some (1, s16)) 0 s4) fun k2 => if s3 121 a_f = 2 then bn (fun (s5 : S2) => gd (0 ≤ s5 127 a_f ∧ s5 127 a_f ≤ 23) <| bn (upd2 s5 131 (s5 127 a_f) (s5 140 2)) fun s8 => k2 s8) fun k3 => if s3 126 a_f ≠ 0 then gd (0 ≤ s3 127 a_f ∧ s3 127 a_f ≤ 23) <| bn (upd2 s3 130 (s3 127 a_f) (s3 122 a_f)) fun s6 => bn (upd2 s6 140 5 ((s6 140 5) + 1)) fun s7 => k3 s7 else k3 s3 else k2 s3) fun k1 => if s 121 a_f = 1 then cb (FX8_records (s 122 a_f) s) fun r1 s2 => k1 r1 s2 else k1 (-1) s
theorem rgX8_goes {a_f : Int} {s s0 : S2} {r0 : Int} (hF : FX8_goes a_f s = some (r0, s0)) : 0 ≤ r0 ∧ r0 ≤ 1 := (rgd_some hF).2
set_option maxRecDepth 100000 in
set_option maxHeartbeats 4000000 in
theorem ctX8_goes {l : Launch} {w : gW} {bs : Nat} (hl : l.stackTraces = false) {a_f : Int} {s m s0 : S2} {r0 : Int} (hF : FX8_goes a_f s = some (r0, s0)) : gMet l w bs yX8_goes cX8_goes 4 (some FieldType.boolean) 2 0 [(11, 0), (0, a_f)] (m, s) 0 (some (0, r0)) (m, s0) := by
  unfold FX8_goes at hF
  obtain ⟨hF, hr⟩ := rgd_some hF
  obtain ⟨q_a_f, hF⟩ := gd_some hF
  refine g_start hl (by decide) (Nat.le_of_ble_eq_true rfl) rfl fun X h hE => ?_
  have h : gOk X "PagewrightModel" cX8_goes 4 2 0 0 := h
  have hE : gEnd X l w bs 0 (some FieldType.boolean) 0 (some (0, r0)) (m, s0) := hE
  show G X 0 0 0 [(11, 0), (0, a_f), (1, 0), (1, 0)] [] (m, s)
  obtain ⟨k1, ek1, hF⟩ := bn_ex hF
  have J1 : ∀ (v1 : Int) (s1 : S2), ((-2147483648) ≤ v1 ∧ v1 ≤ 2147483647) → k1 v1 s1 = some (r0, s0) → G X 0 0 24 [(11, 0), (0, a_f), (1, 0), (1, 0)] [(0, v1)] (m, s1) := by
    intro v1 s1 q1 hF
    rw [ek1] at hF
    refine g_istore_n h 24 dX8_goes_24 (Nat.le_of_ble_eq_true rfl) rfl (L' := [(11, 0), (0, a_f), (0, v1), (1, 0)]) rfl ?_
    refine G_typ fun hT_s1 => ?_
    have t4 : 0 ≤ s1 121 a_f ∧ s1 121 a_f ≤ 2 := hT_s1.2 121 a_f
    have J4 : (s1 121 a_f = 1) ∧ (v1 = (-1)) → G X 0 0 40 [(11, 0), (0, a_f), (0, v1), (1, 0)] [] (m, s1) := by
      intro h6
      have hF := ite_t h6 hF
      refine g_iconst h 40 dX8_goes_40 ?_
      obtain ⟨e1, e2⟩ := some_2 hF
      rw [← e1, ← e2] at hE
      exact g_iret h 41 dX8_goes_41 hE rfl (g_nb (by rw [← e1] at hr; exact hr)) ⟨(Nat.le_of_ble_eq_true rfl), (Nat.le_of_ble_eq_true rfl)⟩
    have J5 : ¬ ((s1 121 a_f = 1) ∧ (v1 = (-1))) → G X 0 0 42 [(11, 0), (0, a_f), (0, v1), (1, 0)] [] (m, s1) := by
      intro h7
      have hF := ite_f h7 hF
      refine g_aload_nq h 42 dX8_goes_42 rfl rfl ?_
      refine gf_M_counts h 43 dX8_goes_43 kw_1047 ?_
      refine g_iconst h 46 dX8_goes_46 ?_
      refine g_dup2 h 47 dX8_goes_47 (show (0 : Nat) ≠ 2 by decide) (show (58 : Nat) ≠ 2 by decide) ?_
      refine al_M_counts h 48 dX8_goes_48 (by omega) ?_
      refine g_iconst h 49 dX8_goes_49 ?_
      refine g_iadd h 50 dX8_goes_50 ?_
      obtain ⟨s3, es3, hF⟩ := bn_ex hF
      refine as_M_counts h 51 dX8_goes_51 (by omega) ?_
      rw [← es3]
      obtain ⟨k2, ek2, hF⟩ := bn_ex hF
      have J6 : ∀ (s4 : S2), k2 s4 = some (r0, s0) → G X 0 0 115 [(11, 0), (0, a_f), (0, v1), (1, 0)] [] (m, s4) := by
        intro s4 hF
        rw [ek2] at hF
        refine g_iconst h 115 dX8_goes_115 ?_
        refine g_istore_n h 116 dX8_goes_116 (Nat.le_of_ble_eq_true rfl) rfl (L' := [(11, 0), (0, a_f), (0, v1), (0, 0)]) rfl ?_
        obtain ⟨f1, ef1, hF⟩ := glx1 hF
        have J21 : ∀ (n1 : Nat) (x_e1 : Int) (s9 : S2), (0 ≤ x_e1 ∧ x_e1 ≤ 192) → gl1 n1 f1 x_e1 s9 = some (r0, s0) → G X 0 0 117 [(11, 0), (0, a_f), (0, v1), (0, x_e1)] [] (m, s9) := by
          intro n1
          induction n1 with
          | zero => intro x_e1 s9 _ hF; exact (gl1_0 hF).elim
          | succ n1 ih1 =>
            intro x_e1 s9 q4 hF
            obtain ⟨k4, ek4, hF⟩ := glu1 hF ef1
            have J13 : x_e1 < 192 → G X 0 0 124 [(11, 0), (0, a_f), (0, v1), (0, x_e1)] [] (m, s9) := by
              intro h15
              have hF := ite_t h15 hF
              obtain ⟨k5, ek5, hF⟩ := bn_ex hF
              have J15 : ∀ (s10 : S2), k5 s10 = some (r0, s0) → G X 0 0 166 [(11, 0), (0, a_f), (0, v1), (0, x_e1)] [] (m, s10) := by
                intro s10 hF
                rw [ek5] at hF
                refine g_iinc h 166 dX8_goes_166 rfl rfl (L' := [(11, 0), (0, a_f), (0, v1), (0, x_e1 + 1)]) rfl ?_
                refine g_goto h 169 117 dX8_goes_169 (by decide) ?_
                rw [ek4] at hF
                exact ih1 _ _ (by omega) hF
              refine G_typ fun hT_s9 => ?_
              have t10 : 0 ≤ s9 111 x_e1 ∧ s9 111 x_e1 ≤ 3 := hT_s9.2 111 x_e1
              have t11 : 0 ≤ s9 116 x_e1 ∧ s9 116 x_e1 ≤ 2 := hT_s9.2 116 x_e1
              have t12 : 0 ≤ s9 117 x_e1 ∧ s9 117 x_e1 ≤ 23 := hT_s9.2 117 x_e1
              have J16 : ((0 < s9 111 x_e1) ∧ (s9 116 x_e1 = 1)) ∧ (s9 117 x_e1 = a_f) → G X 0 0 133 [(11, 0), (0, a_f), (0, v1), (0, x_e1)] [] (m, s9) := by
                intro h17
                have hF := ite_t h17 hF
                refine g_aload_nq h 133 dX8_goes_133 rfl rfl ?_
                refine g_iload_n h 134 dX8_goes_134 rfl ?_
                obtain ⟨r2, s11, c2, hF⟩ := cb_some hF
                refine g_callV h hE 135 dX8_goes_135 (ctX8_tells hl c2) mwX8_tells kw_1200 (by decide) (by decide) rfl (Nat.le_of_ble_eq_true rfl) rfl (Nat.le_of_ble_eq_true rfl) ⟨Nat.le_of_ble_eq_true rfl, Nat.le_of_ble_eq_true rfl⟩ rfl rfl ?_
                show G X 0 0 138 [(11, 0), (0, a_f), (0, v1), (0, x_e1)] [] (m, s11)
                refine g_aload_nq h 138 dX8_goes_138 rfl rfl ?_
                refine g_iload_n h 139 dX8_goes_139 rfl ?_
                obtain ⟨r3, s12, c3, hF⟩ := cb_some hF
                refine g_callV h hE 140 dX8_goes_140 (ctX8_unblocks hl c3) mwX8_unblocks kw_1196 (by decide) (by decide) rfl (Nat.le_of_ble_eq_true rfl) rfl (Nat.le_of_ble_eq_true rfl) ⟨Nat.le_of_ble_eq_true rfl, Nat.le_of_ble_eq_true rfl⟩ rfl rfl ?_
                show G X 0 0 143 [(11, 0), (0, a_f), (0, v1), (0, x_e1)] [] (m, s12)
                refine g_aload_nq h 143 dX8_goes_143 rfl rfl ?_
                refine gf_M_state h 144 dX8_goes_144 kw_1022 ?_
                refine g_iload_n h 147 dX8_goes_147 rfl ?_
                suffices J18 : ∀ v2 : Int, v2 = (if v1 = (-1) then 0 else 2 : Int) → G X 0 0 158 [(11, 0), (0, a_f), (0, v1), (0, x_e1)] [(0, v2), (0, x_e1), (34, 0)] (m, s12) by
                  have J19 : v1 = (-1) → G X 0 0 153 [(11, 0), (0, a_f), (0, v1), (0, x_e1)] [(0, x_e1), (34, 0)] (m, s12) := by
                    intro h19
                    refine g_iconst h 153 dX8_goes_153 ?_
                    refine g_goto h 154 158 dX8_goes_154 (by decide) ?_
                    exact J18 _ (if_pos h19).symm
                  have J20 : ¬ (v1 = (-1)) → G X 0 0 157 [(11, 0), (0, a_f), (0, v1), (0, x_e1)] [(0, x_e1), (34, 0)] (m, s12) := by
                    intro h20
                    refine g_iconst h 157 dX8_goes_157 ?_
                    exact J18 _ (if_neg h20).symm
                  refine g_iload_n h 148 dX8_goes_148 rfl ?_
                  refine g_iconst h 149 dX8_goes_149 ?_
                  refine g_icmp_ne h 150 157 (gRi (by omega)) (gRi (by omega)) dX8_goes_150 (by decide) (fun h18 => ?_) (fun h18 => ?_)
                  · exact J20 h18
                  · exact J19 h18
                intro v2 e1
                subst e1
                obtain ⟨s13, es13, hF⟩ := bn_ex hF
                refine as_M_state h 158 dX8_goes_158 (by omega) (by omega) ?_
                rw [← es13]
                refine g_aload_nq h 159 dX8_goes_159 rfl rfl ?_
                refine gf_M_record h 160 dX8_goes_160 kw_1025 ?_
                refine g_iload_n h 163 dX8_goes_163 rfl ?_
                refine g_iload_n h 164 dX8_goes_164 rfl ?_
                obtain ⟨q5, hF⟩ := gd_some hF
                obtain ⟨s14, es14, hF⟩ := bn_ex hF
                refine as_M_record h 165 dX8_goes_165 (by omega) (by omega) ?_
                rw [← es14]
                exact J15 _ hF
              have J17 : ¬ (((0 < s9 111 x_e1) ∧ (s9 116 x_e1 = 1)) ∧ (s9 117 x_e1 = a_f)) → G X 0 0 166 [(11, 0), (0, a_f), (0, v1), (0, x_e1)] [] (m, s9) := by
                intro h21
                have hF := ite_f h21 hF
                exact J15 _ hF
              refine g_aload_nq h 124 dX8_goes_124 rfl rfl ?_
              refine g_iload_n h 125 dX8_goes_125 rfl ?_
              refine g_iload_n h 126 dX8_goes_126 rfl ?_
              refine g_callV h hE 127 dX8_goes_127 (cpX8_has (a_e := x_e1) (a_f := a_f) hl (by omega) (by omega)) mwX8_has kw_1208 (by decide) (by decide) rfl (Nat.le_of_ble_eq_true rfl) rfl (Nat.le_of_ble_eq_true rfl) ⟨Nat.le_of_ble_eq_true rfl, Nat.le_of_ble_eq_true rfl⟩ rfl rfl ?_
              show G X 0 0 130 [(11, 0), (0, a_f), (0, v1), (0, x_e1)] [(0, (if ((0 < s9 111 x_e1) ∧ (s9 116 x_e1 = 1)) ∧ (s9 117 x_e1 = a_f) then 1 else 0 : Int))] (m, s9)
              refine g_if_eq h 130 166 (gRi gR_ite) dX8_goes_130 (by decide) (fun h16 => ?_) (fun h16 => ?_)
              · exact J17 (iz_f h16)
              · exact J16 (iz_t h16)
            have J14 : ¬ (x_e1 < 192) → G X 0 0 172 [(11, 0), (0, a_f), (0, v1), (0, x_e1)] [] (m, s9) := by
              intro h22
              have hF := ite_f h22 hF
              refine g_aload_nq h 172 dX8_goes_172 rfl rfl ?_
              refine g_iload_n h 173 dX8_goes_173 rfl ?_
              obtain ⟨r4, s15, c4, hF⟩ := cb_some hF
              refine g_callV h hE 174 dX8_goes_174 (ctX8_unlist hl c4) mwX8_unlist kw_1212 (by decide) (by decide) rfl (Nat.le_of_ble_eq_true rfl) rfl (Nat.le_of_ble_eq_true rfl) ⟨Nat.le_of_ble_eq_true rfl, Nat.le_of_ble_eq_true rfl⟩ rfl rfl ?_
              show G X 0 0 177 [(11, 0), (0, a_f), (0, v1), (0, x_e1)] [] (m, s15)
              refine g_aload_nq h 177 dX8_goes_177 rfl rfl ?_
              refine gf_M_kind h 178 dX8_goes_178 kw_1027 ?_
              refine g_iload_n h 181 dX8_goes_181 rfl ?_
              refine g_iconst h 182 dX8_goes_182 ?_
              obtain ⟨s16, es16, hF⟩ := bn_ex hF
              refine as_M_kind h 183 dX8_goes_183 (by omega) (by omega) ?_
              rw [← es16]
              refine g_iconst h 184 dX8_goes_184 ?_
              obtain ⟨e1, e2⟩ := some_2 hF
              rw [← e1, ← e2] at hE
              exact g_iret h 185 dX8_goes_185 hE rfl (g_nb (by rw [← e1] at hr; exact hr)) ⟨(Nat.le_of_ble_eq_true rfl), (Nat.le_of_ble_eq_true rfl)⟩
            refine g_iload_n h 117 dX8_goes_117 rfl ?_
            refine g_sipush h 118 dX8_goes_118 (by decide) ?_
            refine g_icmp_ge h 121 172 (gRi (by omega)) (gRi (by omega)) dX8_goes_121 (by decide) (fun h14 => ?_) (fun h14 => ?_)
            · exact J14 (Int.not_lt.mpr h14)
            · exact J13 h14
        exact J21 _ _ _ (by omega) hF
      refine G_typ fun hT_s3 => ?_
      have t5 : 0 ≤ s3 121 a_f ∧ s3 121 a_f ≤ 2 := hT_s3.2 121 a_f
      have J7 : s3 121 a_f = 2 → G X 0 0 62 [(11, 0), (0, a_f), (0, v1), (1, 0)] [] (m, s3) := by
        intro h9
        have hF := ite_t h9 hF
        obtain ⟨k3, ek3, hF⟩ := bn_ex hF
        have J9 : ∀ (s5 : S2), k3 s5 = some (r0, s0) → G X 0 0 98 [(11, 0), (0, a_f), (0, v1), (1, 0)] [] (m, s5) := by
          intro s5 hF
          rw [ek3] at hF
          refine g_aload_nq h 98 dX8_goes_98 rfl rfl ?_
          refine gf_M_stamp h 99 dX8_goes_99 kw_1037 ?_
          refine G_typ fun hT_s5 => ?_
          have t9 : (-1) ≤ s5 127 a_f ∧ s5 127 a_f ≤ 23 := hT_s5.2 127 a_f
          refine g_aload_nq h 102 dX8_goes_102 rfl rfl ?_
          refine gf_M_key h 103 dX8_goes_103 kw_1033 ?_
          refine g_iload_n h 106 dX8_goes_106 rfl ?_
          refine al_M_key h 107 dX8_goes_107 (by omega) ?_
          obtain ⟨q3, hF⟩ := gd_some hF
          refine g_aload_nq h 108 dX8_goes_108 rfl rfl ?_
          refine gf_M_counts h 109 dX8_goes_109 kw_1047 ?_
          refine g_iconst h 112 dX8_goes_112 ?_
          refine al_M_counts h 113 dX8_goes_113 (by omega) ?_
          obtain ⟨s8, es8, hF⟩ := bn_ex hF
          refine as_M_stamp h 114 dX8_goes_114 (by omega) ?_
          rw [← es8]
          exact J6 _ hF
        have t6 : 0 ≤ s3 126 a_f ∧ s3 126 a_f ≤ 1 := hT_s3.2 126 a_f
        have J10 : s3 126 a_f ≠ 0 → G X 0 0 71 [(11, 0), (0, a_f), (0, v1), (1, 0)] [] (m, s3) := by
          intro h11
          have hF := ite_t h11 hF
          refine g_aload_nq h 71 dX8_goes_71 rfl rfl ?_
          refine gf_M_disk h 72 dX8_goes_72 kw_1036 ?_
          have t7 : (-1) ≤ s3 127 a_f ∧ s3 127 a_f ≤ 23 := hT_s3.2 127 a_f
          refine g_aload_nq h 75 dX8_goes_75 rfl rfl ?_
          refine gf_M_key h 76 dX8_goes_76 kw_1033 ?_
          refine g_iload_n h 79 dX8_goes_79 rfl ?_
          refine al_M_key h 80 dX8_goes_80 (by omega) ?_
          obtain ⟨q2, hF⟩ := gd_some hF
          have t8 : 0 ≤ s3 122 a_f ∧ s3 122 a_f ≤ 99999 := hT_s3.2 122 a_f
          refine g_aload_nq h 81 dX8_goes_81 rfl rfl ?_
          refine gf_M_value h 82 dX8_goes_82 kw_1028 ?_
          refine g_iload_n h 85 dX8_goes_85 rfl ?_
          refine al_M_value h 86 dX8_goes_86 (by omega) ?_
          obtain ⟨s6, es6, hF⟩ := bn_ex hF
          refine as_M_disk h 87 dX8_goes_87 (by omega) (by omega) ?_
          rw [← es6]
          refine g_aload_nq h 88 dX8_goes_88 rfl rfl ?_
          refine gf_M_counts h 89 dX8_goes_89 kw_1047 ?_
          refine g_iconst h 92 dX8_goes_92 ?_
          refine g_dup2 h 93 dX8_goes_93 (show (0 : Nat) ≠ 2 by decide) (show (58 : Nat) ≠ 2 by decide) ?_
          refine al_M_counts h 94 dX8_goes_94 (by omega) ?_
          refine g_iconst h 95 dX8_goes_95 ?_
          refine g_iadd h 96 dX8_goes_96 ?_
          obtain ⟨s7, es7, hF⟩ := bn_ex hF
          refine as_M_counts h 97 dX8_goes_97 (by omega) ?_
          rw [← es7]
          exact J9 _ hF
        have J11 : ¬ (s3 126 a_f ≠ 0) → G X 0 0 98 [(11, 0), (0, a_f), (0, v1), (1, 0)] [] (m, s3) := by
          intro h12
          have hF := ite_f h12 hF
          exact J9 _ hF
        refine g_aload_nq h 62 dX8_goes_62 rfl rfl ?_
        refine gf_M_mark h 63 dX8_goes_63 kw_1032 ?_
        refine g_iload_n h 66 dX8_goes_66 rfl ?_
        refine al_M_mark h 67 dX8_goes_67 (by omega) ?_
        refine g_if_eq h 68 98 (gRi (by omega)) dX8_goes_68 (by decide) (fun h10 => ?_) (fun h10 => ?_)
        · exact J11 (fun q => q h10)
        · exact J10 h10
      have J8 : ¬ (s3 121 a_f = 2) → G X 0 0 115 [(11, 0), (0, a_f), (0, v1), (1, 0)] [] (m, s3) := by
        intro h13
        have hF := ite_f h13 hF
        exact J6 _ hF
      refine g_aload_nq h 52 dX8_goes_52 rfl rfl ?_
      refine gf_M_kind h 53 dX8_goes_53 kw_1027 ?_
      refine g_iload_n h 56 dX8_goes_56 rfl ?_
      refine al_M_kind h 57 dX8_goes_57 (by omega) ?_
      refine g_iconst h 58 dX8_goes_58 ?_
      refine g_icmp_ne h 59 115 (gRi (by omega)) (gRi (by omega)) dX8_goes_59 (by decide) (fun h8 => ?_) (fun h8 => ?_)
      · exact J8 h8
      · exact J7 h8
    refine g_aload_nq h 25 dX8_goes_25 rfl rfl ?_
    refine gf_M_kind h 26 dX8_goes_26 kw_1027 ?_
    refine g_iload_n h 29 dX8_goes_29 rfl ?_
    refine al_M_kind h 30 dX8_goes_30 (by omega) ?_
    refine g_iconst h 31 dX8_goes_31 ?_
    refine g_icmp_ne h 32 42 (gRi (by omega)) (gRi (by omega)) dX8_goes_32 (by decide) (fun h4 => ?_) (fun h4 => ?_)
    · exact J5 (fun q => h4 q.1)
    · refine g_iload_n h 35 dX8_goes_35 rfl ?_
      refine g_iconst h 36 dX8_goes_36 ?_
      refine g_icmp_ne h 37 42 (gRi (by omega)) (gRi (by omega)) dX8_goes_37 (by decide) (fun h5 => ?_) (fun h5 => ?_)
      · exact J5 (fun q => h5 q.2)
      · exact J4 ⟨h4, h5⟩
  refine G_typ fun hT_s => ?_
  have t1 : 0 ≤ s 121 a_f ∧ s 121 a_f ≤ 2 := hT_s.2 121 a_f
  have J2 : s 121 a_f = 1 → G X 0 0 10 [(11, 0), (0, a_f), (1, 0), (1, 0)] [] (m, s) := by
    intro h2
    have hF := ite_t h2 hF
    refine g_aload_nq h 10 dX8_goes_10 rfl rfl ?_
    have t2 : 0 ≤ s 122 a_f ∧ s 122 a_f ≤ 99999 := hT_s.2 122 a_f
    refine g_aload_nq h 11 dX8_goes_11 rfl rfl ?_
    refine gf_M_value h 12 dX8_goes_12 kw_1028 ?_
    refine g_iload_n h 15 dX8_goes_15 rfl ?_
    refine al_M_value h 16 dX8_goes_16 (by omega) ?_
    obtain ⟨r1, s2, c1, hF⟩ := cb_some hF
    have t3 : (-1) ≤ r1 ∧ r1 ≤ 17 := rgX8_records c1
    refine g_callV h hE 17 dX8_goes_17 (ctX8_records hl c1) mwX8_records kw_1332 (by decide) (by decide) rfl (Nat.le_of_ble_eq_true rfl) rfl (Nat.le_of_ble_eq_true rfl) ⟨Nat.le_of_ble_eq_true rfl, Nat.le_of_ble_eq_true rfl⟩ rfl rfl ?_
    show G X 0 0 20 [(11, 0), (0, a_f), (1, 0), (1, 0)] [(0, r1)] (m, s2)
    refine g_goto h 20 24 dX8_goes_20 (by decide) ?_
    exact J1 _ _ (by omega) hF
  have J3 : ¬ (s 121 a_f = 1) → G X 0 0 23 [(11, 0), (0, a_f), (1, 0), (1, 0)] [] (m, s) := by
    intro h3
    have hF := ite_f h3 hF
    refine g_iconst h 23 dX8_goes_23 ?_
    exact J1 _ _ (by omega) hF
  refine g_aload_nq h 0 dX8_goes_0 rfl rfl ?_
  refine gf_M_kind h 1 dX8_goes_1 kw_1027 ?_
  refine g_iload_n h 4 dX8_goes_4 rfl ?_
  refine al_M_kind h 5 dX8_goes_5 (by omega) ?_
  refine g_iconst h 6 dX8_goes_6 ?_
  refine g_icmp_ne h 7 23 (gRi (by omega)) (gRi (by omega)) dX8_goes_7 (by decide) (fun h1 => ?_) (fun h1 => ?_)
  · exact J3 h1
  · exact J2 h1
-- PagewrightModel.isAlive
set_option maxRecDepth 100000 in
theorem cpX8_isAlive {l : Launch} {w : gW} {bs : Nat} (hl : l.stackTraces = false) {a_s : Int} {s m : S2} (q_a_s : (-2147483648) ≤ a_s ∧ a_s ≤ 2147483647) : gMet l w bs yX8_isAlive cX8_isAlive 2 (some FieldType.boolean) 2 0 [(11, 0), (0, a_s)] (m, s) 0 (some (0, (if ((0 ≤ a_s) ∧ (a_s ≤ (s 102 0) - 1)) ∧ (s 106 a_s ≠ 0) then 1 else 0 : Int))) (m, s) := by
  refine g_start hl (by decide) (Nat.le_of_ble_eq_true rfl) rfl fun X h hE => ?_
  have h : gOk X "PagewrightModel" cX8_isAlive 2 2 0 0 := h
  show G X 0 0 0 [(11, 0), (0, a_s)] [] (m, s)
  refine G_typ fun hT_s => ?_
  have t1 : 0 ≤ s 102 0 ∧ s 102 0 ≤ 6 := hT_s.2 102 0
  have t2 : 0 ≤ s 106 a_s ∧ s 106 a_s ≤ 1 := hT_s.2 106 a_s
  suffices J1 : ∀ v1 : Int, v1 = (if ((0 ≤ a_s) ∧ (a_s ≤ (s 102 0) - 1)) ∧ (s 106 a_s ≠ 0) then 1 else 0 : Int) → G X 0 0 22 [(11, 0), (0, a_s)] [(0, v1)] (m, s) by
    have J2 : ((0 ≤ a_s) ∧ (a_s ≤ (s 102 0) - 1)) ∧ (s 106 a_s ≠ 0) → G X 0 0 17 [(11, 0), (0, a_s)] [] (m, s) := by
      intro h3
      refine g_iconst h 17 dX8_isAlive_17 ?_
      refine g_goto h 18 22 dX8_isAlive_18 (by decide) ?_
      exact J1 _ (if_pos h3).symm
    have J3 : ¬ (((0 ≤ a_s) ∧ (a_s ≤ (s 102 0) - 1)) ∧ (s 106 a_s ≠ 0)) → G X 0 0 21 [(11, 0), (0, a_s)] [] (m, s) := by
      intro h4
      refine g_iconst h 21 dX8_isAlive_21 ?_
      exact J1 _ (if_neg h4).symm
    refine g_aload_nq h 0 dX8_isAlive_0 rfl rfl ?_
    refine g_iload_n h 1 dX8_isAlive_1 rfl ?_
    refine g_callV h hE 2 dX8_isAlive_2 (cpX8_isSpace (a_s := a_s) hl (by omega)) mwX8_isSpace kw_1156 (by decide) (by decide) rfl (Nat.le_of_ble_eq_true rfl) rfl (Nat.le_of_ble_eq_true rfl) ⟨Nat.le_of_ble_eq_true rfl, Nat.le_of_ble_eq_true rfl⟩ rfl rfl ?_
    show G X 0 0 5 [(11, 0), (0, a_s)] [(0, (if (0 ≤ a_s) ∧ (a_s ≤ (s 102 0) - 1) then 1 else 0 : Int))] (m, s)
    refine g_if_eq h 5 21 (gRi gR_ite) dX8_isAlive_5 (by decide) (fun h1 => ?_) (fun h1 => ?_)
    · exact J3 (fun q => (iz_f h1) q.1)
    · refine g_aload_nq h 8 dX8_isAlive_8 rfl rfl ?_
      refine gf_M_lives h 9 dX8_isAlive_9 kw_1012 ?_
      refine g_iload_n h 12 dX8_isAlive_12 rfl ?_
      refine al_M_lives h 13 dX8_isAlive_13 (by omega) ?_
      refine g_if_eq h 14 21 (gRi (by omega)) dX8_isAlive_14 (by decide) (fun h2 => ?_) (fun h2 => ?_)
      · exact J3 (fun q => (fun q => q h2) q.2)
      · exact J2 ⟨(iz_t h1), h2⟩
  intro v1 e1
  subst e1
  exact g_iret h 22 dX8_isAlive_22 hE rfl (g_nb (by first | omega | (split <;> decide))) ⟨(Nat.le_of_ble_eq_true rfl), (Nat.le_of_ble_eq_true rfl)⟩
-- PagewrightModel.leaves
def FX8_leaves (a_e : Int) (s : S2) : Option (Int × S2) :=
  gd (0 ≤ a_e ∧ a_e ≤ 191) <| bn (upd2 s 116 a_e 0) fun s1 => cb (FX8_unblocks a_e s1) fun r1 s2 => bn (fun (s3 : S2) => some (0, s3)) fun k1 => if s 116 a_e = 1 then cb (FX8_tells a_e s2) fun r2 s4 => bn (fun (s5 : S2) => k1 s5) fun k2 => bn (fun (s6 : S2) => cb (FX8_unlist (s6 117 a_e) s6) fun r4 s9 => bn (upd2 s9 121 (s9 117 a_e) 0) fun s10 => k2 s10) fun k3 => bn (fun (s7 : S2) => k2 s7) fun k4 => if s4 121 (s4 117 a_e) = 1 then cb (FX8_entriesOf (s4 117 a_e) s4) fun r3 s8 => if r3 = 0 then k3 s8 else k4 s8 else k4 s4 else bn (fun (s11 : S2) => k1 s11) fun k5 => if s 116 a_e = 2 then gl2 1000 (fun k6 (x_has1 : Int) (x_k1 : Int) (s12 : S2) => if x_k1 < 192 then k6 (gOr x_has1 (if ((0 < s12 111 x_k1) ∧ (s12 116 x_k1 = 2)) ∧ (s12 119 x_k1 = s12 119 a_e) then 1 else 0 : Int)) (x_k1 + 1) s12 else gd (0 ≤ s12 119 a_e ∧ s12 119 a_e ≤ 17) <| bn (upd2 s12 132 (s12 119 a_e) (if x_has1 ≠ 0 then s12 132 (s12 119 a_e) else (-1) : Int)) fun s13 => k5 s13) 0 0 s2 else k5 s2
set_option maxRecDepth 100000 in
set_option maxHeartbeats 4000000 in
theorem ctX8_leaves {l : Launch} {w : gW} {bs : Nat} (hl : l.stackTraces = false) {a_e : Int} {s m s0 : S2} {r0 : Int} (hF : FX8_leaves a_e s = some (r0, s0)) : gMet l w bs yX8_leaves cX8_leaves 5 none 2 0 [(11, 0), (0, a_e)] (m, s) 0 none (m, s0) := by
  unfold FX8_leaves at hF
  obtain ⟨q_a_e, hF⟩ := gd_some hF
  refine g_start hl (by decide) (Nat.le_of_ble_eq_true rfl) rfl fun X h hE => ?_
  have h : gOk X "PagewrightModel" cX8_leaves 5 2 0 0 := h
  have hE : gEnd X l w bs 0 none 0 none (m, s0) := hE
  show G X 0 0 0 [(11, 0), (0, a_e), (1, 0), (1, 0), (1, 0)] [] (m, s)
  refine G_typ fun hT_s => ?_
  have t1 : 0 ≤ s 116 a_e ∧ s 116 a_e ≤ 2 := hT_s.2 116 a_e
  refine g_aload_nq h 0 dX8_leaves_0 rfl rfl ?_
  refine gf_M_state h 1 dX8_leaves_1 kw_1022 ?_
  refine g_iload_n h 4 dX8_leaves_4 rfl ?_
  refine al_M_state h 5 dX8_leaves_5 (by omega) ?_
  refine g_istore_n h 6 dX8_leaves_6 (Nat.le_of_ble_eq_true rfl) rfl (L' := [(11, 0), (0, a_e), (0, s 116 a_e), (1, 0), (1, 0)]) rfl ?_
  refine g_aload_nq h 7 dX8_leaves_7 rfl rfl ?_
  refine gf_M_state h 8 dX8_leaves_8 kw_1022 ?_
  refine g_iload_n h 11 dX8_leaves_11 rfl ?_
  refine g_iconst h 12 dX8_leaves_12 ?_
  obtain ⟨s1, es1, hF⟩ := bn_ex hF
  refine as_M_state h 13 dX8_leaves_13 (by omega) (by omega) ?_
  rw [← es1]
  refine g_aload_nq h 14 dX8_leaves_14 rfl rfl ?_
  refine g_iload_n h 15 dX8_leaves_15 rfl ?_
  obtain ⟨r1, s2, c1, hF⟩ := cb_some hF
  refine g_callV h hE 16 dX8_leaves_16 (ctX8_unblocks hl c1) mwX8_unblocks kw_1196 (by decide) (by decide) rfl (Nat.le_of_ble_eq_true rfl) rfl (Nat.le_of_ble_eq_true rfl) ⟨Nat.le_of_ble_eq_true rfl, Nat.le_of_ble_eq_true rfl⟩ rfl rfl ?_
  show G X 0 0 19 [(11, 0), (0, a_e), (0, s 116 a_e), (1, 0), (1, 0)] [] (m, s2)
  obtain ⟨k1, ek1, hF⟩ := bn_ex hF
  have J1 : ∀ (s3 : S2), k1 s3 = some (r0, s0) → G X 0 0 181 [(11, 0), (0, a_e), (0, s 116 a_e), (1, 0), (1, 0)] [] (m, s3) := by
    intro s3 hF
    rw [ek1] at hF
    obtain ⟨e1, e2⟩ := some_2 hF
    rw [← e2] at hE
    exact g_vret h 181 dX8_leaves_181 hE rfl ⟨(Nat.le_of_ble_eq_true rfl), (Nat.le_of_ble_eq_true rfl)⟩
  have J2 : s 116 a_e = 1 → G X 0 0 24 [(11, 0), (0, a_e), (0, s 116 a_e), (1, 0), (1, 0)] [] (m, s2) := by
    intro h2
    have hF := ite_t h2 hF
    refine g_aload_nq h 24 dX8_leaves_24 rfl rfl ?_
    refine g_iload_n h 25 dX8_leaves_25 rfl ?_
    obtain ⟨r2, s4, c2, hF⟩ := cb_some hF
    refine g_callV h hE 26 dX8_leaves_26 (ctX8_tells hl c2) mwX8_tells kw_1200 (by decide) (by decide) rfl (Nat.le_of_ble_eq_true rfl) rfl (Nat.le_of_ble_eq_true rfl) ⟨Nat.le_of_ble_eq_true rfl, Nat.le_of_ble_eq_true rfl⟩ rfl rfl ?_
    show G X 0 0 29 [(11, 0), (0, a_e), (0, s 116 a_e), (1, 0), (1, 0)] [] (m, s4)
    obtain ⟨k2, ek2, hF⟩ := bn_ex hF
    have J4 : ∀ (s5 : S2), k2 s5 = some (r0, s0) → G X 0 0 181 [(11, 0), (0, a_e), (0, s 116 a_e), (1, 0), (1, 0)] [] (m, s5) := by
      intro s5 hF
      rw [ek2] at hF
      exact J1 _ hF
    obtain ⟨k3, ek3, hF⟩ := bn_ex hF
    have J5 : ∀ (s6 : S2), k3 s6 = some (r0, s0) → G X 0 0 57 [(11, 0), (0, a_e), (0, s 116 a_e), (1, 0), (1, 0)] [] (m, s6) := by
      intro s6 hF
      rw [ek3] at hF
      refine g_aload_nq h 57 dX8_leaves_57 rfl rfl ?_
      refine G_typ fun hT_s6 => ?_
      have t5 : 0 ≤ s6 117 a_e ∧ s6 117 a_e ≤ 23 := hT_s6.2 117 a_e
      refine g_aload_nq h 58 dX8_leaves_58 rfl rfl ?_
      refine gf_M_page h 59 dX8_leaves_59 kw_1023 ?_
      refine g_iload_n h 62 dX8_leaves_62 rfl ?_
      refine al_M_page h 63 dX8_leaves_63 (by omega) ?_
      obtain ⟨r4, s9, c4, hF⟩ := cb_some hF
      refine g_callV h hE 64 dX8_leaves_64 (ctX8_unlist hl c4) mwX8_unlist kw_1212 (by decide) (by decide) rfl (Nat.le_of_ble_eq_true rfl) rfl (Nat.le_of_ble_eq_true rfl) ⟨Nat.le_of_ble_eq_true rfl, Nat.le_of_ble_eq_true rfl⟩ rfl rfl ?_
      show G X 0 0 67 [(11, 0), (0, a_e), (0, s 116 a_e), (1, 0), (1, 0)] [] (m, s9)
      refine g_aload_nq h 67 dX8_leaves_67 rfl rfl ?_
      refine gf_M_kind h 68 dX8_leaves_68 kw_1027 ?_
      refine G_typ fun hT_s9 => ?_
      have t6 : 0 ≤ s9 117 a_e ∧ s9 117 a_e ≤ 23 := hT_s9.2 117 a_e
      refine g_aload_nq h 71 dX8_leaves_71 rfl rfl ?_
      refine gf_M_page h 72 dX8_leaves_72 kw_1023 ?_
      refine g_iload_n h 75 dX8_leaves_75 rfl ?_
      refine al_M_page h 76 dX8_leaves_76 (by omega) ?_
      refine g_iconst h 77 dX8_leaves_77 ?_
      obtain ⟨s10, es10, hF⟩ := bn_ex hF
      refine as_M_kind h 78 dX8_leaves_78 (by omega) (by omega) ?_
      rw [← es10]
      refine g_goto h 79 181 dX8_leaves_79 (by decide) ?_
      exact J4 _ hF
    obtain ⟨k4, ek4, hF⟩ := bn_ex hF
    have J6 : ∀ (s7 : S2), k4 s7 = some (r0, s0) → G X 0 0 181 [(11, 0), (0, a_e), (0, s 116 a_e), (1, 0), (1, 0)] [] (m, s7) := by
      intro s7 hF
      rw [ek4] at hF
      exact J4 _ hF
    refine G_typ fun hT_s4 => ?_
    have t2 : 0 ≤ s4 117 a_e ∧ s4 117 a_e ≤ 23 := hT_s4.2 117 a_e
    have t3 : 0 ≤ s4 121 (s4 117 a_e) ∧ s4 121 (s4 117 a_e) ≤ 2 := hT_s4.2 121 (s4 117 a_e)
    have J7 : s4 121 (s4 117 a_e) = 1 → G X 0 0 44 [(11, 0), (0, a_e), (0, s 116 a_e), (1, 0), (1, 0)] [] (m, s4) := by
      intro h4
      have hF := ite_t h4 hF
      refine g_aload_nq h 44 dX8_leaves_44 rfl rfl ?_
      refine g_aload_nq h 45 dX8_leaves_45 rfl rfl ?_
      refine gf_M_page h 46 dX8_leaves_46 kw_1023 ?_
      refine g_iload_n h 49 dX8_leaves_49 rfl ?_
      refine al_M_page h 50 dX8_leaves_50 (by omega) ?_
      obtain ⟨r3, s8, c3, hF⟩ := cb_some hF
      have t4 : 0 ≤ r3 ∧ r3 ≤ 192 := rgX8_entriesOf c3
      refine g_callV h hE 51 dX8_leaves_51 (ctX8_entriesOf hl c3) mwX8_entriesOf kw_1204 (by decide) (by decide) rfl (Nat.le_of_ble_eq_true rfl) rfl (Nat.le_of_ble_eq_true rfl) ⟨Nat.le_of_ble_eq_true rfl, Nat.le_of_ble_eq_true rfl⟩ rfl rfl ?_
      show G X 0 0 54 [(11, 0), (0, a_e), (0, s 116 a_e), (1, 0), (1, 0)] [(0, r3)] (m, s8)
      refine g_if_ne h 54 181 (gRi (by omega)) dX8_leaves_54 (by decide) (fun h5 => ?_) (fun h5 => ?_)
      · have hF := ite_f h5 hF
        exact J6 _ hF
      · have hF := ite_t h5 hF
        exact J5 _ hF
    have J8 : ¬ (s4 121 (s4 117 a_e) = 1) → G X 0 0 181 [(11, 0), (0, a_e), (0, s 116 a_e), (1, 0), (1, 0)] [] (m, s4) := by
      intro h6
      have hF := ite_f h6 hF
      exact J6 _ hF
    refine g_aload_nq h 29 dX8_leaves_29 rfl rfl ?_
    refine gf_M_kind h 30 dX8_leaves_30 kw_1027 ?_
    refine g_aload_nq h 33 dX8_leaves_33 rfl rfl ?_
    refine gf_M_page h 34 dX8_leaves_34 kw_1023 ?_
    refine g_iload_n h 37 dX8_leaves_37 rfl ?_
    refine al_M_page h 38 dX8_leaves_38 (by omega) ?_
    refine al_M_kind h 39 dX8_leaves_39 (by omega) ?_
    refine g_iconst h 40 dX8_leaves_40 ?_
    refine g_icmp_ne h 41 181 (gRi (by omega)) (gRi (by omega)) dX8_leaves_41 (by decide) (fun h3 => ?_) (fun h3 => ?_)
    · exact J8 h3
    · exact J7 h3
  have J3 : ¬ (s 116 a_e = 1) → G X 0 0 82 [(11, 0), (0, a_e), (0, s 116 a_e), (1, 0), (1, 0)] [] (m, s2) := by
    intro h7
    have hF := ite_f h7 hF
    obtain ⟨k5, ek5, hF⟩ := bn_ex hF
    have J9 : ∀ (s11 : S2), k5 s11 = some (r0, s0) → G X 0 0 181 [(11, 0), (0, a_e), (0, s 116 a_e), (1, 0), (1, 0)] [] (m, s11) := by
      intro s11 hF
      rw [ek5] at hF
      exact J1 _ hF
    have J10 : s 116 a_e = 2 → G X 0 0 87 [(11, 0), (0, a_e), (0, s 116 a_e), (1, 0), (1, 0)] [] (m, s2) := by
      intro h9
      have hF := ite_t h9 hF
      refine g_iconst h 87 dX8_leaves_87 ?_
      refine g_istore_n h 88 dX8_leaves_88 (Nat.le_of_ble_eq_true rfl) rfl (L' := [(11, 0), (0, a_e), (0, s 116 a_e), (0, 0), (1, 0)]) rfl ?_
      refine g_iconst h 89 dX8_leaves_89 ?_
      refine g_istore h 90 dX8_leaves_90 (Nat.le_of_ble_eq_true rfl) rfl (L' := [(11, 0), (0, a_e), (0, s 116 a_e), (0, 0), (0, 0)]) rfl ?_
      obtain ⟨f1, ef1, hF⟩ := glx2 hF
      have J21 : ∀ (n1 : Nat) (x_has1 x_k1 : Int) (s12 : S2), (0 ≤ x_has1 ∧ x_has1 ≤ 1) → (0 ≤ x_k1 ∧ x_k1 ≤ 192) → gl2 n1 f1 x_has1 x_k1 s12 = some (r0, s0) → G X 0 0 92 [(11, 0), (0, a_e), (0, s 116 a_e), (0, x_has1), (0, x_k1)] [] (m, s12) := by
        intro n1
        induction n1 with
        | zero => intro x_has1 x_k1 s12 _ _ hF; exact (gl2_0 hF).elim
        | succ n1 ih1 =>
          intro x_has1 x_k1 s12 q1 q2 hF
          obtain ⟨k6, ek6, hF⟩ := glu2 hF ef1
          have J13 : x_k1 < 192 → G X 0 0 100 [(11, 0), (0, a_e), (0, s 116 a_e), (0, x_has1), (0, x_k1)] [] (m, s12) := by
            intro h11
            have hF := ite_t h11 hF
            refine G_typ fun hT_s12 => ?_
            have t7 : 0 ≤ s12 111 x_k1 ∧ s12 111 x_k1 ≤ 3 := hT_s12.2 111 x_k1
            have t8 : 0 ≤ s12 116 x_k1 ∧ s12 116 x_k1 ≤ 2 := hT_s12.2 116 x_k1
            have t9 : (-1) ≤ s12 119 x_k1 ∧ s12 119 x_k1 ≤ 17 := hT_s12.2 119 x_k1
            have t10 : (-1) ≤ s12 119 a_e ∧ s12 119 a_e ≤ 17 := hT_s12.2 119 a_e
            have t11 : 0 ≤ gOr x_has1 (if ((0 < s12 111 x_k1) ∧ (s12 116 x_k1 = 2)) ∧ (s12 119 x_k1 = s12 119 a_e) then 1 else 0 : Int) ∧ gOr x_has1 (if ((0 < s12 111 x_k1) ∧ (s12 116 x_k1 = 2)) ∧ (s12 119 x_k1 = s12 119 a_e) then 1 else 0 : Int) ≤ 1 := gOr_01 (by omega) (by omega)
            refine g_iload_n h 100 dX8_leaves_100 rfl ?_
            suffices J15 : ∀ v1 : Int, v1 = (if ((0 < s12 111 x_k1) ∧ (s12 116 x_k1 = 2)) ∧ (s12 119 x_k1 = s12 119 a_e) then 1 else 0 : Int) → G X 0 0 143 [(11, 0), (0, a_e), (0, s 116 a_e), (0, x_has1), (0, x_k1)] [(0, v1), (0, x_has1)] (m, s12) by
              have J16 : ((0 < s12 111 x_k1) ∧ (s12 116 x_k1 = 2)) ∧ (s12 119 x_k1 = s12 119 a_e) → G X 0 0 138 [(11, 0), (0, a_e), (0, s 116 a_e), (0, x_has1), (0, x_k1)] [(0, x_has1)] (m, s12) := by
                intro h15
                refine g_iconst h 138 dX8_leaves_138 ?_
                refine g_goto h 139 143 dX8_leaves_139 (by decide) ?_
                exact J15 _ (if_pos h15).symm
              have J17 : ¬ (((0 < s12 111 x_k1) ∧ (s12 116 x_k1 = 2)) ∧ (s12 119 x_k1 = s12 119 a_e)) → G X 0 0 142 [(11, 0), (0, a_e), (0, s 116 a_e), (0, x_has1), (0, x_k1)] [(0, x_has1)] (m, s12) := by
                intro h16
                refine g_iconst h 142 dX8_leaves_142 ?_
                exact J15 _ (if_neg h16).symm
              refine g_aload_nq h 101 dX8_leaves_101 rfl rfl ?_
              refine gf_M_rights h 102 dX8_leaves_102 kw_1017 ?_
              refine g_iload h 105 dX8_leaves_105 rfl ?_
              refine al_M_rights h 107 dX8_leaves_107 (by omega) ?_
              refine g_if_le h 108 142 (gRi (by omega)) dX8_leaves_108 (by decide) (fun h12 => ?_) (fun h12 => ?_)
              · exact J17 (fun q => (fun q => (Int.not_lt.mpr h12) q.1) q.1)
              · refine g_aload_nq h 111 dX8_leaves_111 rfl rfl ?_
                refine gf_M_state h 112 dX8_leaves_112 kw_1022 ?_
                refine g_iload h 115 dX8_leaves_115 rfl ?_
                refine al_M_state h 117 dX8_leaves_117 (by omega) ?_
                refine g_iconst h 118 dX8_leaves_118 ?_
                refine g_icmp_ne h 119 142 (gRi (by omega)) (gRi (by omega)) dX8_leaves_119 (by decide) (fun h13 => ?_) (fun h13 => ?_)
                · exact J17 (fun q => (fun q => h13 q.2) q.1)
                · refine g_aload_nq h 122 dX8_leaves_122 rfl rfl ?_
                  refine gf_M_record h 123 dX8_leaves_123 kw_1025 ?_
                  refine g_iload h 126 dX8_leaves_126 rfl ?_
                  refine al_M_record h 128 dX8_leaves_128 (by omega) ?_
                  refine g_aload_nq h 129 dX8_leaves_129 rfl rfl ?_
                  refine gf_M_record h 130 dX8_leaves_130 kw_1025 ?_
                  refine g_iload_n h 133 dX8_leaves_133 rfl ?_
                  refine al_M_record h 134 dX8_leaves_134 (by omega) ?_
                  refine g_icmp_ne h 135 142 (gRi (by omega)) (gRi (by omega)) dX8_leaves_135 (by decide) (fun h14 => ?_) (fun h14 => ?_)
                  · exact J17 (fun q => h14 q.2)
                  · exact J16 ⟨⟨h12, h13⟩, h14⟩
            intro v1 e1
            subst e1
            refine g_ior h 143 dX8_leaves_143 ?_
            refine g_istore_n h 144 dX8_leaves_144 (Nat.le_of_ble_eq_true rfl) rfl (L' := [(11, 0), (0, a_e), (0, s 116 a_e), (0, gOr x_has1 (if ((0 < s12 111 x_k1) ∧ (s12 116 x_k1 = 2)) ∧ (s12 119 x_k1 = s12 119 a_e) then 1 else 0 : Int)), (0, x_k1)]) rfl ?_
            refine g_iinc h 145 dX8_leaves_145 rfl rfl (L' := [(11, 0), (0, a_e), (0, s 116 a_e), (0, gOr x_has1 (if ((0 < s12 111 x_k1) ∧ (s12 116 x_k1 = 2)) ∧ (s12 119 x_k1 = s12 119 a_e) then 1 else 0 : Int)), (0, x_k1 + 1)]) rfl ?_
            refine g_goto h 148 92 dX8_leaves_148 (by decide) ?_
            rw [ek6] at hF
            exact ih1 _ _ _ (by omega) (by omega) hF
          have J14 : ¬ (x_k1 < 192) → G X 0 0 151 [(11, 0), (0, a_e), (0, s 116 a_e), (0, x_has1), (0, x_k1)] [] (m, s12) := by
            intro h17
            have hF := ite_f h17 hF
            refine g_aload_nq h 151 dX8_leaves_151 rfl rfl ?_
            refine gf_M_place h 152 dX8_leaves_152 kw_1038 ?_
            refine G_typ fun hT_s12 => ?_
            have t12 : (-1) ≤ s12 119 a_e ∧ s12 119 a_e ≤ 17 := hT_s12.2 119 a_e
            refine g_aload_nq h 155 dX8_leaves_155 rfl rfl ?_
            refine gf_M_record h 156 dX8_leaves_156 kw_1025 ?_
            refine g_iload_n h 159 dX8_leaves_159 rfl ?_
            refine al_M_record h 160 dX8_leaves_160 (by omega) ?_
            obtain ⟨q3, hF⟩ := gd_some hF
            have t13 : (-1) ≤ s12 132 (s12 119 a_e) ∧ s12 132 (s12 119 a_e) ≤ 10 := hT_s12.2 132 (s12 119 a_e)
            suffices J18 : ∀ v2 : Int, v2 = (if x_has1 ≠ 0 then s12 132 (s12 119 a_e) else (-1) : Int) → G X 0 0 180 [(11, 0), (0, a_e), (0, s 116 a_e), (0, x_has1), (0, x_k1)] [(0, v2), (0, s12 119 a_e), (50, 0)] (m, s12) by
              have J19 : x_has1 ≠ 0 → G X 0 0 165 [(11, 0), (0, a_e), (0, s 116 a_e), (0, x_has1), (0, x_k1)] [(0, s12 119 a_e), (50, 0)] (m, s12) := by
                intro h19
                refine g_aload_nq h 165 dX8_leaves_165 rfl rfl ?_
                refine gf_M_place h 166 dX8_leaves_166 kw_1038 ?_
                refine g_aload_nq h 169 dX8_leaves_169 rfl rfl ?_
                refine gf_M_record h 170 dX8_leaves_170 kw_1025 ?_
                refine g_iload_n h 173 dX8_leaves_173 rfl ?_
                refine al_M_record h 174 dX8_leaves_174 (by omega) ?_
                refine al_M_place h 175 dX8_leaves_175 (by omega) ?_
                refine g_goto h 176 180 dX8_leaves_176 (by decide) ?_
                exact J18 _ (if_pos h19).symm
              have J20 : ¬ (x_has1 ≠ 0) → G X 0 0 179 [(11, 0), (0, a_e), (0, s 116 a_e), (0, x_has1), (0, x_k1)] [(0, s12 119 a_e), (50, 0)] (m, s12) := by
                intro h20
                refine g_iconst h 179 dX8_leaves_179 ?_
                exact J18 _ (if_neg h20).symm
              refine g_iload_n h 161 dX8_leaves_161 rfl ?_
              refine g_if_eq h 162 179 (gRi (by omega)) dX8_leaves_162 (by decide) (fun h18 => ?_) (fun h18 => ?_)
              · exact J20 (fun q => q h18)
              · exact J19 h18
            intro v2 e2
            subst e2
            obtain ⟨s13, es13, hF⟩ := bn_ex hF
            refine as_M_place h 180 dX8_leaves_180 (by omega) (by omega) ?_
            rw [← es13]
            refine G_weak (L' := [(11, 0), (0, a_e), (0, s 116 a_e), (1, 0), (1, 0)]) ⟨Or.inr rfl, Or.inr rfl, Or.inr rfl, Or.inl rfl, Or.inl rfl, trivial⟩ ?_
            exact J9 _ hF
          refine g_iload h 92 dX8_leaves_92 rfl ?_
          refine g_sipush h 94 dX8_leaves_94 (by decide) ?_
          refine g_icmp_ge h 97 151 (gRi (by omega)) (gRi (by omega)) dX8_leaves_97 (by decide) (fun h10 => ?_) (fun h10 => ?_)
          · exact J14 (Int.not_lt.mpr h10)
          · exact J13 h10
      exact J21 _ _ _ _ (by omega) (by omega) hF
    have J11 : ¬ (s 116 a_e = 2) → G X 0 0 181 [(11, 0), (0, a_e), (0, s 116 a_e), (1, 0), (1, 0)] [] (m, s2) := by
      intro h21
      have hF := ite_f h21 hF
      exact J9 _ hF
    refine g_iload_n h 82 dX8_leaves_82 rfl ?_
    refine g_iconst h 83 dX8_leaves_83 ?_
    refine g_icmp_ne h 84 181 (gRi (by omega)) (gRi (by omega)) dX8_leaves_84 (by decide) (fun h8 => ?_) (fun h8 => ?_)
    · exact J11 h8
    · exact J10 h8
  refine g_iload_n h 19 dX8_leaves_19 rfl ?_
  refine g_iconst h 20 dX8_leaves_20 ?_
  refine g_icmp_ne h 21 82 (gRi (by omega)) (gRi (by omega)) dX8_leaves_21 (by decide) (fun h1 => ?_) (fun h1 => ?_)
  · exact J3 h1
  · exact J2 h1
-- PagewrightModel.limit
def FX8_limit (a_g a_pages : Int) (s : S2) : Option (Int × S2) :=
  rgd (-2147483648) 2147483647 <| gd ((-2147483648) ≤ a_g ∧ a_g ≤ 2147483647) <| gd ((-2147483648) ≤ a_pages ∧ a_pages ≤ 2147483647) <| cb (FX8_asked (if ((0 ≤ a_g) ∧ (a_g ≤ 2)) ∧ ((a_pages = (-1)) ∨ ((1 ≤ a_pages) ∧ (a_pages ≤ 24))) then 1 else 0 : Int) s) fun r1 s1 => if r1 ≠ 0 then gd (0 ≤ a_g ∧ a_g ≤ 2) <| gd ((-1) ≤ a_pages ∧ a_pages ≤ 24) <| bn (upd2 s1 110 a_g a_pages) fun s2 => cb (FX8_pagesOf a_g s2) fun r2 s3 => some (r2, s3) else some (0, s1)
theorem rgX8_limit {a_g a_pages : Int} {s s0 : S2} {r0 : Int} (hF : FX8_limit a_g a_pages s = some (r0, s0)) : (-2147483648) ≤ r0 ∧ r0 ≤ 2147483647 := (rgd_some hF).2
set_option maxRecDepth 100000 in
set_option maxHeartbeats 4000000 in
theorem ctX8_limit {l : Launch} {w : gW} {bs : Nat} (hl : l.stackTraces = false) {a_g a_pages : Int} {s m s0 : S2} {r0 : Int} (hF : FX8_limit a_g a_pages s = some (r0, s0)) : gMet l w bs yX8_limit cX8_limit 3 (some FieldType.int) 2 0 [(11, 0), (0, a_g), (0, a_pages)] (m, s) 0 (some (0, r0)) (m, s0) := by
  unfold FX8_limit at hF
  obtain ⟨hF, hr⟩ := rgd_some hF
  obtain ⟨q_a_g, hF⟩ := gd_some hF
  obtain ⟨q_a_pages, hF⟩ := gd_some hF
  refine g_start hl (by decide) (Nat.le_of_ble_eq_true rfl) rfl fun X h hE => ?_
  have h : gOk X "PagewrightModel" cX8_limit 3 2 0 0 := h
  have hE : gEnd X l w bs 0 (some FieldType.int) 0 (some (0, r0)) (m, s0) := hE
  show G X 0 0 0 [(11, 0), (0, a_g), (0, a_pages)] [] (m, s)
  refine g_aload_nq h 0 dX8_limit_0 rfl rfl ?_
  suffices J1 : ∀ v1 : Int, v1 = (if ((0 ≤ a_g) ∧ (a_g ≤ 2)) ∧ ((a_pages = (-1)) ∨ ((1 ≤ a_pages) ∧ (a_pages ≤ 24))) then 1 else 0 : Int) → G X 0 0 30 [(11, 0), (0, a_g), (0, a_pages)] [(0, v1), (11, 0)] (m, s) by
    have J2 : ((0 ≤ a_g) ∧ (a_g ≤ 2)) ∧ ((a_pages = (-1)) ∨ ((1 ≤ a_pages) ∧ (a_pages ≤ 24))) → G X 0 0 25 [(11, 0), (0, a_g), (0, a_pages)] [(11, 0)] (m, s) := by
      intro h4
      refine g_iconst h 25 dX8_limit_25 ?_
      refine g_goto h 26 30 dX8_limit_26 (by decide) ?_
      exact J1 _ (if_pos h4).symm
    have J3 : ¬ (((0 ≤ a_g) ∧ (a_g ≤ 2)) ∧ ((a_pages = (-1)) ∨ ((1 ≤ a_pages) ∧ (a_pages ≤ 24)))) → G X 0 0 29 [(11, 0), (0, a_g), (0, a_pages)] [(11, 0)] (m, s) := by
      intro h5
      refine g_iconst h 29 dX8_limit_29 ?_
      exact J1 _ (if_neg h5).symm
    refine g_iload_n h 1 dX8_limit_1 rfl ?_
    refine g_iconst h 2 dX8_limit_2 ?_
    refine g_iconst h 3 dX8_limit_3 ?_
    refine g_callS h hE 4 dX8_limit_4 (cpX8_in (a_v := a_g) (a_low := 0) (a_high := 2) hl (by omega) (by omega) (by omega)) mwX8_in kw_1142 rfl (Nat.le_of_ble_eq_true rfl) rfl (Nat.le_of_ble_eq_true rfl) ⟨Nat.le_of_ble_eq_true rfl, Nat.le_of_ble_eq_true rfl⟩ rfl rfl ?_
    show G X 0 0 7 [(11, 0), (0, a_g), (0, a_pages)] [(0, (if (0 ≤ a_g) ∧ (a_g ≤ 2) then 1 else 0 : Int)), (11, 0)] (m, s)
    refine g_if_eq h 7 29 (gRi gR_ite) dX8_limit_7 (by decide) (fun h1 => ?_) (fun h1 => ?_)
    · exact J3 (fun q => (iz_f h1) q.1)
    · refine g_iload_n h 10 dX8_limit_10 rfl ?_
      refine g_iconst h 11 dX8_limit_11 ?_
      refine g_icmp_eq h 12 25 (gRi (by omega)) (gRi (by omega)) dX8_limit_12 (by decide) (fun h2 => ?_) (fun h2 => ?_)
      · exact J2 ⟨(iz_t h1), (Or.inl h2)⟩
      · refine g_iload_n h 15 dX8_limit_15 rfl ?_
        refine g_iconst h 16 dX8_limit_16 ?_
        refine g_bipush h 17 dX8_limit_17 (by decide) ?_
        refine g_callS h hE 19 dX8_limit_19 (cpX8_in (a_v := a_pages) (a_low := 1) (a_high := 24) hl (by omega) (by omega) (by omega)) mwX8_in kw_1142 rfl (Nat.le_of_ble_eq_true rfl) rfl (Nat.le_of_ble_eq_true rfl) ⟨Nat.le_of_ble_eq_true rfl, Nat.le_of_ble_eq_true rfl⟩ rfl rfl ?_
        show G X 0 0 22 [(11, 0), (0, a_g), (0, a_pages)] [(0, (if (1 ≤ a_pages) ∧ (a_pages ≤ 24) then 1 else 0 : Int)), (11, 0)] (m, s)
        refine g_if_eq h 22 29 (gRi gR_ite) dX8_limit_22 (by decide) (fun h3 => ?_) (fun h3 => ?_)
        · exact J3 (fun q => (fun q => q.elim h2 (iz_f h3)) q.2)
        · exact J2 ⟨(iz_t h1), (Or.inr (iz_t h3))⟩
  intro v1 e1
  subst e1
  obtain ⟨r1, s1, c1, hF⟩ := cb_some hF
  have t1 : 0 ≤ r1 ∧ r1 ≤ 1 := rgX8_asked c1
  refine g_callV h hE 30 dX8_limit_30 (ctX8_asked hl c1) mwX8_asked kw_1260 (by decide) (by decide) rfl (Nat.le_of_ble_eq_true rfl) rfl (Nat.le_of_ble_eq_true rfl) ⟨Nat.le_of_ble_eq_true rfl, Nat.le_of_ble_eq_true rfl⟩ rfl rfl ?_
  show G X 0 0 33 [(11, 0), (0, a_g), (0, a_pages)] [(0, r1)] (m, s1)
  refine g_if_ne h 33 38 (gRi (by omega)) dX8_limit_33 (by decide) (fun h6 => ?_) (fun h6 => ?_)
  · have hF := ite_t h6 hF
    refine g_aload_nq h 38 dX8_limit_38 rfl rfl ?_
    refine gf_M_limit h 39 dX8_limit_39 kw_1016 ?_
    refine g_iload_n h 42 dX8_limit_42 rfl ?_
    obtain ⟨q1, hF⟩ := gd_some hF
    refine g_iload_n h 43 dX8_limit_43 rfl ?_
    obtain ⟨q2, hF⟩ := gd_some hF
    obtain ⟨s2, es2, hF⟩ := bn_ex hF
    refine as_M_limit h 44 dX8_limit_44 (by omega) (by omega) ?_
    rw [← es2]
    refine g_aload_nq h 45 dX8_limit_45 rfl rfl ?_
    refine g_iload_n h 46 dX8_limit_46 rfl ?_
    obtain ⟨r2, s3, c2, hF⟩ := cb_some hF
    have t2 : 0 ≤ r2 ∧ r2 ≤ 24 := rgX8_pagesOf c2
    refine g_callV h hE 47 dX8_limit_47 (ctX8_pagesOf hl c2) mwX8_pagesOf kw_1264 (by decide) (by decide) rfl (Nat.le_of_ble_eq_true rfl) rfl (Nat.le_of_ble_eq_true rfl) ⟨Nat.le_of_ble_eq_true rfl, Nat.le_of_ble_eq_true rfl⟩ rfl rfl ?_
    show G X 0 0 50 [(11, 0), (0, a_g), (0, a_pages)] [(0, r2)] (m, s3)
    obtain ⟨e1, e2⟩ := some_2 hF
    rw [← e1, ← e2] at hE
    exact g_iret h 50 dX8_limit_50 hE rfl rfl ⟨(Nat.le_of_ble_eq_true rfl), (Nat.le_of_ble_eq_true rfl)⟩
  · have hF := ite_f (fun q => q h6) hF
    refine g_iconst h 36 dX8_limit_36 ?_
    obtain ⟨e1, e2⟩ := some_2 hF
    rw [← e1, ← e2] at hE
    exact g_iret h 37 dX8_limit_37 hE rfl rfl ⟨(Nat.le_of_ble_eq_true rfl), (Nat.le_of_ble_eq_true rfl)⟩
-- PagewrightModel.merge
def FX8_merge (a_s a_is : Int) (s : S2) : Option (Int × S2) :=
  gd ((-2147483648) ≤ a_s ∧ a_s ≤ 2147483647) <| gd (0 ≤ a_is ∧ a_is ≤ 1) <| bn (fun (s1 : S2) => some (0, s1)) fun k1 => cb (FX8_asked (if (0 ≤ a_s) ∧ (a_s ≤ (s 102 0) - 1) then 1 else 0 : Int) s) fun r1 s2 => if r1 ≠ 0 then gd (0 ≤ a_s ∧ a_s ≤ 5) <| bn (upd2 s2 109 a_s a_is) fun s3 => k1 s3 else k1 s2
set_option maxRecDepth 100000 in
set_option maxHeartbeats 4000000 in
theorem ctX8_merge {l : Launch} {w : gW} {bs : Nat} (hl : l.stackTraces = false) {a_s a_is : Int} {s m s0 : S2} {r0 : Int} (hF : FX8_merge a_s a_is s = some (r0, s0)) : gMet l w bs yX8_merge cX8_merge 3 none 2 0 [(11, 0), (0, a_s), (0, a_is)] (m, s) 0 none (m, s0) := by
  unfold FX8_merge at hF
  obtain ⟨q_a_s, hF⟩ := gd_some hF
  obtain ⟨q_a_is, hF⟩ := gd_some hF
  refine g_start hl (by decide) (Nat.le_of_ble_eq_true rfl) rfl fun X h hE => ?_
  have h : gOk X "PagewrightModel" cX8_merge 3 2 0 0 := h
  have hE : gEnd X l w bs 0 none 0 none (m, s0) := hE
  show G X 0 0 0 [(11, 0), (0, a_s), (0, a_is)] [] (m, s)
  obtain ⟨k1, ek1, hF⟩ := bn_ex hF
  have J1 : ∀ (s1 : S2), k1 s1 = some (r0, s0) → G X 0 0 19 [(11, 0), (0, a_s), (0, a_is)] [] (m, s1) := by
    intro s1 hF
    rw [ek1] at hF
    obtain ⟨e1, e2⟩ := some_2 hF
    rw [← e2] at hE
    exact g_vret h 19 dX8_merge_19 hE rfl ⟨(Nat.le_of_ble_eq_true rfl), (Nat.le_of_ble_eq_true rfl)⟩
  refine g_aload_nq h 0 dX8_merge_0 rfl rfl ?_
  refine G_typ fun hT_s => ?_
  have t1 : 0 ≤ s 102 0 ∧ s 102 0 ≤ 6 := hT_s.2 102 0
  refine g_aload_nq h 1 dX8_merge_1 rfl rfl ?_
  refine g_iload_n h 2 dX8_merge_2 rfl ?_
  refine g_callV h hE 3 dX8_merge_3 (cpX8_isSpace (a_s := a_s) hl (by omega)) mwX8_isSpace kw_1156 (by decide) (by decide) rfl (Nat.le_of_ble_eq_true rfl) rfl (Nat.le_of_ble_eq_true rfl) ⟨Nat.le_of_ble_eq_true rfl, Nat.le_of_ble_eq_true rfl⟩ rfl rfl ?_
  show G X 0 0 6 [(11, 0), (0, a_s), (0, a_is)] [(0, (if (0 ≤ a_s) ∧ (a_s ≤ (s 102 0) - 1) then 1 else 0 : Int)), (11, 0)] (m, s)
  obtain ⟨r1, s2, c1, hF⟩ := cb_some hF
  have t2 : 0 ≤ r1 ∧ r1 ≤ 1 := rgX8_asked c1
  refine g_callV h hE 6 dX8_merge_6 (ctX8_asked hl c1) mwX8_asked kw_1260 (by decide) (by decide) rfl (Nat.le_of_ble_eq_true rfl) rfl (Nat.le_of_ble_eq_true rfl) ⟨Nat.le_of_ble_eq_true rfl, Nat.le_of_ble_eq_true rfl⟩ rfl rfl ?_
  show G X 0 0 9 [(11, 0), (0, a_s), (0, a_is)] [(0, r1)] (m, s2)
  refine g_if_eq h 9 19 (gRi (by omega)) dX8_merge_9 (by decide) (fun h1 => ?_) (fun h1 => ?_)
  · have hF := ite_f (fun q => q h1) hF
    exact J1 _ hF
  · have hF := ite_t h1 hF
    refine g_aload_nq h 12 dX8_merge_12 rfl rfl ?_
    refine gf_M_merges h 13 dX8_merge_13 kw_1015 ?_
    refine g_iload_n h 16 dX8_merge_16 rfl ?_
    obtain ⟨q1, hF⟩ := gd_some hF
    refine g_iload_n h 17 dX8_merge_17 rfl ?_
    obtain ⟨s3, es3, hF⟩ := bn_ex hF
    refine as_M_merges h 18 dX8_merge_18 (by omega) (by omega) ?_
    rw [← es3]
    exact J1 _ hF
-- PagewrightModel.sync
def FX8_sync (a_its : Int) (s : S2) : Option (Int × S2) :=
  rgd (-2147483648) 2147483647 <| gd ((-2147483648) ≤ a_its ∧ a_its ≤ 2147483647) <| cb (FX8_asked (if (0 ≤ a_its) ∧ (a_its ≤ 2) then 1 else 0 : Int) s) fun r1 s1 => if r1 ≠ 0 then gl2 1000 (fun k1 (x_n1 : Int) (x_f1 : Int) (s2 : S2) => if x_f1 < 24 then bn (fun (x_n2 : Int) (s3 : S2) => k1 x_n2 (x_f1 + 1) s3) fun k2 => gd ((s2 121 x_f1 = 2) → 0 ≤ s2 127 x_f1 ∧ s2 127 x_f1 ≤ 2147483647) <| if ((s2 121 x_f1 = 2) ∧ ((s2 127 x_f1) / 8 = a_its)) ∧ (s2 126 x_f1 ≠ 0) then bn (upd2 s2 140 5 ((s2 140 5) + 1)) fun s4 => gd (0 ≤ s4 127 x_f1 ∧ s4 127 x_f1 ≤ 23) <| bn (upd2 s4 130 (s4 127 x_f1) (s4 122 x_f1)) fun s5 => bn (upd2 s5 126 x_f1 0) fun s6 => gl1 1000 (fun k3 (x_e1 : Int) (s7 : S2) => if x_e1 < 192 then bn (fun (s8 : S2) => k3 (x_e1 + 1) s8) fun k4 => if ((0 < s7 111 x_e1) ∧ (s7 116 x_e1 = 1)) ∧ (s7 117 x_e1 = x_f1) then cb (FX8_unwrites x_e1 s7) fun r2 s9 => k4 s9 else k4 s7 else gd ((-2147483648) ≤ x_n1 + 1 ∧ x_n1 + 1 ≤ 2147483647) <| k2 (x_n1 + 1) s7) 0 s6 else k2 x_n1 s2 else some (x_n1, s2)) 0 0 s1 else some (0, s1)
theorem rgX8_sync {a_its : Int} {s s0 : S2} {r0 : Int} (hF : FX8_sync a_its s = some (r0, s0)) : (-2147483648) ≤ r0 ∧ r0 ≤ 2147483647 := (rgd_some hF).2
set_option maxRecDepth 100000 in
set_option maxHeartbeats 4000000 in
theorem ctX8_sync {l : Launch} {w : gW} {bs : Nat} (hl : l.stackTraces = false) {a_its : Int} {s m s0 : S2} {r0 : Int} (hF : FX8_sync a_its s = some (r0, s0)) : gMet l w bs yX8_sync cX8_sync 5 (some FieldType.int) 2 0 [(11, 0), (0, a_its)] (m, s) 0 (some (0, r0)) (m, s0) := by
  unfold FX8_sync at hF
  obtain ⟨hF, hr⟩ := rgd_some hF
  obtain ⟨q_a_its, hF⟩ := gd_some hF
  refine g_start hl (by decide) (Nat.le_of_ble_eq_true rfl) rfl fun X h hE => ?_
  have h : gOk X "PagewrightModel" cX8_sync 5 2 0 0 := h
  have hE : gEnd X l w bs 0 (some FieldType.int) 0 (some (0, r0)) (m, s0) := hE
  show G X 0 0 0 [(11, 0), (0, a_its), (1, 0), (1, 0), (1, 0)] [] (m, s)
  refine g_aload_nq h 0 dX8_sync_0 rfl rfl ?_
  refine g_iload_n h 1 dX8_sync_1 rfl ?_
  refine g_iconst h 2 dX8_sync_2 ?_
  refine g_iconst h 3 dX8_sync_3 ?_
  refine g_callS h hE 4 dX8_sync_4 (cpX8_in (a_v := a_its) (a_low := 0) (a_high := 2) hl (by omega) (by omega) (by omega)) mwX8_in kw_1142 rfl (Nat.le_of_ble_eq_true rfl) rfl (Nat.le_of_ble_eq_true rfl) ⟨Nat.le_of_ble_eq_true rfl, Nat.le_of_ble_eq_true rfl⟩ rfl rfl ?_
  show G X 0 0 7 [(11, 0), (0, a_its), (1, 0), (1, 0), (1, 0)] [(0, (if (0 ≤ a_its) ∧ (a_its ≤ 2) then 1 else 0 : Int)), (11, 0)] (m, s)
  obtain ⟨r1, s1, c1, hF⟩ := cb_some hF
  have t1 : 0 ≤ r1 ∧ r1 ≤ 1 := rgX8_asked c1
  refine g_callV h hE 7 dX8_sync_7 (ctX8_asked hl c1) mwX8_asked kw_1260 (by decide) (by decide) rfl (Nat.le_of_ble_eq_true rfl) rfl (Nat.le_of_ble_eq_true rfl) ⟨Nat.le_of_ble_eq_true rfl, Nat.le_of_ble_eq_true rfl⟩ rfl rfl ?_
  show G X 0 0 10 [(11, 0), (0, a_its), (1, 0), (1, 0), (1, 0)] [(0, r1)] (m, s1)
  refine g_if_ne h 10 15 (gRi (by omega)) dX8_sync_10 (by decide) (fun h1 => ?_) (fun h1 => ?_)
  · have hF := ite_t h1 hF
    refine g_iconst h 15 dX8_sync_15 ?_
    refine g_istore_n h 16 dX8_sync_16 (Nat.le_of_ble_eq_true rfl) rfl (L' := [(11, 0), (0, a_its), (0, 0), (1, 0), (1, 0)]) rfl ?_
    refine g_iconst h 17 dX8_sync_17 ?_
    refine g_istore_n h 18 dX8_sync_18 (Nat.le_of_ble_eq_true rfl) rfl (L' := [(11, 0), (0, a_its), (0, 0), (0, 0), (1, 0)]) rfl ?_
    obtain ⟨f1, ef1, hF⟩ := glx2 hF
    have J14 : ∀ (n1 : Nat) (x_n1 x_f1 : Int) (s2 : S2), ((-2147483648) ≤ x_n1 ∧ x_n1 ≤ 2147483647) → (0 ≤ x_f1 ∧ x_f1 ≤ 24) → gl2 n1 f1 x_n1 x_f1 s2 = some (r0, s0) → G X 0 0 19 [(11, 0), (0, a_its), (0, x_n1), (0, x_f1), (1, 0)] [] (m, s2) := by
      intro n1
      induction n1 with
      | zero => intro x_n1 x_f1 s2 _ _ hF; exact (gl2_0 hF).elim
      | succ n1 ih1 =>
        intro x_n1 x_f1 s2 q1 q2 hF
        obtain ⟨k1, ek1, hF⟩ := glu2 hF ef1
        have J2 : x_f1 < 24 → G X 0 0 25 [(11, 0), (0, a_its), (0, x_n1), (0, x_f1), (1, 0)] [] (m, s2) := by
          intro h3
          have hF := ite_t h3 hF
          obtain ⟨k2, ek2, hF⟩ := bn_ex hF
          have J4 : ∀ (x_n2 : Int) (s3 : S2), ((-2147483648) ≤ x_n2 ∧ x_n2 ≤ 2147483647) → k2 x_n2 s3 = some (r0, s0) → G X 0 0 127 [(11, 0), (0, a_its), (0, x_n2), (0, x_f1), (1, 0)] [] (m, s3) := by
            intro x_n2 s3 q7 hF
            rw [ek2] at hF
            refine g_iinc h 127 dX8_sync_127 rfl rfl (L' := [(11, 0), (0, a_its), (0, x_n2), (0, x_f1 + 1), (1, 0)]) rfl ?_
            refine g_goto h 130 19 dX8_sync_130 (by decide) ?_
            rw [ek1] at hF
            exact ih1 _ _ _ (by omega) (by omega) hF
          refine G_typ fun hT_s2 => ?_
          have t2 : 0 ≤ s2 121 x_f1 ∧ s2 121 x_f1 ≤ 2 := hT_s2.2 121 x_f1
          have t3 : (-1) ≤ s2 127 x_f1 ∧ s2 127 x_f1 ≤ 23 := hT_s2.2 127 x_f1
          have t4 : 0 ≤ s2 126 x_f1 ∧ s2 126 x_f1 ≤ 1 := hT_s2.2 126 x_f1
          obtain ⟨q3, hF⟩ := gd_some hF
          have J5 : ((s2 121 x_f1 = 2) ∧ ((s2 127 x_f1) / 8 = a_its)) ∧ (s2 126 x_f1 ≠ 0) → G X 0 0 57 [(11, 0), (0, a_its), (0, x_n1), (0, x_f1), (1, 0)] [] (m, s2) := by
            intro h7
            have hF := ite_t h7 hF
            refine g_iinc h 57 dX8_sync_57 rfl rfl (L' := [(11, 0), (0, a_its), (0, x_n1 + 1), (0, x_f1), (1, 0)]) rfl ?_
            refine g_aload_nq h 60 dX8_sync_60 rfl rfl ?_
            refine gf_M_counts h 61 dX8_sync_61 kw_1047 ?_
            refine g_iconst h 64 dX8_sync_64 ?_
            refine g_dup2 h 65 dX8_sync_65 (show (0 : Nat) ≠ 2 by decide) (show (58 : Nat) ≠ 2 by decide) ?_
            refine al_M_counts h 66 dX8_sync_66 (by omega) ?_
            refine g_iconst h 67 dX8_sync_67 ?_
            refine g_iadd h 68 dX8_sync_68 ?_
            obtain ⟨s4, es4, hF⟩ := bn_ex hF
            refine as_M_counts h 69 dX8_sync_69 (by omega) ?_
            rw [← es4]
            refine g_aload_nq h 70 dX8_sync_70 rfl rfl ?_
            refine gf_M_disk h 71 dX8_sync_71 kw_1036 ?_
            refine G_typ fun hT_s4 => ?_
            have t5 : (-1) ≤ s4 127 x_f1 ∧ s4 127 x_f1 ≤ 23 := hT_s4.2 127 x_f1
            refine g_aload_nq h 74 dX8_sync_74 rfl rfl ?_
            refine gf_M_key h 75 dX8_sync_75 kw_1033 ?_
            refine g_iload_n h 78 dX8_sync_78 rfl ?_
            refine al_M_key h 79 dX8_sync_79 (by omega) ?_
            obtain ⟨q4, hF⟩ := gd_some hF
            have t6 : 0 ≤ s4 122 x_f1 ∧ s4 122 x_f1 ≤ 99999 := hT_s4.2 122 x_f1
            refine g_aload_nq h 80 dX8_sync_80 rfl rfl ?_
            refine gf_M_value h 81 dX8_sync_81 kw_1028 ?_
            refine g_iload_n h 84 dX8_sync_84 rfl ?_
            refine al_M_value h 85 dX8_sync_85 (by omega) ?_
            obtain ⟨s5, es5, hF⟩ := bn_ex hF
            refine as_M_disk h 86 dX8_sync_86 (by omega) (by omega) ?_
            rw [← es5]
            refine g_aload_nq h 87 dX8_sync_87 rfl rfl ?_
            refine gf_M_mark h 88 dX8_sync_88 kw_1032 ?_
            refine g_iload_n h 91 dX8_sync_91 rfl ?_
            refine g_iconst h 92 dX8_sync_92 ?_
            obtain ⟨s6, es6, hF⟩ := bn_ex hF
            refine as_M_mark h 93 dX8_sync_93 (by omega) (by omega) ?_
            rw [← es6]
            refine g_iconst h 94 dX8_sync_94 ?_
            refine g_istore h 95 dX8_sync_95 (Nat.le_of_ble_eq_true rfl) rfl (L' := [(11, 0), (0, a_its), (0, x_n1 + 1), (0, x_f1), (0, 0)]) rfl ?_
            obtain ⟨f2, ef2, hF⟩ := glx1 hF
            have J13 : ∀ (n2 : Nat) (x_e1 : Int) (s7 : S2), (0 ≤ x_e1 ∧ x_e1 ≤ 192) → gl1 n2 f2 x_e1 s7 = some (r0, s0) → G X 0 0 97 [(11, 0), (0, a_its), (0, x_n1 + 1), (0, x_f1), (0, x_e1)] [] (m, s7) := by
              intro n2
              induction n2 with
              | zero => intro x_e1 s7 _ hF; exact (gl1_0 hF).elim
              | succ n2 ih2 =>
                intro x_e1 s7 q5 hF
                obtain ⟨k3, ek3, hF⟩ := glu1 hF ef2
                have J8 : x_e1 < 192 → G X 0 0 105 [(11, 0), (0, a_its), (0, x_n1 + 1), (0, x_f1), (0, x_e1)] [] (m, s7) := by
                  intro h9
                  have hF := ite_t h9 hF
                  obtain ⟨k4, ek4, hF⟩ := bn_ex hF
                  have J10 : ∀ (s8 : S2), k4 s8 = some (r0, s0) → G X 0 0 121 [(11, 0), (0, a_its), (0, x_n1 + 1), (0, x_f1), (0, x_e1)] [] (m, s8) := by
                    intro s8 hF
                    rw [ek4] at hF
                    refine g_iinc h 121 dX8_sync_121 rfl rfl (L' := [(11, 0), (0, a_its), (0, x_n1 + 1), (0, x_f1), (0, x_e1 + 1)]) rfl ?_
                    refine g_goto h 124 97 dX8_sync_124 (by decide) ?_
                    rw [ek3] at hF
                    exact ih2 _ _ (by omega) hF
                  refine G_typ fun hT_s7 => ?_
                  have t7 : 0 ≤ s7 111 x_e1 ∧ s7 111 x_e1 ≤ 3 := hT_s7.2 111 x_e1
                  have t8 : 0 ≤ s7 116 x_e1 ∧ s7 116 x_e1 ≤ 2 := hT_s7.2 116 x_e1
                  have t9 : 0 ≤ s7 117 x_e1 ∧ s7 117 x_e1 ≤ 23 := hT_s7.2 117 x_e1
                  have J11 : ((0 < s7 111 x_e1) ∧ (s7 116 x_e1 = 1)) ∧ (s7 117 x_e1 = x_f1) → G X 0 0 115 [(11, 0), (0, a_its), (0, x_n1 + 1), (0, x_f1), (0, x_e1)] [] (m, s7) := by
                    intro h11
                    have hF := ite_t h11 hF
                    refine g_aload_nq h 115 dX8_sync_115 rfl rfl ?_
                    refine g_iload h 116 dX8_sync_116 rfl ?_
                    obtain ⟨r2, s9, c2, hF⟩ := cb_some hF
                    refine g_callV h hE 118 dX8_sync_118 (ctX8_unwrites hl c2) mwX8_unwrites kw_1224 (by decide) (by decide) rfl (Nat.le_of_ble_eq_true rfl) rfl (Nat.le_of_ble_eq_true rfl) ⟨Nat.le_of_ble_eq_true rfl, Nat.le_of_ble_eq_true rfl⟩ rfl rfl ?_
                    show G X 0 0 121 [(11, 0), (0, a_its), (0, x_n1 + 1), (0, x_f1), (0, x_e1)] [] (m, s9)
                    exact J10 _ hF
                  have J12 : ¬ (((0 < s7 111 x_e1) ∧ (s7 116 x_e1 = 1)) ∧ (s7 117 x_e1 = x_f1)) → G X 0 0 121 [(11, 0), (0, a_its), (0, x_n1 + 1), (0, x_f1), (0, x_e1)] [] (m, s7) := by
                    intro h12
                    have hF := ite_f h12 hF
                    exact J10 _ hF
                  refine g_aload_nq h 105 dX8_sync_105 rfl rfl ?_
                  refine g_iload h 106 dX8_sync_106 rfl ?_
                  refine g_iload_n h 108 dX8_sync_108 rfl ?_
                  refine g_callV h hE 109 dX8_sync_109 (cpX8_has (a_e := x_e1) (a_f := x_f1) hl (by omega) (by omega)) mwX8_has kw_1208 (by decide) (by decide) rfl (Nat.le_of_ble_eq_true rfl) rfl (Nat.le_of_ble_eq_true rfl) ⟨Nat.le_of_ble_eq_true rfl, Nat.le_of_ble_eq_true rfl⟩ rfl rfl ?_
                  show G X 0 0 112 [(11, 0), (0, a_its), (0, x_n1 + 1), (0, x_f1), (0, x_e1)] [(0, (if ((0 < s7 111 x_e1) ∧ (s7 116 x_e1 = 1)) ∧ (s7 117 x_e1 = x_f1) then 1 else 0 : Int))] (m, s7)
                  refine g_if_eq h 112 121 (gRi gR_ite) dX8_sync_112 (by decide) (fun h10 => ?_) (fun h10 => ?_)
                  · exact J12 (iz_f h10)
                  · exact J11 (iz_t h10)
                have J9 : ¬ (x_e1 < 192) → G X 0 0 127 [(11, 0), (0, a_its), (0, x_n1 + 1), (0, x_f1), (0, x_e1)] [] (m, s7) := by
                  intro h13
                  have hF := ite_f h13 hF
                  obtain ⟨q6, hF⟩ := gd_some hF
                  refine G_weak (L' := [(11, 0), (0, a_its), (0, x_n1 + 1), (0, x_f1), (1, 0)]) ⟨Or.inr rfl, Or.inr rfl, Or.inr rfl, Or.inr rfl, Or.inl rfl, trivial⟩ ?_
                  exact J4 _ _ (by omega) hF
                refine g_iload h 97 dX8_sync_97 rfl ?_
                refine g_sipush h 99 dX8_sync_99 (by decide) ?_
                refine g_icmp_ge h 102 127 (gRi (by omega)) (gRi (by omega)) dX8_sync_102 (by decide) (fun h8 => ?_) (fun h8 => ?_)
                · exact J9 (Int.not_lt.mpr h8)
                · exact J8 h8
            exact J13 _ _ _ (by omega) hF
          have J6 : ¬ (((s2 121 x_f1 = 2) ∧ ((s2 127 x_f1) / 8 = a_its)) ∧ (s2 126 x_f1 ≠ 0)) → G X 0 0 127 [(11, 0), (0, a_its), (0, x_n1), (0, x_f1), (1, 0)] [] (m, s2) := by
            intro h14
            have hF := ite_f h14 hF
            exact J4 _ _ (by omega) hF
          refine g_aload_nq h 25 dX8_sync_25 rfl rfl ?_
          refine gf_M_kind h 26 dX8_sync_26 kw_1027 ?_
          refine g_iload_n h 29 dX8_sync_29 rfl ?_
          refine al_M_kind h 30 dX8_sync_30 (by omega) ?_
          refine g_iconst h 31 dX8_sync_31 ?_
          refine g_icmp_ne h 32 127 (gRi (by omega)) (gRi (by omega)) dX8_sync_32 (by decide) (fun h4 => ?_) (fun h4 => ?_)
          · exact J6 (fun q => (fun q => h4 q.1) q.1)
          · refine g_aload_nq h 35 dX8_sync_35 rfl rfl ?_
            refine gf_M_key h 36 dX8_sync_36 kw_1033 ?_
            refine g_iload_n h 39 dX8_sync_39 rfl ?_
            refine al_M_key h 40 dX8_sync_40 (by omega) ?_
            refine g_bipush h 41 dX8_sync_41 (by decide) ?_
            refine g_idiv h 43 dX8_sync_43 (by omega) (by omega) ?_
            refine g_iload_n h 44 dX8_sync_44 rfl ?_
            refine g_icmp_ne h 45 127 (gRi (by omega)) (gRi (by omega)) dX8_sync_45 (by decide) (fun h5 => ?_) (fun h5 => ?_)
            · exact J6 (fun q => (fun q => h5 q.2) q.1)
            · refine g_aload_nq h 48 dX8_sync_48 rfl rfl ?_
              refine gf_M_mark h 49 dX8_sync_49 kw_1032 ?_
              refine g_iload_n h 52 dX8_sync_52 rfl ?_
              refine al_M_mark h 53 dX8_sync_53 (by omega) ?_
              refine g_if_eq h 54 127 (gRi (by omega)) dX8_sync_54 (by decide) (fun h6 => ?_) (fun h6 => ?_)
              · exact J6 (fun q => (fun q => q h6) q.2)
              · exact J5 ⟨⟨h4, h5⟩, h6⟩
        have J3 : ¬ (x_f1 < 24) → G X 0 0 133 [(11, 0), (0, a_its), (0, x_n1), (0, x_f1), (1, 0)] [] (m, s2) := by
          intro h15
          have hF := ite_f h15 hF
          refine g_iload_n h 133 dX8_sync_133 rfl ?_
          obtain ⟨e1, e2⟩ := some_2 hF
          rw [← e1, ← e2] at hE
          exact g_iret h 134 dX8_sync_134 hE rfl rfl ⟨(Nat.le_of_ble_eq_true rfl), (Nat.le_of_ble_eq_true rfl)⟩
        refine g_iload_n h 19 dX8_sync_19 rfl ?_
        refine g_bipush h 20 dX8_sync_20 (by decide) ?_
        refine g_icmp_ge h 22 133 (gRi (by omega)) (gRi (by omega)) dX8_sync_22 (by decide) (fun h2 => ?_) (fun h2 => ?_)
        · exact J3 (Int.not_lt.mpr h2)
        · exact J2 h2
    exact J14 _ _ _ _ (by omega) (by omega) hF
  · have hF := ite_f (fun q => q h1) hF
    refine g_iconst h 13 dX8_sync_13 ?_
    obtain ⟨e1, e2⟩ := some_2 hF
    rw [← e1, ← e2] at hE
    exact g_iret h 14 dX8_sync_14 hE rfl rfl ⟨(Nat.le_of_ble_eq_true rfl), (Nat.le_of_ble_eq_true rfl)⟩
-- PagewrightModel.evicts
def FX8_evicts (a_g : Int) (s : S2) : Option (Int × S2) :=
  rgd 0 1 <| gd ((-1) ≤ a_g ∧ a_g ≤ 2) <| cb (FX8_pagesOf a_g s) fun r1 s1 => gl1 1000 (fun k1 (x_n1 : Int) (s2 : S2) => gd ((-2147483648) ≤ 2 * r1 ∧ 2 * r1 ≤ 2147483647) <| if x_n1 < 2 * r1 then gl0 1000 (fun k2  (s3 : S2) => cb (FX8_listed a_g 0 s3) fun r2 s4 => cb (FX8_listed a_g 1 s4) fun r3 s5 => if r2 < r3 then cb (FX8_firstOf a_g 1 s5) fun r8 s11 => cb (FX8_shifts r8 0 s11) fun r9 s12 => k2 s12 else cb (FX8_firstOf a_g 0 s5) fun r4 s6 => bn (fun (s7 : S2) => k1 (x_n1 + 1) s7) fun k3 => gd (0 ≤ r4 ∧ r4 ≤ 23) <| if s6 124 r4 ≠ 0 then cb (FX8_shifts r4 1 s6) fun r5 s8 => k3 s8 else cb (FX8_goes r4 s6) fun r6 s9 => if r6 ≠ 0 then some (1, s9) else cb (FX8_shifts r4 1 s9) fun r7 s10 => k3 s10) s2 else some (0, s2)) 0 s1
theorem rgX8_evicts {a_g : Int} {s s0 : S2} {r0 : Int} (hF : FX8_evicts a_g s = some (r0, s0)) : 0 ≤ r0 ∧ r0 ≤ 1 := (rgd_some hF).2
set_option maxRecDepth 100000 in
set_option maxHeartbeats 4000000 in
theorem ctX8_evicts {l : Launch} {w : gW} {bs : Nat} (hl : l.stackTraces = false) {a_g : Int} {s m s0 : S2} {r0 : Int} (hF : FX8_evicts a_g s = some (r0, s0)) : gMet l w bs yX8_evicts cX8_evicts 5 (some FieldType.boolean) 3 0 [(11, 0), (0, a_g)] (m, s) 0 (some (0, r0)) (m, s0) := by
  unfold FX8_evicts at hF
  obtain ⟨hF, hr⟩ := rgd_some hF
  obtain ⟨q_a_g, hF⟩ := gd_some hF
  refine g_start hl (by decide) (Nat.le_of_ble_eq_true rfl) rfl fun X h hE => ?_
  have h : gOk X "PagewrightModel" cX8_evicts 5 3 0 0 := h
  have hE : gEnd X l w bs 0 (some FieldType.boolean) 0 (some (0, r0)) (m, s0) := hE
  show G X 0 0 0 [(11, 0), (0, a_g), (1, 0), (1, 0), (1, 0)] [] (m, s)
  refine g_iconst h 0 dX8_evicts_0 ?_
  refine g_aload_nq h 1 dX8_evicts_1 rfl rfl ?_
  refine g_iload_n h 2 dX8_evicts_2 rfl ?_
  obtain ⟨r1, s1, c1, hF⟩ := cb_some hF
  have t1 : 0 ≤ r1 ∧ r1 ≤ 24 := rgX8_pagesOf c1
  refine g_callV h hE 3 dX8_evicts_3 (ctX8_pagesOf hl c1) mwX8_pagesOf kw_1264 (by decide) (by decide) rfl (Nat.le_of_ble_eq_true rfl) rfl (Nat.le_of_ble_eq_true rfl) ⟨Nat.le_of_ble_eq_true rfl, Nat.le_of_ble_eq_true rfl⟩ rfl rfl ?_
  show G X 0 0 6 [(11, 0), (0, a_g), (1, 0), (1, 0), (1, 0)] [(0, r1), (0, 2)] (m, s1)
  refine g_imul h 6 dX8_evicts_6 ?_
  refine g_istore_n h 7 dX8_evicts_7 (Nat.le_of_ble_eq_true rfl) rfl (L' := [(11, 0), (0, a_g), (0, 2 * r1), (1, 0), (1, 0)]) rfl ?_
  refine g_iconst h 8 dX8_evicts_8 ?_
  refine g_istore_n h 9 dX8_evicts_9 (Nat.le_of_ble_eq_true rfl) rfl (L' := [(11, 0), (0, a_g), (0, 2 * r1), (0, 0), (1, 0)]) rfl ?_
  obtain ⟨f1, ef1, hF⟩ := glx1 hF
  have J9 : ∀ (n1 : Nat) (x_n1 : Int) (s2 : S2), ((-2147483648) ≤ x_n1 ∧ x_n1 ≤ 2147483647) → gl1 n1 f1 x_n1 s2 = some (r0, s0) → G X 0 0 10 [(11, 0), (0, a_g), (0, 2 * r1), (0, x_n1), (1, 0)] [] (m, s2) := by
    intro n1
    induction n1 with
    | zero => intro x_n1 s2 _ hF; exact (gl1_0 hF).elim
    | succ n1 ih1 =>
      intro x_n1 s2 q1 hF
      obtain ⟨k1, ek1, hF⟩ := glu1 hF ef1
      obtain ⟨q2, hF⟩ := gd_some hF
      have J2 : x_n1 < 2 * r1 → G X 0 0 15 [(11, 0), (0, a_g), (0, 2 * r1), (0, x_n1), (1, 0)] [] (m, s2) := by
        intro h2
        have hF := ite_t h2 hF
        obtain ⟨f2, ef2, hF⟩ := glx0 hF
        have J8 : ∀ (n2 : Nat) (s3 : S2), gl0 n2 f2 s3 = some (r0, s0) → G X 0 0 15 [(11, 0), (0, a_g), (0, 2 * r1), (0, x_n1), (1, 0)] [] (m, s3) := by
          intro n2
          induction n2 with
          | zero => intro s3 hF; exact (gl0_0 hF).elim
          | succ n2 ih2 =>
            intro s3 hF
            obtain ⟨k2, ek2, hF⟩ := glu0 hF ef2
            refine g_aload_nq h 15 dX8_evicts_15 rfl rfl ?_
            refine g_iload_n h 16 dX8_evicts_16 rfl ?_
            refine g_iconst h 17 dX8_evicts_17 ?_
            obtain ⟨r2, s4, c2, hF⟩ := cb_some hF
            have t2 : 0 ≤ r2 ∧ r2 ≤ 24 := rgX8_listed c2
            refine g_callV h hE 18 dX8_evicts_18 (ctX8_listed hl c2) mwX8_listed kw_1312 (by decide) (by decide) rfl (Nat.le_of_ble_eq_true rfl) rfl (Nat.le_of_ble_eq_true rfl) ⟨Nat.le_of_ble_eq_true rfl, Nat.le_of_ble_eq_true rfl⟩ rfl rfl ?_
            show G X 0 0 21 [(11, 0), (0, a_g), (0, 2 * r1), (0, x_n1), (1, 0)] [(0, r2)] (m, s4)
            refine g_aload_nq h 21 dX8_evicts_21 rfl rfl ?_
            refine g_iload_n h 22 dX8_evicts_22 rfl ?_
            refine g_iconst h 23 dX8_evicts_23 ?_
            obtain ⟨r3, s5, c3, hF⟩ := cb_some hF
            have t3 : 0 ≤ r3 ∧ r3 ≤ 24 := rgX8_listed c3
            refine g_callV h hE 24 dX8_evicts_24 (ctX8_listed hl c3) mwX8_listed kw_1312 (by decide) (by decide) rfl (Nat.le_of_ble_eq_true rfl) rfl (Nat.le_of_ble_eq_true rfl) ⟨Nat.le_of_ble_eq_true rfl, Nat.le_of_ble_eq_true rfl⟩ rfl rfl ?_
            show G X 0 0 27 [(11, 0), (0, a_g), (0, 2 * r1), (0, x_n1), (1, 0)] [(0, r3), (0, r2)] (m, s5)
            refine g_icmp_ge h 27 44 (gRi (by omega)) (gRi (by omega)) dX8_evicts_27 (by decide) (fun h3 => ?_) (fun h3 => ?_)
            · have hF := ite_f (Int.not_lt.mpr h3) hF
              refine g_aload_nq h 44 dX8_evicts_44 rfl rfl ?_
              refine g_iload_n h 45 dX8_evicts_45 rfl ?_
              refine g_iconst h 46 dX8_evicts_46 ?_
              obtain ⟨r4, s6, c4, hF⟩ := cb_some hF
              have t4 : (-1) ≤ r4 ∧ r4 ≤ 23 := rgX8_firstOf c4
              refine g_callV h hE 47 dX8_evicts_47 (ctX8_firstOf hl c4) mwX8_firstOf kw_1316 (by decide) (by decide) rfl (Nat.le_of_ble_eq_true rfl) rfl (Nat.le_of_ble_eq_true rfl) ⟨Nat.le_of_ble_eq_true rfl, Nat.le_of_ble_eq_true rfl⟩ rfl rfl ?_
              show G X 0 0 50 [(11, 0), (0, a_g), (0, 2 * r1), (0, x_n1), (1, 0)] [(0, r4)] (m, s6)
              refine g_istore h 50 dX8_evicts_50 (Nat.le_of_ble_eq_true rfl) rfl (L' := [(11, 0), (0, a_g), (0, 2 * r1), (0, x_n1), (0, r4)]) rfl ?_
              obtain ⟨k3, ek3, hF⟩ := bn_ex hF
              have J5 : ∀ (s7 : S2), k3 s7 = some (r0, s0) → G X 0 0 90 [(11, 0), (0, a_g), (0, 2 * r1), (0, x_n1), (0, r4)] [] (m, s7) := by
                intro s7 hF
                rw [ek3] at hF
                refine g_iinc h 90 dX8_evicts_90 rfl rfl (L' := [(11, 0), (0, a_g), (0, 2 * r1), (0, x_n1 + 1), (0, r4)]) rfl ?_
                refine g_goto h 93 10 dX8_evicts_93 (by decide) ?_
                refine G_weak (L' := [(11, 0), (0, a_g), (0, 2 * r1), (0, x_n1 + 1), (1, 0)]) ⟨Or.inr rfl, Or.inr rfl, Or.inr rfl, Or.inr rfl, Or.inl rfl, trivial⟩ ?_
                rw [ek1] at hF
                exact ih1 _ _ (by omega) hF
              refine G_typ fun hT_s6 => ?_
              have t5 : 0 ≤ s6 124 r4 ∧ s6 124 r4 ≤ 1 := hT_s6.2 124 r4
              obtain ⟨q3, hF⟩ := gd_some hF
              have J6 : s6 124 r4 ≠ 0 → G X 0 0 62 [(11, 0), (0, a_g), (0, 2 * r1), (0, x_n1), (0, r4)] [] (m, s6) := by
                intro h5
                have hF := ite_t h5 hF
                refine g_aload_nq h 62 dX8_evicts_62 rfl rfl ?_
                refine g_iload h 63 dX8_evicts_63 rfl ?_
                refine g_iconst h 65 dX8_evicts_65 ?_
                obtain ⟨r5, s8, c5, hF⟩ := cb_some hF
                refine g_callV h hE 66 dX8_evicts_66 (ctX8_shifts hl c5) mwX8_shifts kw_1320 (by decide) (by decide) rfl (Nat.le_of_ble_eq_true rfl) rfl (Nat.le_of_ble_eq_true rfl) ⟨Nat.le_of_ble_eq_true rfl, Nat.le_of_ble_eq_true rfl⟩ rfl rfl ?_
                show G X 0 0 69 [(11, 0), (0, a_g), (0, 2 * r1), (0, x_n1), (0, r4)] [] (m, s8)
                refine g_goto h 69 90 dX8_evicts_69 (by decide) ?_
                exact J5 _ hF
              have J7 : ¬ (s6 124 r4 ≠ 0) → G X 0 0 72 [(11, 0), (0, a_g), (0, 2 * r1), (0, x_n1), (0, r4)] [] (m, s6) := by
                intro h6
                have hF := ite_f h6 hF
                refine g_aload_nq h 72 dX8_evicts_72 rfl rfl ?_
                refine g_iload h 73 dX8_evicts_73 rfl ?_
                obtain ⟨r6, s9, c6, hF⟩ := cb_some hF
                have t6 : 0 ≤ r6 ∧ r6 ≤ 1 := rgX8_goes c6
                refine g_callV h hE 75 dX8_evicts_75 (ctX8_goes hl c6) mwX8_goes kw_1328 (by decide) (by decide) rfl (Nat.le_of_ble_eq_true rfl) rfl (Nat.le_of_ble_eq_true rfl) ⟨Nat.le_of_ble_eq_true rfl, Nat.le_of_ble_eq_true rfl⟩ rfl rfl ?_
                show G X 0 0 78 [(11, 0), (0, a_g), (0, 2 * r1), (0, x_n1), (0, r4)] [(0, r6)] (m, s9)
                refine g_if_eq h 78 83 (gRi (by omega)) dX8_evicts_78 (by decide) (fun h7 => ?_) (fun h7 => ?_)
                · have hF := ite_f (fun q => q h7) hF
                  refine g_aload_nq h 83 dX8_evicts_83 rfl rfl ?_
                  refine g_iload h 84 dX8_evicts_84 rfl ?_
                  refine g_iconst h 86 dX8_evicts_86 ?_
                  obtain ⟨r7, s10, c7, hF⟩ := cb_some hF
                  refine g_callV h hE 87 dX8_evicts_87 (ctX8_shifts hl c7) mwX8_shifts kw_1320 (by decide) (by decide) rfl (Nat.le_of_ble_eq_true rfl) rfl (Nat.le_of_ble_eq_true rfl) ⟨Nat.le_of_ble_eq_true rfl, Nat.le_of_ble_eq_true rfl⟩ rfl rfl ?_
                  show G X 0 0 90 [(11, 0), (0, a_g), (0, 2 * r1), (0, x_n1), (0, r4)] [] (m, s10)
                  exact J5 _ hF
                · have hF := ite_t h7 hF
                  refine g_iconst h 81 dX8_evicts_81 ?_
                  obtain ⟨e1, e2⟩ := some_2 hF
                  rw [← e1, ← e2] at hE
                  exact g_iret h 82 dX8_evicts_82 hE rfl (g_nb (by rw [← e1] at hr; exact hr)) ⟨(Nat.le_of_ble_eq_true rfl), (Nat.le_of_ble_eq_true rfl)⟩
              refine g_aload_nq h 52 dX8_evicts_52 rfl rfl ?_
              refine gf_M_seen h 53 dX8_evicts_53 kw_1030 ?_
              refine g_iload h 56 dX8_evicts_56 rfl ?_
              refine al_M_seen h 58 dX8_evicts_58 (by omega) ?_
              refine g_if_eq h 59 72 (gRi (by omega)) dX8_evicts_59 (by decide) (fun h4 => ?_) (fun h4 => ?_)
              · exact J7 (fun q => q h4)
              · exact J6 h4
            · have hF := ite_t h3 hF
              refine g_aload_nq h 30 dX8_evicts_30 rfl rfl ?_
              refine g_aload_nq h 31 dX8_evicts_31 rfl rfl ?_
              refine g_iload_n h 32 dX8_evicts_32 rfl ?_
              refine g_iconst h 33 dX8_evicts_33 ?_
              obtain ⟨r8, s11, c8, hF⟩ := cb_some hF
              have t7 : (-1) ≤ r8 ∧ r8 ≤ 23 := rgX8_firstOf c8
              refine g_callV h hE 34 dX8_evicts_34 (ctX8_firstOf hl c8) mwX8_firstOf kw_1316 (by decide) (by decide) rfl (Nat.le_of_ble_eq_true rfl) rfl (Nat.le_of_ble_eq_true rfl) ⟨Nat.le_of_ble_eq_true rfl, Nat.le_of_ble_eq_true rfl⟩ rfl rfl ?_
              show G X 0 0 37 [(11, 0), (0, a_g), (0, 2 * r1), (0, x_n1), (1, 0)] [(0, r8), (11, 0)] (m, s11)
              refine g_iconst h 37 dX8_evicts_37 ?_
              obtain ⟨r9, s12, c9, hF⟩ := cb_some hF
              refine g_callV h hE 38 dX8_evicts_38 (ctX8_shifts hl c9) mwX8_shifts kw_1320 (by decide) (by decide) rfl (Nat.le_of_ble_eq_true rfl) rfl (Nat.le_of_ble_eq_true rfl) ⟨Nat.le_of_ble_eq_true rfl, Nat.le_of_ble_eq_true rfl⟩ rfl rfl ?_
              show G X 0 0 41 [(11, 0), (0, a_g), (0, 2 * r1), (0, x_n1), (1, 0)] [] (m, s12)
              refine g_goto h 41 15 dX8_evicts_41 (by decide) ?_
              rw [ek2] at hF
              exact ih2 _ hF
        exact J8 _ _ hF
      have J3 : ¬ (x_n1 < 2 * r1) → G X 0 0 96 [(11, 0), (0, a_g), (0, 2 * r1), (0, x_n1), (1, 0)] [] (m, s2) := by
        intro h8
        have hF := ite_f h8 hF
        refine g_iconst h 96 dX8_evicts_96 ?_
        obtain ⟨e1, e2⟩ := some_2 hF
        rw [← e1, ← e2] at hE
        exact g_iret h 97 dX8_evicts_97 hE rfl (g_nb (by rw [← e1] at hr; exact hr)) ⟨(Nat.le_of_ble_eq_true rfl), (Nat.le_of_ble_eq_true rfl)⟩
      refine g_iload_n h 10 dX8_evicts_10 rfl ?_
      refine g_iload_n h 11 dX8_evicts_11 rfl ?_
      refine g_icmp_ge h 12 96 (gRi (by omega)) (gRi (by omega)) dX8_evicts_12 (by decide) (fun h1 => ?_) (fun h1 => ?_)
      · exact J3 (Int.not_lt.mpr h1)
      · exact J2 h1
  exact J9 _ _ _ (by omega) hF
-- PagewrightModel.fork
def FX8_fork (a_s : Int) (s : S2) : Option (Int × S2) :=
  rgd (-2147483648) 2147483647 <| gd ((-2147483648) ≤ a_s ∧ a_s ≤ 2147483647) <| cb (FX8_asked_ (if (0 ≤ a_s) ∧ (a_s ≤ (s 102 0) - 1) then 1 else 0 : Int) (if (((0 ≤ a_s) ∧ (a_s ≤ (s 102 0) - 1)) ∧ (s 106 a_s ≠ 0)) ∧ (s 102 0 < 6) then 1 else 0 : Int) s) fun r1 s1 => if r1 ≠ 0 then gd (0 ≤ (s1 102 0) + 1 ∧ (s1 102 0) + 1 ≤ 6) <| bn (upd2 s1 102 0 ((s1 102 0) + 1)) fun s2 => gd (0 ≤ s1 102 0 ∧ s1 102 0 ≤ 5) <| bn (upd2 s2 106 (s1 102 0) 1) fun s3 => gd (0 ≤ a_s ∧ a_s ≤ 5) <| bn (upd2 s3 107 (s1 102 0) (s3 107 a_s)) fun s4 => bn (upd2 s4 109 (s1 102 0) (s4 109 a_s)) fun s5 => gl1 1000 (fun k1 (x_a1 : Int) (s6 : S2) => if x_a1 < 32 then bn (fun (s7 : S2) => k1 (x_a1 + 1) s7) fun k2 => gd (0 ≤ (32 * a_s) + x_a1 ∧ (32 * a_s) + x_a1 ≤ 191) <| if 0 < s6 111 ((32 * a_s) + x_a1) then cb (FX8_copies ((32 * a_s) + x_a1) ((32 * (s1 102 0)) + x_a1) s6) fun r2 s8 => cb (FX8_unwrites ((32 * a_s) + x_a1) s8) fun r3 s9 => cb (FX8_unblocks ((32 * a_s) + x_a1) s9) fun r4 s10 => k2 s10 else k2 s6 else some (s1 102 0, s6)) 0 s5 else some (0, s1)
theorem rgX8_fork {a_s : Int} {s s0 : S2} {r0 : Int} (hF : FX8_fork a_s s = some (r0, s0)) : (-2147483648) ≤ r0 ∧ r0 ≤ 2147483647 := (rgd_some hF).2
set_option maxRecDepth 100000 in
set_option maxHeartbeats 4000000 in
theorem ctX8_fork {l : Launch} {w : gW} {bs : Nat} (hl : l.stackTraces = false) {a_s : Int} {s m s0 : S2} {r0 : Int} (hF : FX8_fork a_s s = some (r0, s0)) : gMet l w bs yX8_fork cX8_fork 5 (some FieldType.int) 3 0 [(11, 0), (0, a_s)] (m, s) 0 (some (0, r0)) (m, s0) := by
  unfold FX8_fork at hF
  obtain ⟨hF, hr⟩ := rgd_some hF
  obtain ⟨q_a_s, hF⟩ := gd_some hF
  refine g_start hl (by decide) (Nat.le_of_ble_eq_true rfl) rfl fun X h hE => ?_
  have h : gOk X "PagewrightModel" cX8_fork 5 3 0 0 := h
  have hE : gEnd X l w bs 0 (some FieldType.int) 0 (some (0, r0)) (m, s0) := hE
  show G X 0 0 0 [(11, 0), (0, a_s), (1, 0), (1, 0), (1, 0)] [] (m, s)
  refine g_aload_nq h 0 dX8_fork_0 rfl rfl ?_
  refine G_typ fun hT_s => ?_
  have t1 : 0 ≤ s 102 0 ∧ s 102 0 ≤ 6 := hT_s.2 102 0
  refine g_aload_nq h 1 dX8_fork_1 rfl rfl ?_
  refine g_iload_n h 2 dX8_fork_2 rfl ?_
  refine g_callV h hE 3 dX8_fork_3 (cpX8_isSpace (a_s := a_s) hl (by omega)) mwX8_isSpace kw_1156 (by decide) (by decide) rfl (Nat.le_of_ble_eq_true rfl) rfl (Nat.le_of_ble_eq_true rfl) ⟨Nat.le_of_ble_eq_true rfl, Nat.le_of_ble_eq_true rfl⟩ rfl rfl ?_
  show G X 0 0 6 [(11, 0), (0, a_s), (1, 0), (1, 0), (1, 0)] [(0, (if (0 ≤ a_s) ∧ (a_s ≤ (s 102 0) - 1) then 1 else 0 : Int)), (11, 0)] (m, s)
  have t2 : 0 ≤ s 106 a_s ∧ s 106 a_s ≤ 1 := hT_s.2 106 a_s
  suffices J1 : ∀ v1 : Int, v1 = (if (((0 ≤ a_s) ∧ (a_s ≤ (s 102 0) - 1)) ∧ (s 106 a_s ≠ 0)) ∧ (s 102 0 < 6) then 1 else 0 : Int) → G X 0 0 28 [(11, 0), (0, a_s), (1, 0), (1, 0), (1, 0)] [(0, v1), (0, (if (0 ≤ a_s) ∧ (a_s ≤ (s 102 0) - 1) then 1 else 0 : Int)), (11, 0)] (m, s) by
    have J2 : (((0 ≤ a_s) ∧ (a_s ≤ (s 102 0) - 1)) ∧ (s 106 a_s ≠ 0)) ∧ (s 102 0 < 6) → G X 0 0 23 [(11, 0), (0, a_s), (1, 0), (1, 0), (1, 0)] [(0, (if (0 ≤ a_s) ∧ (a_s ≤ (s 102 0) - 1) then 1 else 0 : Int)), (11, 0)] (m, s) := by
      intro h3
      refine g_iconst h 23 dX8_fork_23 ?_
      refine g_goto h 24 28 dX8_fork_24 (by decide) ?_
      exact J1 _ (if_pos h3).symm
    have J3 : ¬ ((((0 ≤ a_s) ∧ (a_s ≤ (s 102 0) - 1)) ∧ (s 106 a_s ≠ 0)) ∧ (s 102 0 < 6)) → G X 0 0 27 [(11, 0), (0, a_s), (1, 0), (1, 0), (1, 0)] [(0, (if (0 ≤ a_s) ∧ (a_s ≤ (s 102 0) - 1) then 1 else 0 : Int)), (11, 0)] (m, s) := by
      intro h4
      refine g_iconst h 27 dX8_fork_27 ?_
      exact J1 _ (if_neg h4).symm
    refine g_aload_nq h 6 dX8_fork_6 rfl rfl ?_
    refine g_iload_n h 7 dX8_fork_7 rfl ?_
    refine g_callV h hE 8 dX8_fork_8 (cpX8_isAlive (a_s := a_s) hl (by omega)) mwX8_isAlive kw_1160 (by decide) (by decide) rfl (Nat.le_of_ble_eq_true rfl) rfl (Nat.le_of_ble_eq_true rfl) ⟨Nat.le_of_ble_eq_true rfl, Nat.le_of_ble_eq_true rfl⟩ rfl rfl ?_
    show G X 0 0 11 [(11, 0), (0, a_s), (1, 0), (1, 0), (1, 0)] [(0, (if ((0 ≤ a_s) ∧ (a_s ≤ (s 102 0) - 1)) ∧ (s 106 a_s ≠ 0) then 1 else 0 : Int)), (0, (if (0 ≤ a_s) ∧ (a_s ≤ (s 102 0) - 1) then 1 else 0 : Int)), (11, 0)] (m, s)
    refine g_if_eq h 11 27 (gRi gR_ite) dX8_fork_11 (by decide) (fun h1 => ?_) (fun h1 => ?_)
    · exact J3 (fun q => (iz_f h1) q.1)
    · refine g_aload_nq h 14 dX8_fork_14 rfl rfl ?_
      refine gf_M_spaces h 15 dX8_fork_15 kw_1011 ?_
      refine g_bipush h 18 dX8_fork_18 (by decide) ?_
      refine g_icmp_ge h 20 27 (gRi (by omega)) (gRi (by omega)) dX8_fork_20 (by decide) (fun h2 => ?_) (fun h2 => ?_)
      · exact J3 (fun q => (Int.not_lt.mpr h2) q.2)
      · exact J2 ⟨(iz_t h1), h2⟩
  intro v1 e1
  subst e1
  obtain ⟨r1, s1, c1, hF⟩ := cb_some hF
  have t3 : 0 ≤ r1 ∧ r1 ≤ 1 := rgX8_asked_ c1
  refine g_callV h hE 28 dX8_fork_28 (ctX8_asked_ hl c1) mwX8_asked_ kw_1145 (by decide) (by decide) rfl (Nat.le_of_ble_eq_true rfl) rfl (Nat.le_of_ble_eq_true rfl) ⟨Nat.le_of_ble_eq_true rfl, Nat.le_of_ble_eq_true rfl⟩ rfl rfl ?_
  show G X 0 0 31 [(11, 0), (0, a_s), (1, 0), (1, 0), (1, 0)] [(0, r1)] (m, s1)
  refine g_if_ne h 31 36 (gRi (by omega)) dX8_fork_31 (by decide) (fun h5 => ?_) (fun h5 => ?_)
  · have hF := ite_t h5 hF
    refine G_typ fun hT_s1 => ?_
    have t4 : 0 ≤ s1 102 0 ∧ s1 102 0 ≤ 6 := hT_s1.2 102 0
    refine g_aload_nq h 36 dX8_fork_36 rfl rfl ?_
    refine gf_M_spaces h 37 dX8_fork_37 kw_1011 ?_
    refine g_istore_n h 40 dX8_fork_40 (Nat.le_of_ble_eq_true rfl) rfl (L' := [(11, 0), (0, a_s), (0, s1 102 0), (1, 0), (1, 0)]) rfl ?_
    refine g_aload_nq h 41 dX8_fork_41 rfl rfl ?_
    refine g_dup h 42 dX8_fork_42 (show (11 : Nat) ≠ 2 by decide) ?_
    refine gf_M_spaces h 43 dX8_fork_43 kw_1011 ?_
    refine g_iconst h 46 dX8_fork_46 ?_
    refine g_iadd h 47 dX8_fork_47 ?_
    obtain ⟨q1, hF⟩ := gd_some hF
    obtain ⟨s2, es2, hF⟩ := bn_ex hF
    refine pf_M_spaces h 48 dX8_fork_48 kw_1011 (by omega) ?_
    rw [← es2]
    refine g_aload_nq h 51 dX8_fork_51 rfl rfl ?_
    refine gf_M_lives h 52 dX8_fork_52 kw_1012 ?_
    refine g_iload_n h 55 dX8_fork_55 rfl ?_
    obtain ⟨q2, hF⟩ := gd_some hF
    refine g_iconst h 56 dX8_fork_56 ?_
    obtain ⟨s3, es3, hF⟩ := bn_ex hF
    refine as_M_lives h 57 dX8_fork_57 (by omega) (by omega) ?_
    rw [← es3]
    refine g_aload_nq h 58 dX8_fork_58 rfl rfl ?_
    refine gf_M_group h 59 dX8_fork_59 kw_1013 ?_
    refine g_iload_n h 62 dX8_fork_62 rfl ?_
    refine G_typ fun hT_s3 => ?_
    have t5 : 0 ≤ s3 107 a_s ∧ s3 107 a_s ≤ 2 := hT_s3.2 107 a_s
    obtain ⟨q3, hF⟩ := gd_some hF
    refine g_aload_nq h 63 dX8_fork_63 rfl rfl ?_
    refine gf_M_group h 64 dX8_fork_64 kw_1013 ?_
    refine g_iload_n h 67 dX8_fork_67 rfl ?_
    refine al_M_group h 68 dX8_fork_68 (by omega) ?_
    obtain ⟨s4, es4, hF⟩ := bn_ex hF
    refine as_M_group h 69 dX8_fork_69 (by omega) (by omega) ?_
    rw [← es4]
    refine g_aload_nq h 70 dX8_fork_70 rfl rfl ?_
    refine gf_M_merges h 71 dX8_fork_71 kw_1015 ?_
    refine g_iload_n h 74 dX8_fork_74 rfl ?_
    refine G_typ fun hT_s4 => ?_
    have t6 : 0 ≤ s4 109 a_s ∧ s4 109 a_s ≤ 1 := hT_s4.2 109 a_s
    refine g_aload_nq h 75 dX8_fork_75 rfl rfl ?_
    refine gf_M_merges h 76 dX8_fork_76 kw_1015 ?_
    refine g_iload_n h 79 dX8_fork_79 rfl ?_
    refine al_M_merges h 80 dX8_fork_80 (by omega) ?_
    obtain ⟨s5, es5, hF⟩ := bn_ex hF
    refine as_M_merges h 81 dX8_fork_81 (by omega) (by omega) ?_
    rw [← es5]
    refine g_iconst h 82 dX8_fork_82 ?_
    refine g_istore_n h 83 dX8_fork_83 (Nat.le_of_ble_eq_true rfl) rfl (L' := [(11, 0), (0, a_s), (0, s1 102 0), (0, 0), (1, 0)]) rfl ?_
    obtain ⟨f1, ef1, hF⟩ := glx1 hF
    have J10 : ∀ (n1 : Nat) (x_a1 : Int) (s6 : S2), (0 ≤ x_a1 ∧ x_a1 ≤ 32) → gl1 n1 f1 x_a1 s6 = some (r0, s0) → G X 0 0 84 [(11, 0), (0, a_s), (0, s1 102 0), (0, x_a1), (1, 0)] [] (m, s6) := by
      intro n1
      induction n1 with
      | zero => intro x_a1 s6 _ hF; exact (gl1_0 hF).elim
      | succ n1 ih1 =>
        intro x_a1 s6 q4 hF
        obtain ⟨k1, ek1, hF⟩ := glu1 hF ef1
        have J5 : x_a1 < 32 → G X 0 0 90 [(11, 0), (0, a_s), (0, s1 102 0), (0, x_a1), (1, 0)] [] (m, s6) := by
          intro h7
          have hF := ite_t h7 hF
          refine g_bipush h 90 dX8_fork_90 (by decide) ?_
          refine g_iload_n h 92 dX8_fork_92 rfl ?_
          refine g_imul h 93 dX8_fork_93 ?_
          refine g_iload_n h 94 dX8_fork_94 rfl ?_
          refine g_iadd h 95 dX8_fork_95 ?_
          refine g_istore h 96 dX8_fork_96 (Nat.le_of_ble_eq_true rfl) rfl (L' := [(11, 0), (0, a_s), (0, s1 102 0), (0, x_a1), (0, (32 * a_s) + x_a1)]) rfl ?_
          obtain ⟨k2, ek2, hF⟩ := bn_ex hF
          have J7 : ∀ (s7 : S2), k2 s7 = some (r0, s0) → G X 0 0 132 [(11, 0), (0, a_s), (0, s1 102 0), (0, x_a1), (0, (32 * a_s) + x_a1)] [] (m, s7) := by
            intro s7 hF
            rw [ek2] at hF
            refine g_iinc h 132 dX8_fork_132 rfl rfl (L' := [(11, 0), (0, a_s), (0, s1 102 0), (0, x_a1 + 1), (0, (32 * a_s) + x_a1)]) rfl ?_
            refine g_goto h 135 84 dX8_fork_135 (by decide) ?_
            refine G_weak (L' := [(11, 0), (0, a_s), (0, s1 102 0), (0, x_a1 + 1), (1, 0)]) ⟨Or.inr rfl, Or.inr rfl, Or.inr rfl, Or.inr rfl, Or.inl rfl, trivial⟩ ?_
            rw [ek1] at hF
            exact ih1 _ _ (by omega) hF
          refine G_typ fun hT_s6 => ?_
          have t7 : 0 ≤ s6 111 ((32 * a_s) + x_a1) ∧ s6 111 ((32 * a_s) + x_a1) ≤ 3 := hT_s6.2 111 ((32 * a_s) + x_a1)
          obtain ⟨q5, hF⟩ := gd_some hF
          have J8 : 0 < s6 111 ((32 * a_s) + x_a1) → G X 0 0 108 [(11, 0), (0, a_s), (0, s1 102 0), (0, x_a1), (0, (32 * a_s) + x_a1)] [] (m, s6) := by
            intro h9
            have hF := ite_t h9 hF
            refine g_aload_nq h 108 dX8_fork_108 rfl rfl ?_
            refine g_iload h 109 dX8_fork_109 rfl ?_
            refine g_bipush h 111 dX8_fork_111 (by decide) ?_
            refine g_iload_n h 113 dX8_fork_113 rfl ?_
            refine g_imul h 114 dX8_fork_114 ?_
            refine g_iload_n h 115 dX8_fork_115 rfl ?_
            refine g_iadd h 116 dX8_fork_116 ?_
            obtain ⟨r2, s8, c2, hF⟩ := cb_some hF
            refine g_callV h hE 117 dX8_fork_117 (ctX8_copies hl c2) mwX8_copies kw_1232 (by decide) (by decide) rfl (Nat.le_of_ble_eq_true rfl) rfl (Nat.le_of_ble_eq_true rfl) ⟨Nat.le_of_ble_eq_true rfl, Nat.le_of_ble_eq_true rfl⟩ rfl rfl ?_
            show G X 0 0 120 [(11, 0), (0, a_s), (0, s1 102 0), (0, x_a1), (0, (32 * a_s) + x_a1)] [] (m, s8)
            refine g_aload_nq h 120 dX8_fork_120 rfl rfl ?_
            refine g_iload h 121 dX8_fork_121 rfl ?_
            obtain ⟨r3, s9, c3, hF⟩ := cb_some hF
            refine g_callV h hE 123 dX8_fork_123 (ctX8_unwrites hl c3) mwX8_unwrites kw_1224 (by decide) (by decide) rfl (Nat.le_of_ble_eq_true rfl) rfl (Nat.le_of_ble_eq_true rfl) ⟨Nat.le_of_ble_eq_true rfl, Nat.le_of_ble_eq_true rfl⟩ rfl rfl ?_
            show G X 0 0 126 [(11, 0), (0, a_s), (0, s1 102 0), (0, x_a1), (0, (32 * a_s) + x_a1)] [] (m, s9)
            refine g_aload_nq h 126 dX8_fork_126 rfl rfl ?_
            refine g_iload h 127 dX8_fork_127 rfl ?_
            obtain ⟨r4, s10, c4, hF⟩ := cb_some hF
            refine g_callV h hE 129 dX8_fork_129 (ctX8_unblocks hl c4) mwX8_unblocks kw_1196 (by decide) (by decide) rfl (Nat.le_of_ble_eq_true rfl) rfl (Nat.le_of_ble_eq_true rfl) ⟨Nat.le_of_ble_eq_true rfl, Nat.le_of_ble_eq_true rfl⟩ rfl rfl ?_
            show G X 0 0 132 [(11, 0), (0, a_s), (0, s1 102 0), (0, x_a1), (0, (32 * a_s) + x_a1)] [] (m, s10)
            exact J7 _ hF
          have J9 : ¬ (0 < s6 111 ((32 * a_s) + x_a1)) → G X 0 0 132 [(11, 0), (0, a_s), (0, s1 102 0), (0, x_a1), (0, (32 * a_s) + x_a1)] [] (m, s6) := by
            intro h10
            have hF := ite_f h10 hF
            exact J7 _ hF
          refine g_aload_nq h 98 dX8_fork_98 rfl rfl ?_
          refine gf_M_rights h 99 dX8_fork_99 kw_1017 ?_
          refine g_iload h 102 dX8_fork_102 rfl ?_
          refine al_M_rights h 104 dX8_fork_104 (by omega) ?_
          refine g_if_le h 105 132 (gRi (by omega)) dX8_fork_105 (by decide) (fun h8 => ?_) (fun h8 => ?_)
          · exact J9 (Int.not_lt.mpr h8)
          · exact J8 h8
        have J6 : ¬ (x_a1 < 32) → G X 0 0 138 [(11, 0), (0, a_s), (0, s1 102 0), (0, x_a1), (1, 0)] [] (m, s6) := by
          intro h11
          have hF := ite_f h11 hF
          refine g_iload_n h 138 dX8_fork_138 rfl ?_
          obtain ⟨e1, e2⟩ := some_2 hF
          rw [← e1, ← e2] at hE
          exact g_iret h 139 dX8_fork_139 hE rfl rfl ⟨(Nat.le_of_ble_eq_true rfl), (Nat.le_of_ble_eq_true rfl)⟩
        refine g_iload_n h 84 dX8_fork_84 rfl ?_
        refine g_bipush h 85 dX8_fork_85 (by decide) ?_
        refine g_icmp_ge h 87 138 (gRi (by omega)) (gRi (by omega)) dX8_fork_87 (by decide) (fun h6 => ?_) (fun h6 => ?_)
        · exact J6 (Int.not_lt.mpr h6)
        · exact J5 h6
    exact J10 _ _ _ (by omega) hF
  · have hF := ite_f (fun q => q h5) hF
    refine g_iconst h 34 dX8_fork_34 ?_
    obtain ⟨e1, e2⟩ := some_2 hF
    rw [← e1, ← e2] at hE
    exact g_iret h 35 dX8_fork_35 hE rfl rfl ⟨(Nat.le_of_ble_eq_true rfl), (Nat.le_of_ble_eq_true rfl)⟩
-- PagewrightModel.getsPage
def FX8_getsPage (a_e a_f : Int) (s : S2) : Option (Int × S2) :=
  gd (0 ≤ a_e ∧ a_e ≤ 191) <| gd (0 ≤ a_f ∧ a_f ≤ 23) <| cb (FX8_leaves a_e s) fun r1 s1 => bn (upd2 s1 116 a_e 1) fun s2 => bn (upd2 s2 117 a_e a_f) fun s3 => bn (upd2 s3 118 a_e 0) fun s4 => some (0, s4)
set_option maxRecDepth 100000 in
set_option maxHeartbeats 4000000 in
theorem ctX8_getsPage {l : Launch} {w : gW} {bs : Nat} (hl : l.stackTraces = false) {a_e a_f : Int} {s m s0 : S2} {r0 : Int} (hF : FX8_getsPage a_e a_f s = some (r0, s0)) : gMet l w bs yX8_getsPage cX8_getsPage 3 none 3 0 [(11, 0), (0, a_e), (0, a_f)] (m, s) 0 none (m, s0) := by
  unfold FX8_getsPage at hF
  obtain ⟨q_a_e, hF⟩ := gd_some hF
  obtain ⟨q_a_f, hF⟩ := gd_some hF
  refine g_start hl (by decide) (Nat.le_of_ble_eq_true rfl) rfl fun X h hE => ?_
  have h : gOk X "PagewrightModel" cX8_getsPage 3 3 0 0 := h
  have hE : gEnd X l w bs 0 none 0 none (m, s0) := hE
  show G X 0 0 0 [(11, 0), (0, a_e), (0, a_f)] [] (m, s)
  refine g_aload_nq h 0 dX8_getsPage_0 rfl rfl ?_
  refine g_iload_n h 1 dX8_getsPage_1 rfl ?_
  obtain ⟨r1, s1, c1, hF⟩ := cb_some hF
  refine g_callV h hE 2 dX8_getsPage_2 (ctX8_leaves hl c1) mwX8_leaves kw_1192 (by decide) (by decide) rfl (Nat.le_of_ble_eq_true rfl) rfl (Nat.le_of_ble_eq_true rfl) ⟨Nat.le_of_ble_eq_true rfl, Nat.le_of_ble_eq_true rfl⟩ rfl rfl ?_
  show G X 0 0 5 [(11, 0), (0, a_e), (0, a_f)] [] (m, s1)
  refine g_aload_nq h 5 dX8_getsPage_5 rfl rfl ?_
  refine gf_M_state h 6 dX8_getsPage_6 kw_1022 ?_
  refine g_iload_n h 9 dX8_getsPage_9 rfl ?_
  refine g_iconst h 10 dX8_getsPage_10 ?_
  obtain ⟨s2, es2, hF⟩ := bn_ex hF
  refine as_M_state h 11 dX8_getsPage_11 (by omega) (by omega) ?_
  rw [← es2]
  refine g_aload_nq h 12 dX8_getsPage_12 rfl rfl ?_
  refine gf_M_page h 13 dX8_getsPage_13 kw_1023 ?_
  refine g_iload_n h 16 dX8_getsPage_16 rfl ?_
  refine g_iload_n h 17 dX8_getsPage_17 rfl ?_
  obtain ⟨s3, es3, hF⟩ := bn_ex hF
  refine as_M_page h 18 dX8_getsPage_18 (by omega) (by omega) ?_
  rw [← es3]
  refine g_aload_nq h 19 dX8_getsPage_19 rfl rfl ?_
  refine gf_M_writable h 20 dX8_getsPage_20 kw_1024 ?_
  refine g_iload_n h 23 dX8_getsPage_23 rfl ?_
  refine g_iconst h 24 dX8_getsPage_24 ?_
  obtain ⟨s4, es4, hF⟩ := bn_ex hF
  refine as_M_writable h 25 dX8_getsPage_25 (by omega) (by omega) ?_
  rw [← es4]
  obtain ⟨e1, e2⟩ := some_2 hF
  rw [← e2] at hE
  exact g_vret h 26 dX8_getsPage_26 hE rfl ⟨(Nat.le_of_ble_eq_true rfl), (Nat.le_of_ble_eq_true rfl)⟩
-- PagewrightModel.isMerging
set_option maxRecDepth 100000 in
theorem cpX8_isMerging {l : Launch} {w : gW} {bs : Nat} (hl : l.stackTraces = false) {a_s : Int} {s m : S2} (q_a_s : (-2147483648) ≤ a_s ∧ a_s ≤ 2147483647) : gMet l w bs yX8_isMerging cX8_isMerging 2 (some FieldType.boolean) 3 0 [(11, 0), (0, a_s)] (m, s) 0 (some (0, (if (((0 ≤ a_s) ∧ (a_s ≤ (s 102 0) - 1)) ∧ (s 106 a_s ≠ 0)) ∧ (s 109 a_s ≠ 0) then 1 else 0 : Int))) (m, s) := by
  refine g_start hl (by decide) (Nat.le_of_ble_eq_true rfl) rfl fun X h hE => ?_
  have h : gOk X "PagewrightModel" cX8_isMerging 2 3 0 0 := h
  show G X 0 0 0 [(11, 0), (0, a_s)] [] (m, s)
  refine G_typ fun hT_s => ?_
  have t1 : 0 ≤ s 102 0 ∧ s 102 0 ≤ 6 := hT_s.2 102 0
  have t2 : 0 ≤ s 106 a_s ∧ s 106 a_s ≤ 1 := hT_s.2 106 a_s
  have t3 : 0 ≤ s 109 a_s ∧ s 109 a_s ≤ 1 := hT_s.2 109 a_s
  suffices J1 : ∀ v1 : Int, v1 = (if (((0 ≤ a_s) ∧ (a_s ≤ (s 102 0) - 1)) ∧ (s 106 a_s ≠ 0)) ∧ (s 109 a_s ≠ 0) then 1 else 0 : Int) → G X 0 0 22 [(11, 0), (0, a_s)] [(0, v1)] (m, s) by
    have J2 : (((0 ≤ a_s) ∧ (a_s ≤ (s 102 0) - 1)) ∧ (s 106 a_s ≠ 0)) ∧ (s 109 a_s ≠ 0) → G X 0 0 17 [(11, 0), (0, a_s)] [] (m, s) := by
      intro h3
      refine g_iconst h 17 dX8_isMerging_17 ?_
      refine g_goto h 18 22 dX8_isMerging_18 (by decide) ?_
      exact J1 _ (if_pos h3).symm
    have J3 : ¬ ((((0 ≤ a_s) ∧ (a_s ≤ (s 102 0) - 1)) ∧ (s 106 a_s ≠ 0)) ∧ (s 109 a_s ≠ 0)) → G X 0 0 21 [(11, 0), (0, a_s)] [] (m, s) := by
      intro h4
      refine g_iconst h 21 dX8_isMerging_21 ?_
      exact J1 _ (if_neg h4).symm
    refine g_aload_nq h 0 dX8_isMerging_0 rfl rfl ?_
    refine g_iload_n h 1 dX8_isMerging_1 rfl ?_
    refine g_callV h hE 2 dX8_isMerging_2 (cpX8_isAlive (a_s := a_s) hl (by omega)) mwX8_isAlive kw_1160 (by decide) (by decide) rfl (Nat.le_of_ble_eq_true rfl) rfl (Nat.le_of_ble_eq_true rfl) ⟨Nat.le_of_ble_eq_true rfl, Nat.le_of_ble_eq_true rfl⟩ rfl rfl ?_
    show G X 0 0 5 [(11, 0), (0, a_s)] [(0, (if ((0 ≤ a_s) ∧ (a_s ≤ (s 102 0) - 1)) ∧ (s 106 a_s ≠ 0) then 1 else 0 : Int))] (m, s)
    refine g_if_eq h 5 21 (gRi gR_ite) dX8_isMerging_5 (by decide) (fun h1 => ?_) (fun h1 => ?_)
    · exact J3 (fun q => (iz_f h1) q.1)
    · refine g_aload_nq h 8 dX8_isMerging_8 rfl rfl ?_
      refine gf_M_merges h 9 dX8_isMerging_9 kw_1015 ?_
      refine g_iload_n h 12 dX8_isMerging_12 rfl ?_
      refine al_M_merges h 13 dX8_isMerging_13 (by omega) ?_
      refine g_if_eq h 14 21 (gRi (by omega)) dX8_isMerging_14 (by decide) (fun h2 => ?_) (fun h2 => ?_)
      · exact J3 (fun q => (fun q => q h2) q.2)
      · exact J2 ⟨(iz_t h1), h2⟩
  intro v1 e1
  subst e1
  exact g_iret h 22 dX8_isMerging_22 hE rfl (g_nb (by first | omega | (split <;> decide))) ⟨(Nat.le_of_ble_eq_true rfl), (Nat.le_of_ble_eq_true rfl)⟩
-- PagewrightModel.join
def FX8_join (a_s a_a : Int) (s : S2) : Option (Int × S2) :=
  rgd (-2147483648) 2147483647 <| gd ((-2147483648) ≤ a_s ∧ a_s ≤ 2147483647) <| gd ((-2147483648) ≤ a_a ∧ a_a ≤ 2147483647) <| bn (fun (v2 : Int) (s1 : S2) => cb (FX8_asked__ (if (0 ≤ a_s) ∧ (a_s ≤ (s 102 0) - 1) then 1 else 0 : Int) (if ((0 ≤ a_a) ∧ (a_a ≤ 28)) ∧ (a_a % 4 = 0) then 1 else 0 : Int) v2 s1) fun r2 s5 => if r2 ≠ 0 then gl1 1000 (fun k4 (x_k1 : Int) (s6 : S2) => if x_k1 < 4 then gd (0 ≤ ((32 * a_s) + a_a) + x_k1 ∧ ((32 * a_s) + a_a) + x_k1 ≤ 191) <| bn (upd2 s6 120 (((32 * a_s) + a_a) + x_k1) 1) fun s7 => k4 (x_k1 + 1) s7 else cb (FX8_blocksOf a_s s6) fun r3 s8 => some (r3, s8)) 0 s5 else some (0, s5)) fun k1 => bn (fun (s2 : S2) => k1 1 s2) fun k2 => bn (fun (s3 : S2) => k1 0 s3) fun k3 => if ((0 ≤ a_s) ∧ (a_s ≤ (s 102 0) - 1)) ∧ (((0 ≤ a_a) ∧ (a_a ≤ 28)) ∧ (a_a % 4 = 0)) then cb (FX8_canJoin a_s a_a s) fun r1 s4 => if r1 ≠ 0 then k2 s4 else k3 s4 else k3 s
theorem rgX8_join {a_s a_a : Int} {s s0 : S2} {r0 : Int} (hF : FX8_join a_s a_a s = some (r0, s0)) : (-2147483648) ≤ r0 ∧ r0 ≤ 2147483647 := (rgd_some hF).2
set_option maxRecDepth 100000 in
set_option maxHeartbeats 4000000 in
theorem ctX8_join {l : Launch} {w : gW} {bs : Nat} (hl : l.stackTraces = false) {a_s a_a : Int} {s m s0 : S2} {r0 : Int} (hF : FX8_join a_s a_a s = some (r0, s0)) : gMet l w bs yX8_join cX8_join 5 (some FieldType.int) 3 0 [(11, 0), (0, a_s), (0, a_a)] (m, s) 0 (some (0, r0)) (m, s0) := by
  unfold FX8_join at hF
  obtain ⟨hF, hr⟩ := rgd_some hF
  obtain ⟨q_a_s, hF⟩ := gd_some hF
  obtain ⟨q_a_a, hF⟩ := gd_some hF
  refine g_start hl (by decide) (Nat.le_of_ble_eq_true rfl) rfl fun X h hE => ?_
  have h : gOk X "PagewrightModel" cX8_join 5 3 0 0 := h
  have hE : gEnd X l w bs 0 (some FieldType.int) 0 (some (0, r0)) (m, s0) := hE
  show G X 0 0 0 [(11, 0), (0, a_s), (0, a_a), (1, 0), (1, 0)] [] (m, s)
  suffices J1 : ∀ v1 : Int, v1 = (if ((0 ≤ a_a) ∧ (a_a ≤ 28)) ∧ (a_a % 4 = 0) then 1 else 0 : Int) → G X 0 0 21 [(11, 0), (0, a_s), (0, a_a), (1, 0), (1, 0)] [(0, v1)] (m, s) by
    have J2 : ((0 ≤ a_a) ∧ (a_a ≤ 28)) ∧ (a_a % 4 = 0) → G X 0 0 16 [(11, 0), (0, a_s), (0, a_a), (1, 0), (1, 0)] [] (m, s) := by
      intro h3
      refine g_iconst h 16 dX8_join_16 ?_
      refine g_goto h 17 21 dX8_join_17 (by decide) ?_
      exact J1 _ (if_pos h3).symm
    have J3 : ¬ (((0 ≤ a_a) ∧ (a_a ≤ 28)) ∧ (a_a % 4 = 0)) → G X 0 0 20 [(11, 0), (0, a_s), (0, a_a), (1, 0), (1, 0)] [] (m, s) := by
      intro h4
      refine g_iconst h 20 dX8_join_20 ?_
      exact J1 _ (if_neg h4).symm
    refine g_iload_n h 0 dX8_join_0 rfl ?_
    refine g_iconst h 1 dX8_join_1 ?_
    refine g_bipush h 2 dX8_join_2 (by decide) ?_
    refine g_callS h hE 4 dX8_join_4 (cpX8_in (a_v := a_a) (a_low := 0) (a_high := 28) hl (by omega) (by omega) (by omega)) mwX8_in kw_1142 rfl (Nat.le_of_ble_eq_true rfl) rfl (Nat.le_of_ble_eq_true rfl) ⟨Nat.le_of_ble_eq_true rfl, Nat.le_of_ble_eq_true rfl⟩ rfl rfl ?_
    show G X 0 0 7 [(11, 0), (0, a_s), (0, a_a), (1, 0), (1, 0)] [(0, (if (0 ≤ a_a) ∧ (a_a ≤ 28) then 1 else 0 : Int))] (m, s)
    refine g_if_eq h 7 20 (gRi gR_ite) dX8_join_7 (by decide) (fun h1 => ?_) (fun h1 => ?_)
    · exact J3 (fun q => (iz_f h1) q.1)
    · refine g_iload_n h 10 dX8_join_10 rfl ?_
      refine g_iconst h 11 dX8_join_11 ?_
      refine g_irem h 12 dX8_join_12 (by omega) (by omega) ?_
      refine g_if_ne h 13 20 (gRi (by omega)) dX8_join_13 (by decide) (fun h2 => ?_) (fun h2 => ?_)
      · exact J3 (fun q => h2 q.2)
      · exact J2 ⟨(iz_t h1), h2⟩
  intro v1 e1
  subst e1
  refine g_istore_n h 21 dX8_join_21 (Nat.le_of_ble_eq_true rfl) rfl (L' := [(11, 0), (0, a_s), (0, a_a), (0, (if ((0 ≤ a_a) ∧ (a_a ≤ 28)) ∧ (a_a % 4 = 0) then 1 else 0 : Int)), (1, 0)]) rfl ?_
  refine g_aload_nq h 22 dX8_join_22 rfl rfl ?_
  refine G_typ fun hT_s => ?_
  have t1 : 0 ≤ s 102 0 ∧ s 102 0 ≤ 6 := hT_s.2 102 0
  refine g_aload_nq h 23 dX8_join_23 rfl rfl ?_
  refine g_iload_n h 24 dX8_join_24 rfl ?_
  refine g_callV h hE 25 dX8_join_25 (cpX8_isSpace (a_s := a_s) hl (by omega)) mwX8_isSpace kw_1156 (by decide) (by decide) rfl (Nat.le_of_ble_eq_true rfl) rfl (Nat.le_of_ble_eq_true rfl) ⟨Nat.le_of_ble_eq_true rfl, Nat.le_of_ble_eq_true rfl⟩ rfl rfl ?_
  show G X 0 0 28 [(11, 0), (0, a_s), (0, a_a), (0, (if ((0 ≤ a_a) ∧ (a_a ≤ 28)) ∧ (a_a % 4 = 0) then 1 else 0 : Int)), (1, 0)] [(0, (if (0 ≤ a_s) ∧ (a_s ≤ (s 102 0) - 1) then 1 else 0 : Int)), (11, 0)] (m, s)
  refine g_iload_n h 28 dX8_join_28 rfl ?_
  obtain ⟨k1, ek1, hF⟩ := bn_ex hF
  have J4 : ∀ (v2 : Int) (s1 : S2), (0 ≤ v2 ∧ v2 ≤ 1) → k1 v2 s1 = some (r0, s0) → G X 0 0 55 [(11, 0), (0, a_s), (0, a_a), (0, (if ((0 ≤ a_a) ∧ (a_a ≤ 28)) ∧ (a_a % 4 = 0) then 1 else 0 : Int)), (1, 0)] [(0, v2), (0, (if ((0 ≤ a_a) ∧ (a_a ≤ 28)) ∧ (a_a % 4 = 0) then 1 else 0 : Int)), (0, (if (0 ≤ a_s) ∧ (a_s ≤ (s 102 0) - 1) then 1 else 0 : Int)), (11, 0)] (m, s1) := by
    intro v2 s1 q1 hF
    rw [ek1] at hF
    obtain ⟨r2, s5, c2, hF⟩ := cb_some hF
    have t3 : 0 ≤ r2 ∧ r2 ≤ 1 := rgX8_asked__ c2
    refine g_callV h hE 55 dX8_join_55 (ctX8_asked__ hl c2) mwX8_asked__ kw_1168 (by decide) (by decide) rfl (Nat.le_of_ble_eq_true rfl) rfl (Nat.le_of_ble_eq_true rfl) ⟨Nat.le_of_ble_eq_true rfl, Nat.le_of_ble_eq_true rfl⟩ rfl rfl ?_
    show G X 0 0 58 [(11, 0), (0, a_s), (0, a_a), (0, (if ((0 ≤ a_a) ∧ (a_a ≤ 28)) ∧ (a_a % 4 = 0) then 1 else 0 : Int)), (1, 0)] [(0, r2)] (m, s5)
    refine g_if_ne h 58 63 (gRi (by omega)) dX8_join_58 (by decide) (fun h10 => ?_) (fun h10 => ?_)
    · have hF := ite_t h10 hF
      refine g_iconst h 63 dX8_join_63 ?_
      refine g_istore h 64 dX8_join_64 (Nat.le_of_ble_eq_true rfl) rfl (L' := [(11, 0), (0, a_s), (0, a_a), (0, (if ((0 ≤ a_a) ∧ (a_a ≤ 28)) ∧ (a_a % 4 = 0) then 1 else 0 : Int)), (0, 0)]) rfl ?_
      obtain ⟨f1, ef1, hF⟩ := glx1 hF
      have J12 : ∀ (n1 : Nat) (x_k1 : Int) (s6 : S2), (0 ≤ x_k1 ∧ x_k1 ≤ 4) → gl1 n1 f1 x_k1 s6 = some (r0, s0) → G X 0 0 66 [(11, 0), (0, a_s), (0, a_a), (0, (if ((0 ≤ a_a) ∧ (a_a ≤ 28)) ∧ (a_a % 4 = 0) then 1 else 0 : Int)), (0, x_k1)] [] (m, s6) := by
        intro n1
        induction n1 with
        | zero => intro x_k1 s6 _ hF; exact (gl1_0 hF).elim
        | succ n1 ih1 =>
          intro x_k1 s6 q2 hF
          obtain ⟨k4, ek4, hF⟩ := glu1 hF ef1
          have J10 : x_k1 < 4 → G X 0 0 72 [(11, 0), (0, a_s), (0, a_a), (0, (if ((0 ≤ a_a) ∧ (a_a ≤ 28)) ∧ (a_a % 4 = 0) then 1 else 0 : Int)), (0, x_k1)] [] (m, s6) := by
            intro h12
            have hF := ite_t h12 hF
            refine g_aload_nq h 72 dX8_join_72 rfl rfl ?_
            refine gf_M_block h 73 dX8_join_73 kw_1026 ?_
            refine g_bipush h 76 dX8_join_76 (by decide) ?_
            refine g_iload_n h 78 dX8_join_78 rfl ?_
            refine g_imul h 79 dX8_join_79 ?_
            refine g_iload_n h 80 dX8_join_80 rfl ?_
            refine g_iadd h 81 dX8_join_81 ?_
            refine g_iload h 82 dX8_join_82 rfl ?_
            refine g_iadd h 84 dX8_join_84 ?_
            obtain ⟨q3, hF⟩ := gd_some hF
            refine g_iconst h 85 dX8_join_85 ?_
            obtain ⟨s7, es7, hF⟩ := bn_ex hF
            refine as_M_block h 86 dX8_join_86 (by omega) (by omega) ?_
            rw [← es7]
            refine g_iinc h 87 dX8_join_87 rfl rfl (L' := [(11, 0), (0, a_s), (0, a_a), (0, (if ((0 ≤ a_a) ∧ (a_a ≤ 28)) ∧ (a_a % 4 = 0) then 1 else 0 : Int)), (0, x_k1 + 1)]) rfl ?_
            refine g_goto h 90 66 dX8_join_90 (by decide) ?_
            rw [ek4] at hF
            exact ih1 _ _ (by omega) hF
          have J11 : ¬ (x_k1 < 4) → G X 0 0 93 [(11, 0), (0, a_s), (0, a_a), (0, (if ((0 ≤ a_a) ∧ (a_a ≤ 28)) ∧ (a_a % 4 = 0) then 1 else 0 : Int)), (0, x_k1)] [] (m, s6) := by
            intro h13
            have hF := ite_f h13 hF
            refine g_aload_nq h 93 dX8_join_93 rfl rfl ?_
            refine g_iload_n h 94 dX8_join_94 rfl ?_
            obtain ⟨r3, s8, c3, hF⟩ := cb_some hF
            have t4 : 0 ≤ r3 ∧ r3 ≤ 8 := rgX8_blocksOf c3
            refine g_callV h hE 95 dX8_join_95 (ctX8_blocksOf hl c3) mwX8_blocksOf kw_1412 (by decide) (by decide) rfl (Nat.le_of_ble_eq_true rfl) rfl (Nat.le_of_ble_eq_true rfl) ⟨Nat.le_of_ble_eq_true rfl, Nat.le_of_ble_eq_true rfl⟩ rfl rfl ?_
            show G X 0 0 98 [(11, 0), (0, a_s), (0, a_a), (0, (if ((0 ≤ a_a) ∧ (a_a ≤ 28)) ∧ (a_a % 4 = 0) then 1 else 0 : Int)), (0, x_k1)] [(0, r3)] (m, s8)
            obtain ⟨e1, e2⟩ := some_2 hF
            rw [← e1, ← e2] at hE
            exact g_iret h 98 dX8_join_98 hE rfl rfl ⟨(Nat.le_of_ble_eq_true rfl), (Nat.le_of_ble_eq_true rfl)⟩
          refine g_iload h 66 dX8_join_66 rfl ?_
          refine g_iconst h 68 dX8_join_68 ?_
          refine g_icmp_ge h 69 93 (gRi (by omega)) (gRi (by omega)) dX8_join_69 (by decide) (fun h11 => ?_) (fun h11 => ?_)
          · exact J11 (Int.not_lt.mpr h11)
          · exact J10 h11
      exact J12 _ _ _ (by omega) hF
    · have hF := ite_f (fun q => q h10) hF
      refine g_iconst h 61 dX8_join_61 ?_
      obtain ⟨e1, e2⟩ := some_2 hF
      rw [← e1, ← e2] at hE
      exact g_iret h 62 dX8_join_62 hE rfl rfl ⟨(Nat.le_of_ble_eq_true rfl), (Nat.le_of_ble_eq_true rfl)⟩
  obtain ⟨k2, ek2, hF⟩ := bn_ex hF
  have J5 : ∀ (s2 : S2), k2 s2 = some (r0, s0) → G X 0 0 50 [(11, 0), (0, a_s), (0, a_a), (0, (if ((0 ≤ a_a) ∧ (a_a ≤ 28)) ∧ (a_a % 4 = 0) then 1 else 0 : Int)), (1, 0)] [(0, (if ((0 ≤ a_a) ∧ (a_a ≤ 28)) ∧ (a_a % 4 = 0) then 1 else 0 : Int)), (0, (if (0 ≤ a_s) ∧ (a_s ≤ (s 102 0) - 1) then 1 else 0 : Int)), (11, 0)] (m, s2) := by
    intro s2 hF
    rw [ek2] at hF
    refine g_iconst h 50 dX8_join_50 ?_
    refine g_goto h 51 55 dX8_join_51 (by decide) ?_
    exact J4 _ _ (by omega) hF
  obtain ⟨k3, ek3, hF⟩ := bn_ex hF
  have J6 : ∀ (s3 : S2), k3 s3 = some (r0, s0) → G X 0 0 54 [(11, 0), (0, a_s), (0, a_a), (0, (if ((0 ≤ a_a) ∧ (a_a ≤ 28)) ∧ (a_a % 4 = 0) then 1 else 0 : Int)), (1, 0)] [(0, (if ((0 ≤ a_a) ∧ (a_a ≤ 28)) ∧ (a_a % 4 = 0) then 1 else 0 : Int)), (0, (if (0 ≤ a_s) ∧ (a_s ≤ (s 102 0) - 1) then 1 else 0 : Int)), (11, 0)] (m, s3) := by
    intro s3 hF
    rw [ek3] at hF
    refine g_iconst h 54 dX8_join_54 ?_
    exact J4 _ _ (by omega) hF
  have J7 : ((0 ≤ a_s) ∧ (a_s ≤ (s 102 0) - 1)) ∧ (((0 ≤ a_a) ∧ (a_a ≤ 28)) ∧ (a_a % 4 = 0)) → G X 0 0 41 [(11, 0), (0, a_s), (0, a_a), (0, (if ((0 ≤ a_a) ∧ (a_a ≤ 28)) ∧ (a_a % 4 = 0) then 1 else 0 : Int)), (1, 0)] [(0, (if ((0 ≤ a_a) ∧ (a_a ≤ 28)) ∧ (a_a % 4 = 0) then 1 else 0 : Int)), (0, (if (0 ≤ a_s) ∧ (a_s ≤ (s 102 0) - 1) then 1 else 0 : Int)), (11, 0)] (m, s) := by
    intro h7
    have hF := ite_t h7 hF
    refine g_aload_nq h 41 dX8_join_41 rfl rfl ?_
    refine g_iload_n h 42 dX8_join_42 rfl ?_
    refine g_iload_n h 43 dX8_join_43 rfl ?_
    obtain ⟨r1, s4, c1, hF⟩ := cb_some hF
    have t2 : 0 ≤ r1 ∧ r1 ≤ 1 := rgX8_canJoin c1
    refine g_callV h hE 44 dX8_join_44 (ctX8_canJoin hl c1) mwX8_canJoin kw_1408 (by decide) (by decide) rfl (Nat.le_of_ble_eq_true rfl) rfl (Nat.le_of_ble_eq_true rfl) ⟨Nat.le_of_ble_eq_true rfl, Nat.le_of_ble_eq_true rfl⟩ rfl rfl ?_
    show G X 0 0 47 [(11, 0), (0, a_s), (0, a_a), (0, (if ((0 ≤ a_a) ∧ (a_a ≤ 28)) ∧ (a_a % 4 = 0) then 1 else 0 : Int)), (1, 0)] [(0, r1), (0, (if ((0 ≤ a_a) ∧ (a_a ≤ 28)) ∧ (a_a % 4 = 0) then 1 else 0 : Int)), (0, (if (0 ≤ a_s) ∧ (a_s ≤ (s 102 0) - 1) then 1 else 0 : Int)), (11, 0)] (m, s4)
    refine g_if_eq h 47 54 (gRi (by omega)) dX8_join_47 (by decide) (fun h8 => ?_) (fun h8 => ?_)
    · have hF := ite_f (fun q => q h8) hF
      exact J6 _ hF
    · have hF := ite_t h8 hF
      exact J5 _ hF
  have J8 : ¬ (((0 ≤ a_s) ∧ (a_s ≤ (s 102 0) - 1)) ∧ (((0 ≤ a_a) ∧ (a_a ≤ 28)) ∧ (a_a % 4 = 0))) → G X 0 0 54 [(11, 0), (0, a_s), (0, a_a), (0, (if ((0 ≤ a_a) ∧ (a_a ≤ 28)) ∧ (a_a % 4 = 0) then 1 else 0 : Int)), (1, 0)] [(0, (if ((0 ≤ a_a) ∧ (a_a ≤ 28)) ∧ (a_a % 4 = 0) then 1 else 0 : Int)), (0, (if (0 ≤ a_s) ∧ (a_s ≤ (s 102 0) - 1) then 1 else 0 : Int)), (11, 0)] (m, s) := by
    intro h9
    have hF := ite_f h9 hF
    exact J6 _ hF
  refine g_aload_nq h 29 dX8_join_29 rfl rfl ?_
  refine g_iload_n h 30 dX8_join_30 rfl ?_
  refine g_callV h hE 31 dX8_join_31 (cpX8_isSpace (a_s := a_s) hl (by omega)) mwX8_isSpace kw_1156 (by decide) (by decide) rfl (Nat.le_of_ble_eq_true rfl) rfl (Nat.le_of_ble_eq_true rfl) ⟨Nat.le_of_ble_eq_true rfl, Nat.le_of_ble_eq_true rfl⟩ rfl rfl ?_
  show G X 0 0 34 [(11, 0), (0, a_s), (0, a_a), (0, (if ((0 ≤ a_a) ∧ (a_a ≤ 28)) ∧ (a_a % 4 = 0) then 1 else 0 : Int)), (1, 0)] [(0, (if (0 ≤ a_s) ∧ (a_s ≤ (s 102 0) - 1) then 1 else 0 : Int)), (0, (if ((0 ≤ a_a) ∧ (a_a ≤ 28)) ∧ (a_a % 4 = 0) then 1 else 0 : Int)), (0, (if (0 ≤ a_s) ∧ (a_s ≤ (s 102 0) - 1) then 1 else 0 : Int)), (11, 0)] (m, s)
  refine g_if_eq h 34 54 (gRi gR_ite) dX8_join_34 (by decide) (fun h5 => ?_) (fun h5 => ?_)
  · exact J8 (fun q => (iz_f h5) q.1)
  · refine g_iload_n h 37 dX8_join_37 rfl ?_
    refine g_if_eq h 38 54 (gRi gR_ite) dX8_join_38 (by decide) (fun h6 => ?_) (fun h6 => ?_)
    · exact J8 (fun q => (iz_f h6) q.2)
    · exact J7 ⟨(iz_t h5), (iz_t h6)⟩
-- PagewrightModel.map
def FX8_map (a_s a_from a_count a_r a_its a_i a_isShared a_does : Int) (s : S2) : Option (Int × S2) :=
  rgd (-2147483648) 2147483647 <| gd ((-2147483648) ≤ a_s ∧ a_s ≤ 2147483647) <| gd ((-2147483648) ≤ a_from ∧ a_from ≤ 2147483647) <| gd ((-2147483648) ≤ a_count ∧ a_count ≤ 2147483647) <| gd ((-2147483648) ≤ a_r ∧ a_r ≤ 2147483647) <| gd ((-2147483648) ≤ a_its ∧ a_its ≤ 2147483647) <| gd ((-2147483648) ≤ a_i ∧ a_i ≤ 2147483647) <| gd (0 ≤ a_isShared ∧ a_isShared ≤ 1) <| gd (0 ≤ a_does ∧ a_does ≤ 1) <| bn (fun (v2 : Int) (s1 : S2) => cb (FX8_asked__ (if (0 ≤ a_s) ∧ (a_s ≤ (s 102 0) - 1) then 1 else 0 : Int) (if ((((((0 ≤ a_from) ∧ (a_from ≤ 31)) ∧ ((1 ≤ a_count) ∧ (a_count ≤ 32))) ∧ (a_from + a_count ≤ 32)) ∧ ((1 ≤ a_r) ∧ (a_r ≤ 3))) ∧ (((-1) ≤ a_its) ∧ (a_its ≤ 2))) ∧ ((a_its = (-1)) ∨ (((0 ≤ a_i) ∧ (a_i ≤ 7)) ∧ (a_i + a_count ≤ 8))) then 1 else 0 : Int) v2 s1) fun r2 s5 => if r2 ≠ 0 then gl1 1000 (fun k4 (x_k1 : Int) (s6 : S2) => if x_k1 < a_count then cb (FX8_lays (((32 * a_s) + a_from) + x_k1) a_r a_its (a_i + x_k1) a_isShared a_does s6) fun r3 s7 => k4 (x_k1 + 1) s7 else cb (FX8_regionsOf a_s s6) fun r4 s8 => some (r4, s8)) 0 s5 else some (0, s5)) fun k1 => bn (fun (s2 : S2) => k1 1 s2) fun k2 => bn (fun (s3 : S2) => k1 0 s3) fun k3 => if (((0 ≤ a_s) ∧ (a_s ≤ (s 102 0) - 1)) ∧ (s 106 a_s ≠ 0)) ∧ (((((((0 ≤ a_from) ∧ (a_from ≤ 31)) ∧ ((1 ≤ a_count) ∧ (a_count ≤ 32))) ∧ (a_from + a_count ≤ 32)) ∧ ((1 ≤ a_r) ∧ (a_r ≤ 3))) ∧ (((-1) ≤ a_its) ∧ (a_its ≤ 2))) ∧ ((a_its = (-1)) ∨ (((0 ≤ a_i) ∧ (a_i ≤ 7)) ∧ (a_i + a_count ≤ 8)))) then cb (FX8_areMapped a_s a_from a_count 0 s) fun r1 s4 => if r1 ≠ 0 then k2 s4 else k3 s4 else k3 s
theorem rgX8_map {a_s a_from a_count a_r a_its a_i a_isShared a_does : Int} {s s0 : S2} {r0 : Int} (hF : FX8_map a_s a_from a_count a_r a_its a_i a_isShared a_does s = some (r0, s0)) : (-2147483648) ≤ r0 ∧ r0 ≤ 2147483647 := (rgd_some hF).2
set_option maxRecDepth 100000 in
set_option maxHeartbeats 4000000 in
theorem ctX8_map {l : Launch} {w : gW} {bs : Nat} (hl : l.stackTraces = false) {a_s a_from a_count a_r a_its a_i a_isShared a_does : Int} {s m s0 : S2} {r0 : Int} (hF : FX8_map a_s a_from a_count a_r a_its a_i a_isShared a_does s = some (r0, s0)) : gMet l w bs yX8_map cX8_map 11 (some FieldType.int) 3 0 [(11, 0), (0, a_s), (0, a_from), (0, a_count), (0, a_r), (0, a_its), (0, a_i), (0, a_isShared), (0, a_does)] (m, s) 0 (some (0, r0)) (m, s0) := by
  unfold FX8_map at hF
  obtain ⟨hF, hr⟩ := rgd_some hF
  obtain ⟨q_a_s, hF⟩ := gd_some hF
  obtain ⟨q_a_from, hF⟩ := gd_some hF
  obtain ⟨q_a_count, hF⟩ := gd_some hF
  obtain ⟨q_a_r, hF⟩ := gd_some hF
  obtain ⟨q_a_its, hF⟩ := gd_some hF
  obtain ⟨q_a_i, hF⟩ := gd_some hF
  obtain ⟨q_a_isShared, hF⟩ := gd_some hF
  obtain ⟨q_a_does, hF⟩ := gd_some hF
  refine g_start hl (by decide) (Nat.le_of_ble_eq_true rfl) rfl fun X h hE => ?_
  have h : gOk X "PagewrightModel" cX8_map 11 3 0 0 := h
  have hE : gEnd X l w bs 0 (some FieldType.int) 0 (some (0, r0)) (m, s0) := hE
  show G X 0 0 0 [(11, 0), (0, a_s), (0, a_from), (0, a_count), (0, a_r), (0, a_its), (0, a_i), (0, a_isShared), (0, a_does), (1, 0), (1, 0)] [] (m, s)
  suffices J1 : ∀ v1 : Int, v1 = (if ((((((0 ≤ a_from) ∧ (a_from ≤ 31)) ∧ ((1 ≤ a_count) ∧ (a_count ≤ 32))) ∧ (a_from + a_count ≤ 32)) ∧ ((1 ≤ a_r) ∧ (a_r ≤ 3))) ∧ (((-1) ≤ a_its) ∧ (a_its ≤ 2))) ∧ ((a_its = (-1)) ∨ (((0 ≤ a_i) ∧ (a_i ≤ 7)) ∧ (a_i + a_count ≤ 8))) then 1 else 0 : Int) → G X 0 0 59 [(11, 0), (0, a_s), (0, a_from), (0, a_count), (0, a_r), (0, a_its), (0, a_i), (0, a_isShared), (0, a_does), (1, 0), (1, 0)] [(0, v1)] (m, s) by
    have J2 : ((((((0 ≤ a_from) ∧ (a_from ≤ 31)) ∧ ((1 ≤ a_count) ∧ (a_count ≤ 32))) ∧ (a_from + a_count ≤ 32)) ∧ ((1 ≤ a_r) ∧ (a_r ≤ 3))) ∧ (((-1) ≤ a_its) ∧ (a_its ≤ 2))) ∧ ((a_its = (-1)) ∨ (((0 ≤ a_i) ∧ (a_i ≤ 7)) ∧ (a_i + a_count ≤ 8))) → G X 0 0 54 [(11, 0), (0, a_s), (0, a_from), (0, a_count), (0, a_r), (0, a_its), (0, a_i), (0, a_isShared), (0, a_does), (1, 0), (1, 0)] [] (m, s) := by
      intro h7
      refine g_iconst h 54 dX8_map_54 ?_
      refine g_goto h 55 59 dX8_map_55 (by decide) ?_
      exact J1 _ (if_pos h7).symm
    have J3 : ¬ (((((((0 ≤ a_from) ∧ (a_from ≤ 31)) ∧ ((1 ≤ a_count) ∧ (a_count ≤ 32))) ∧ (a_from + a_count ≤ 32)) ∧ ((1 ≤ a_r) ∧ (a_r ≤ 3))) ∧ (((-1) ≤ a_its) ∧ (a_its ≤ 2))) ∧ ((a_its = (-1)) ∨ (((0 ≤ a_i) ∧ (a_i ≤ 7)) ∧ (a_i + a_count ≤ 8)))) → G X 0 0 58 [(11, 0), (0, a_s), (0, a_from), (0, a_count), (0, a_r), (0, a_its), (0, a_i), (0, a_isShared), (0, a_does), (1, 0), (1, 0)] [] (m, s) := by
      intro h8
      refine g_iconst h 58 dX8_map_58 ?_
      exact J1 _ (if_neg h8).symm
    refine g_iload_n h 0 dX8_map_0 rfl ?_
    refine g_iload_n h 1 dX8_map_1 rfl ?_
    refine g_callS h hE 2 dX8_map_2 (cpX8_isRow (a_from := a_from) (a_count := a_count) hl (by omega) (by omega)) mwX8_isRow kw_1153 rfl (Nat.le_of_ble_eq_true rfl) rfl (Nat.le_of_ble_eq_true rfl) ⟨Nat.le_of_ble_eq_true rfl, Nat.le_of_ble_eq_true rfl⟩ rfl rfl ?_
    show G X 0 0 5 [(11, 0), (0, a_s), (0, a_from), (0, a_count), (0, a_r), (0, a_its), (0, a_i), (0, a_isShared), (0, a_does), (1, 0), (1, 0)] [(0, (if (((0 ≤ a_from) ∧ (a_from ≤ 31)) ∧ ((1 ≤ a_count) ∧ (a_count ≤ 32))) ∧ (a_from + a_count ≤ 32) then 1 else 0 : Int))] (m, s)
    refine g_if_eq h 5 58 (gRi gR_ite) dX8_map_5 (by decide) (fun h1 => ?_) (fun h1 => ?_)
    · exact J3 (fun q => (fun q => (fun q => (iz_f h1) q.1) q.1) q.1)
    · refine g_iload h 8 dX8_map_8 rfl ?_
      refine g_iconst h 10 dX8_map_10 ?_
      refine g_iconst h 11 dX8_map_11 ?_
      refine g_callS h hE 12 dX8_map_12 (cpX8_in (a_v := a_r) (a_low := 1) (a_high := 3) hl (by omega) (by omega) (by omega)) mwX8_in kw_1142 rfl (Nat.le_of_ble_eq_true rfl) rfl (Nat.le_of_ble_eq_true rfl) ⟨Nat.le_of_ble_eq_true rfl, Nat.le_of_ble_eq_true rfl⟩ rfl rfl ?_
      show G X 0 0 15 [(11, 0), (0, a_s), (0, a_from), (0, a_count), (0, a_r), (0, a_its), (0, a_i), (0, a_isShared), (0, a_does), (1, 0), (1, 0)] [(0, (if (1 ≤ a_r) ∧ (a_r ≤ 3) then 1 else 0 : Int))] (m, s)
      refine g_if_eq h 15 58 (gRi gR_ite) dX8_map_15 (by decide) (fun h2 => ?_) (fun h2 => ?_)
      · exact J3 (fun q => (fun q => (fun q => (iz_f h2) q.2) q.1) q.1)
      · refine g_iload h 18 dX8_map_18 rfl ?_
        refine g_iconst h 20 dX8_map_20 ?_
        refine g_iconst h 21 dX8_map_21 ?_
        refine g_callS h hE 22 dX8_map_22 (cpX8_in (a_v := a_its) (a_low := (-1)) (a_high := 2) hl (by omega) (by omega) (by omega)) mwX8_in kw_1142 rfl (Nat.le_of_ble_eq_true rfl) rfl (Nat.le_of_ble_eq_true rfl) ⟨Nat.le_of_ble_eq_true rfl, Nat.le_of_ble_eq_true rfl⟩ rfl rfl ?_
        show G X 0 0 25 [(11, 0), (0, a_s), (0, a_from), (0, a_count), (0, a_r), (0, a_its), (0, a_i), (0, a_isShared), (0, a_does), (1, 0), (1, 0)] [(0, (if ((-1) ≤ a_its) ∧ (a_its ≤ 2) then 1 else 0 : Int))] (m, s)
        refine g_if_eq h 25 58 (gRi gR_ite) dX8_map_25 (by decide) (fun h3 => ?_) (fun h3 => ?_)
        · exact J3 (fun q => (fun q => (iz_f h3) q.2) q.1)
        · refine g_iload h 28 dX8_map_28 rfl ?_
          refine g_iconst h 30 dX8_map_30 ?_
          refine g_icmp_eq h 31 54 (gRi (by omega)) (gRi (by omega)) dX8_map_31 (by decide) (fun h4 => ?_) (fun h4 => ?_)
          · exact J2 ⟨⟨⟨(iz_t h1), (iz_t h2)⟩, (iz_t h3)⟩, (Or.inl h4)⟩
          · refine g_iload h 34 dX8_map_34 rfl ?_
            refine g_iconst h 36 dX8_map_36 ?_
            refine g_bipush h 37 dX8_map_37 (by decide) ?_
            refine g_callS h hE 39 dX8_map_39 (cpX8_in (a_v := a_i) (a_low := 0) (a_high := 7) hl (by omega) (by omega) (by omega)) mwX8_in kw_1142 rfl (Nat.le_of_ble_eq_true rfl) rfl (Nat.le_of_ble_eq_true rfl) ⟨Nat.le_of_ble_eq_true rfl, Nat.le_of_ble_eq_true rfl⟩ rfl rfl ?_
            show G X 0 0 42 [(11, 0), (0, a_s), (0, a_from), (0, a_count), (0, a_r), (0, a_its), (0, a_i), (0, a_isShared), (0, a_does), (1, 0), (1, 0)] [(0, (if (0 ≤ a_i) ∧ (a_i ≤ 7) then 1 else 0 : Int))] (m, s)
            refine g_if_eq h 42 58 (gRi gR_ite) dX8_map_42 (by decide) (fun h5 => ?_) (fun h5 => ?_)
            · exact J3 (fun q => (fun q => q.elim h4 (fun q => (iz_f h5) q.1)) q.2)
            · refine g_iload h 45 dX8_map_45 rfl ?_
              refine g_iload_n h 47 dX8_map_47 rfl ?_
              refine g_iadd h 48 dX8_map_48 ?_
              refine g_bipush h 49 dX8_map_49 (by decide) ?_
              refine g_icmp_gt h 51 58 (gRi (by omega)) (gRi (by omega)) dX8_map_51 (by decide) (fun h6 => ?_) (fun h6 => ?_)
              · exact J3 (fun q => (fun q => q.elim h4 (fun q => (Int.not_le.mpr h6) q.2)) q.2)
              · exact J2 ⟨⟨⟨(iz_t h1), (iz_t h2)⟩, (iz_t h3)⟩, (Or.inr ⟨(iz_t h5), h6⟩)⟩
  intro v1 e1
  subst e1
  refine g_istore h 59 dX8_map_59 (Nat.le_of_ble_eq_true rfl) rfl (L' := [(11, 0), (0, a_s), (0, a_from), (0, a_count), (0, a_r), (0, a_its), (0, a_i), (0, a_isShared), (0, a_does), (0, (if ((((((0 ≤ a_from) ∧ (a_from ≤ 31)) ∧ ((1 ≤ a_count) ∧ (a_count ≤ 32))) ∧ (a_from + a_count ≤ 32)) ∧ ((1 ≤ a_r) ∧ (a_r ≤ 3))) ∧ (((-1) ≤ a_its) ∧ (a_its ≤ 2))) ∧ ((a_its = (-1)) ∨ (((0 ≤ a_i) ∧ (a_i ≤ 7)) ∧ (a_i + a_count ≤ 8))) then 1 else 0 : Int)), (1, 0)]) rfl ?_
  refine g_aload_nq h 61 dX8_map_61 rfl rfl ?_
  refine G_typ fun hT_s => ?_
  have t1 : 0 ≤ s 102 0 ∧ s 102 0 ≤ 6 := hT_s.2 102 0
  refine g_aload_nq h 62 dX8_map_62 rfl rfl ?_
  refine g_iload_n h 63 dX8_map_63 rfl ?_
  refine g_callV h hE 64 dX8_map_64 (cpX8_isSpace (a_s := a_s) hl (by omega)) mwX8_isSpace kw_1156 (by decide) (by decide) rfl (Nat.le_of_ble_eq_true rfl) rfl (Nat.le_of_ble_eq_true rfl) ⟨Nat.le_of_ble_eq_true rfl, Nat.le_of_ble_eq_true rfl⟩ rfl rfl ?_
  show G X 0 0 67 [(11, 0), (0, a_s), (0, a_from), (0, a_count), (0, a_r), (0, a_its), (0, a_i), (0, a_isShared), (0, a_does), (0, (if ((((((0 ≤ a_from) ∧ (a_from ≤ 31)) ∧ ((1 ≤ a_count) ∧ (a_count ≤ 32))) ∧ (a_from + a_count ≤ 32)) ∧ ((1 ≤ a_r) ∧ (a_r ≤ 3))) ∧ (((-1) ≤ a_its) ∧ (a_its ≤ 2))) ∧ ((a_its = (-1)) ∨ (((0 ≤ a_i) ∧ (a_i ≤ 7)) ∧ (a_i + a_count ≤ 8))) then 1 else 0 : Int)), (1, 0)] [(0, (if (0 ≤ a_s) ∧ (a_s ≤ (s 102 0) - 1) then 1 else 0 : Int)), (11, 0)] (m, s)
  refine g_iload h 67 dX8_map_67 rfl ?_
  obtain ⟨k1, ek1, hF⟩ := bn_ex hF
  have J4 : ∀ (v2 : Int) (s1 : S2), (0 ≤ v2 ∧ v2 ≤ 1) → k1 v2 s1 = some (r0, s0) → G X 0 0 98 [(11, 0), (0, a_s), (0, a_from), (0, a_count), (0, a_r), (0, a_its), (0, a_i), (0, a_isShared), (0, a_does), (0, (if ((((((0 ≤ a_from) ∧ (a_from ≤ 31)) ∧ ((1 ≤ a_count) ∧ (a_count ≤ 32))) ∧ (a_from + a_count ≤ 32)) ∧ ((1 ≤ a_r) ∧ (a_r ≤ 3))) ∧ (((-1) ≤ a_its) ∧ (a_its ≤ 2))) ∧ ((a_its = (-1)) ∨ (((0 ≤ a_i) ∧ (a_i ≤ 7)) ∧ (a_i + a_count ≤ 8))) then 1 else 0 : Int)), (1, 0)] [(0, v2), (0, (if ((((((0 ≤ a_from) ∧ (a_from ≤ 31)) ∧ ((1 ≤ a_count) ∧ (a_count ≤ 32))) ∧ (a_from + a_count ≤ 32)) ∧ ((1 ≤ a_r) ∧ (a_r ≤ 3))) ∧ (((-1) ≤ a_its) ∧ (a_its ≤ 2))) ∧ ((a_its = (-1)) ∨ (((0 ≤ a_i) ∧ (a_i ≤ 7)) ∧ (a_i + a_count ≤ 8))) then 1 else 0 : Int)), (0, (if (0 ≤ a_s) ∧ (a_s ≤ (s 102 0) - 1) then 1 else 0 : Int)), (11, 0)] (m, s1) := by
    intro v2 s1 q1 hF
    rw [ek1] at hF
    obtain ⟨r2, s5, c2, hF⟩ := cb_some hF
    have t4 : 0 ≤ r2 ∧ r2 ≤ 1 := rgX8_asked__ c2
    refine g_callV h hE 98 dX8_map_98 (ctX8_asked__ hl c2) mwX8_asked__ kw_1168 (by decide) (by decide) rfl (Nat.le_of_ble_eq_true rfl) rfl (Nat.le_of_ble_eq_true rfl) ⟨Nat.le_of_ble_eq_true rfl, Nat.le_of_ble_eq_true rfl⟩ rfl rfl ?_
    show G X 0 0 101 [(11, 0), (0, a_s), (0, a_from), (0, a_count), (0, a_r), (0, a_its), (0, a_i), (0, a_isShared), (0, a_does), (0, (if ((((((0 ≤ a_from) ∧ (a_from ≤ 31)) ∧ ((1 ≤ a_count) ∧ (a_count ≤ 32))) ∧ (a_from + a_count ≤ 32)) ∧ ((1 ≤ a_r) ∧ (a_r ≤ 3))) ∧ (((-1) ≤ a_its) ∧ (a_its ≤ 2))) ∧ ((a_its = (-1)) ∨ (((0 ≤ a_i) ∧ (a_i ≤ 7)) ∧ (a_i + a_count ≤ 8))) then 1 else 0 : Int)), (1, 0)] [(0, r2)] (m, s5)
    refine g_if_ne h 101 106 (gRi (by omega)) dX8_map_101 (by decide) (fun h14 => ?_) (fun h14 => ?_)
    · have hF := ite_t h14 hF
      refine g_iconst h 106 dX8_map_106 ?_
      refine g_istore h 107 dX8_map_107 (Nat.le_of_ble_eq_true rfl) rfl (L' := [(11, 0), (0, a_s), (0, a_from), (0, a_count), (0, a_r), (0, a_its), (0, a_i), (0, a_isShared), (0, a_does), (0, (if ((((((0 ≤ a_from) ∧ (a_from ≤ 31)) ∧ ((1 ≤ a_count) ∧ (a_count ≤ 32))) ∧ (a_from + a_count ≤ 32)) ∧ ((1 ≤ a_r) ∧ (a_r ≤ 3))) ∧ (((-1) ≤ a_its) ∧ (a_its ≤ 2))) ∧ ((a_its = (-1)) ∨ (((0 ≤ a_i) ∧ (a_i ≤ 7)) ∧ (a_i + a_count ≤ 8))) then 1 else 0 : Int)), (0, 0)]) rfl ?_
      obtain ⟨f1, ef1, hF⟩ := glx1 hF
      have J12 : ∀ (n1 : Nat) (x_k1 : Int) (s6 : S2), (0 ≤ x_k1 ∧ x_k1 ≤ 2147483647) → gl1 n1 f1 x_k1 s6 = some (r0, s0) → G X 0 0 109 [(11, 0), (0, a_s), (0, a_from), (0, a_count), (0, a_r), (0, a_its), (0, a_i), (0, a_isShared), (0, a_does), (0, (if ((((((0 ≤ a_from) ∧ (a_from ≤ 31)) ∧ ((1 ≤ a_count) ∧ (a_count ≤ 32))) ∧ (a_from + a_count ≤ 32)) ∧ ((1 ≤ a_r) ∧ (a_r ≤ 3))) ∧ (((-1) ≤ a_its) ∧ (a_its ≤ 2))) ∧ ((a_its = (-1)) ∨ (((0 ≤ a_i) ∧ (a_i ≤ 7)) ∧ (a_i + a_count ≤ 8))) then 1 else 0 : Int)), (0, x_k1)] [] (m, s6) := by
        intro n1
        induction n1 with
        | zero => intro x_k1 s6 _ hF; exact (gl1_0 hF).elim
        | succ n1 ih1 =>
          intro x_k1 s6 q2 hF
          obtain ⟨k4, ek4, hF⟩ := glu1 hF ef1
          have J10 : x_k1 < a_count → G X 0 0 115 [(11, 0), (0, a_s), (0, a_from), (0, a_count), (0, a_r), (0, a_its), (0, a_i), (0, a_isShared), (0, a_does), (0, (if ((((((0 ≤ a_from) ∧ (a_from ≤ 31)) ∧ ((1 ≤ a_count) ∧ (a_count ≤ 32))) ∧ (a_from + a_count ≤ 32)) ∧ ((1 ≤ a_r) ∧ (a_r ≤ 3))) ∧ (((-1) ≤ a_its) ∧ (a_its ≤ 2))) ∧ ((a_its = (-1)) ∨ (((0 ≤ a_i) ∧ (a_i ≤ 7)) ∧ (a_i + a_count ≤ 8))) then 1 else 0 : Int)), (0, x_k1)] [] (m, s6) := by
            intro h16
            have hF := ite_t h16 hF
            refine g_aload_nq h 115 dX8_map_115 rfl rfl ?_
            refine g_bipush h 116 dX8_map_116 (by decide) ?_
            refine g_iload_n h 118 dX8_map_118 rfl ?_
            refine g_imul h 119 dX8_map_119 ?_
            refine g_iload_n h 120 dX8_map_120 rfl ?_
            refine g_iadd h 121 dX8_map_121 ?_
            refine g_iload h 122 dX8_map_122 rfl ?_
            refine g_iadd h 124 dX8_map_124 ?_
            refine g_iload h 125 dX8_map_125 rfl ?_
            refine g_iload h 127 dX8_map_127 rfl ?_
            refine g_iload h 129 dX8_map_129 rfl ?_
            refine g_iload h 131 dX8_map_131 rfl ?_
            refine g_iadd h 133 dX8_map_133 ?_
            refine g_iload h 134 dX8_map_134 rfl ?_
            refine g_iload h 136 dX8_map_136 rfl ?_
            obtain ⟨r3, s7, c3, hF⟩ := cb_some hF
            refine g_callV h hE 138 dX8_map_138 (ctX8_lays hl c3) mwX8_lays kw_1172 (by decide) (by decide) rfl (Nat.le_of_ble_eq_true rfl) rfl (Nat.le_of_ble_eq_true rfl) ⟨Nat.le_of_ble_eq_true rfl, Nat.le_of_ble_eq_true rfl⟩ rfl rfl ?_
            show G X 0 0 141 [(11, 0), (0, a_s), (0, a_from), (0, a_count), (0, a_r), (0, a_its), (0, a_i), (0, a_isShared), (0, a_does), (0, (if ((((((0 ≤ a_from) ∧ (a_from ≤ 31)) ∧ ((1 ≤ a_count) ∧ (a_count ≤ 32))) ∧ (a_from + a_count ≤ 32)) ∧ ((1 ≤ a_r) ∧ (a_r ≤ 3))) ∧ (((-1) ≤ a_its) ∧ (a_its ≤ 2))) ∧ ((a_its = (-1)) ∨ (((0 ≤ a_i) ∧ (a_i ≤ 7)) ∧ (a_i + a_count ≤ 8))) then 1 else 0 : Int)), (0, x_k1)] [] (m, s7)
            refine g_iinc h 141 dX8_map_141 rfl rfl (L' := [(11, 0), (0, a_s), (0, a_from), (0, a_count), (0, a_r), (0, a_its), (0, a_i), (0, a_isShared), (0, a_does), (0, (if ((((((0 ≤ a_from) ∧ (a_from ≤ 31)) ∧ ((1 ≤ a_count) ∧ (a_count ≤ 32))) ∧ (a_from + a_count ≤ 32)) ∧ ((1 ≤ a_r) ∧ (a_r ≤ 3))) ∧ (((-1) ≤ a_its) ∧ (a_its ≤ 2))) ∧ ((a_its = (-1)) ∨ (((0 ≤ a_i) ∧ (a_i ≤ 7)) ∧ (a_i + a_count ≤ 8))) then 1 else 0 : Int)), (0, x_k1 + 1)]) rfl ?_
            refine g_goto h 144 109 dX8_map_144 (by decide) ?_
            rw [ek4] at hF
            exact ih1 _ _ (by omega) hF
          have J11 : ¬ (x_k1 < a_count) → G X 0 0 147 [(11, 0), (0, a_s), (0, a_from), (0, a_count), (0, a_r), (0, a_its), (0, a_i), (0, a_isShared), (0, a_does), (0, (if ((((((0 ≤ a_from) ∧ (a_from ≤ 31)) ∧ ((1 ≤ a_count) ∧ (a_count ≤ 32))) ∧ (a_from + a_count ≤ 32)) ∧ ((1 ≤ a_r) ∧ (a_r ≤ 3))) ∧ (((-1) ≤ a_its) ∧ (a_its ≤ 2))) ∧ ((a_its = (-1)) ∨ (((0 ≤ a_i) ∧ (a_i ≤ 7)) ∧ (a_i + a_count ≤ 8))) then 1 else 0 : Int)), (0, x_k1)] [] (m, s6) := by
            intro h17
            have hF := ite_f h17 hF
            refine g_aload_nq h 147 dX8_map_147 rfl rfl ?_
            refine g_iload_n h 148 dX8_map_148 rfl ?_
            obtain ⟨r4, s8, c4, hF⟩ := cb_some hF
            have t5 : 0 ≤ r4 ∧ r4 ≤ 32 := rgX8_regionsOf c4
            refine g_callV h hE 149 dX8_map_149 (ctX8_regionsOf hl c4) mwX8_regionsOf kw_1176 (by decide) (by decide) rfl (Nat.le_of_ble_eq_true rfl) rfl (Nat.le_of_ble_eq_true rfl) ⟨Nat.le_of_ble_eq_true rfl, Nat.le_of_ble_eq_true rfl⟩ rfl rfl ?_
            show G X 0 0 152 [(11, 0), (0, a_s), (0, a_from), (0, a_count), (0, a_r), (0, a_its), (0, a_i), (0, a_isShared), (0, a_does), (0, (if ((((((0 ≤ a_from) ∧ (a_from ≤ 31)) ∧ ((1 ≤ a_count) ∧ (a_count ≤ 32))) ∧ (a_from + a_count ≤ 32)) ∧ ((1 ≤ a_r) ∧ (a_r ≤ 3))) ∧ (((-1) ≤ a_its) ∧ (a_its ≤ 2))) ∧ ((a_its = (-1)) ∨ (((0 ≤ a_i) ∧ (a_i ≤ 7)) ∧ (a_i + a_count ≤ 8))) then 1 else 0 : Int)), (0, x_k1)] [(0, r4)] (m, s8)
            obtain ⟨e1, e2⟩ := some_2 hF
            rw [← e1, ← e2] at hE
            exact g_iret h 152 dX8_map_152 hE rfl rfl ⟨(Nat.le_of_ble_eq_true rfl), (Nat.le_of_ble_eq_true rfl)⟩
          refine g_iload h 109 dX8_map_109 rfl ?_
          refine g_iload_n h 111 dX8_map_111 rfl ?_
          refine g_icmp_ge h 112 147 (gRi (by omega)) (gRi (by omega)) dX8_map_112 (by decide) (fun h15 => ?_) (fun h15 => ?_)
          · exact J11 (Int.not_lt.mpr h15)
          · exact J10 h15
      exact J12 _ _ _ (by omega) hF
    · have hF := ite_f (fun q => q h14) hF
      refine g_iconst h 104 dX8_map_104 ?_
      obtain ⟨e1, e2⟩ := some_2 hF
      rw [← e1, ← e2] at hE
      exact g_iret h 105 dX8_map_105 hE rfl rfl ⟨(Nat.le_of_ble_eq_true rfl), (Nat.le_of_ble_eq_true rfl)⟩
  obtain ⟨k2, ek2, hF⟩ := bn_ex hF
  have J5 : ∀ (s2 : S2), k2 s2 = some (r0, s0) → G X 0 0 93 [(11, 0), (0, a_s), (0, a_from), (0, a_count), (0, a_r), (0, a_its), (0, a_i), (0, a_isShared), (0, a_does), (0, (if ((((((0 ≤ a_from) ∧ (a_from ≤ 31)) ∧ ((1 ≤ a_count) ∧ (a_count ≤ 32))) ∧ (a_from + a_count ≤ 32)) ∧ ((1 ≤ a_r) ∧ (a_r ≤ 3))) ∧ (((-1) ≤ a_its) ∧ (a_its ≤ 2))) ∧ ((a_its = (-1)) ∨ (((0 ≤ a_i) ∧ (a_i ≤ 7)) ∧ (a_i + a_count ≤ 8))) then 1 else 0 : Int)), (1, 0)] [(0, (if ((((((0 ≤ a_from) ∧ (a_from ≤ 31)) ∧ ((1 ≤ a_count) ∧ (a_count ≤ 32))) ∧ (a_from + a_count ≤ 32)) ∧ ((1 ≤ a_r) ∧ (a_r ≤ 3))) ∧ (((-1) ≤ a_its) ∧ (a_its ≤ 2))) ∧ ((a_its = (-1)) ∨ (((0 ≤ a_i) ∧ (a_i ≤ 7)) ∧ (a_i + a_count ≤ 8))) then 1 else 0 : Int)), (0, (if (0 ≤ a_s) ∧ (a_s ≤ (s 102 0) - 1) then 1 else 0 : Int)), (11, 0)] (m, s2) := by
    intro s2 hF
    rw [ek2] at hF
    refine g_iconst h 93 dX8_map_93 ?_
    refine g_goto h 94 98 dX8_map_94 (by decide) ?_
    exact J4 _ _ (by omega) hF
  obtain ⟨k3, ek3, hF⟩ := bn_ex hF
  have J6 : ∀ (s3 : S2), k3 s3 = some (r0, s0) → G X 0 0 97 [(11, 0), (0, a_s), (0, a_from), (0, a_count), (0, a_r), (0, a_its), (0, a_i), (0, a_isShared), (0, a_does), (0, (if ((((((0 ≤ a_from) ∧ (a_from ≤ 31)) ∧ ((1 ≤ a_count) ∧ (a_count ≤ 32))) ∧ (a_from + a_count ≤ 32)) ∧ ((1 ≤ a_r) ∧ (a_r ≤ 3))) ∧ (((-1) ≤ a_its) ∧ (a_its ≤ 2))) ∧ ((a_its = (-1)) ∨ (((0 ≤ a_i) ∧ (a_i ≤ 7)) ∧ (a_i + a_count ≤ 8))) then 1 else 0 : Int)), (1, 0)] [(0, (if ((((((0 ≤ a_from) ∧ (a_from ≤ 31)) ∧ ((1 ≤ a_count) ∧ (a_count ≤ 32))) ∧ (a_from + a_count ≤ 32)) ∧ ((1 ≤ a_r) ∧ (a_r ≤ 3))) ∧ (((-1) ≤ a_its) ∧ (a_its ≤ 2))) ∧ ((a_its = (-1)) ∨ (((0 ≤ a_i) ∧ (a_i ≤ 7)) ∧ (a_i + a_count ≤ 8))) then 1 else 0 : Int)), (0, (if (0 ≤ a_s) ∧ (a_s ≤ (s 102 0) - 1) then 1 else 0 : Int)), (11, 0)] (m, s3) := by
    intro s3 hF
    rw [ek3] at hF
    refine g_iconst h 97 dX8_map_97 ?_
    exact J4 _ _ (by omega) hF
  have t2 : 0 ≤ s 106 a_s ∧ s 106 a_s ≤ 1 := hT_s.2 106 a_s
  have J7 : (((0 ≤ a_s) ∧ (a_s ≤ (s 102 0) - 1)) ∧ (s 106 a_s ≠ 0)) ∧ (((((((0 ≤ a_from) ∧ (a_from ≤ 31)) ∧ ((1 ≤ a_count) ∧ (a_count ≤ 32))) ∧ (a_from + a_count ≤ 32)) ∧ ((1 ≤ a_r) ∧ (a_r ≤ 3))) ∧ (((-1) ≤ a_its) ∧ (a_its ≤ 2))) ∧ ((a_its = (-1)) ∨ (((0 ≤ a_i) ∧ (a_i ≤ 7)) ∧ (a_i + a_count ≤ 8)))) → G X 0 0 82 [(11, 0), (0, a_s), (0, a_from), (0, a_count), (0, a_r), (0, a_its), (0, a_i), (0, a_isShared), (0, a_does), (0, (if ((((((0 ≤ a_from) ∧ (a_from ≤ 31)) ∧ ((1 ≤ a_count) ∧ (a_count ≤ 32))) ∧ (a_from + a_count ≤ 32)) ∧ ((1 ≤ a_r) ∧ (a_r ≤ 3))) ∧ (((-1) ≤ a_its) ∧ (a_its ≤ 2))) ∧ ((a_its = (-1)) ∨ (((0 ≤ a_i) ∧ (a_i ≤ 7)) ∧ (a_i + a_count ≤ 8))) then 1 else 0 : Int)), (1, 0)] [(0, (if ((((((0 ≤ a_from) ∧ (a_from ≤ 31)) ∧ ((1 ≤ a_count) ∧ (a_count ≤ 32))) ∧ (a_from + a_count ≤ 32)) ∧ ((1 ≤ a_r) ∧ (a_r ≤ 3))) ∧ (((-1) ≤ a_its) ∧ (a_its ≤ 2))) ∧ ((a_its = (-1)) ∨ (((0 ≤ a_i) ∧ (a_i ≤ 7)) ∧ (a_i + a_count ≤ 8))) then 1 else 0 : Int)), (0, (if (0 ≤ a_s) ∧ (a_s ≤ (s 102 0) - 1) then 1 else 0 : Int)), (11, 0)] (m, s) := by
    intro h11
    have hF := ite_t h11 hF
    refine g_aload_nq h 82 dX8_map_82 rfl rfl ?_
    refine g_iload_n h 83 dX8_map_83 rfl ?_
    refine g_iload_n h 84 dX8_map_84 rfl ?_
    refine g_iload_n h 85 dX8_map_85 rfl ?_
    refine g_iconst h 86 dX8_map_86 ?_
    obtain ⟨r1, s4, c1, hF⟩ := cb_some hF
    have t3 : 0 ≤ r1 ∧ r1 ≤ 1 := rgX8_areMapped c1
    refine g_callV h hE 87 dX8_map_87 (ctX8_areMapped hl c1) mwX8_areMapped kw_1164 (by decide) (by decide) rfl (Nat.le_of_ble_eq_true rfl) rfl (Nat.le_of_ble_eq_true rfl) ⟨Nat.le_of_ble_eq_true rfl, Nat.le_of_ble_eq_true rfl⟩ rfl rfl ?_
    show G X 0 0 90 [(11, 0), (0, a_s), (0, a_from), (0, a_count), (0, a_r), (0, a_its), (0, a_i), (0, a_isShared), (0, a_does), (0, (if ((((((0 ≤ a_from) ∧ (a_from ≤ 31)) ∧ ((1 ≤ a_count) ∧ (a_count ≤ 32))) ∧ (a_from + a_count ≤ 32)) ∧ ((1 ≤ a_r) ∧ (a_r ≤ 3))) ∧ (((-1) ≤ a_its) ∧ (a_its ≤ 2))) ∧ ((a_its = (-1)) ∨ (((0 ≤ a_i) ∧ (a_i ≤ 7)) ∧ (a_i + a_count ≤ 8))) then 1 else 0 : Int)), (1, 0)] [(0, r1), (0, (if ((((((0 ≤ a_from) ∧ (a_from ≤ 31)) ∧ ((1 ≤ a_count) ∧ (a_count ≤ 32))) ∧ (a_from + a_count ≤ 32)) ∧ ((1 ≤ a_r) ∧ (a_r ≤ 3))) ∧ (((-1) ≤ a_its) ∧ (a_its ≤ 2))) ∧ ((a_its = (-1)) ∨ (((0 ≤ a_i) ∧ (a_i ≤ 7)) ∧ (a_i + a_count ≤ 8))) then 1 else 0 : Int)), (0, (if (0 ≤ a_s) ∧ (a_s ≤ (s 102 0) - 1) then 1 else 0 : Int)), (11, 0)] (m, s4)
    refine g_if_eq h 90 97 (gRi (by omega)) dX8_map_90 (by decide) (fun h12 => ?_) (fun h12 => ?_)
    · have hF := ite_f (fun q => q h12) hF
      exact J6 _ hF
    · have hF := ite_t h12 hF
      exact J5 _ hF
  have J8 : ¬ ((((0 ≤ a_s) ∧ (a_s ≤ (s 102 0) - 1)) ∧ (s 106 a_s ≠ 0)) ∧ (((((((0 ≤ a_from) ∧ (a_from ≤ 31)) ∧ ((1 ≤ a_count) ∧ (a_count ≤ 32))) ∧ (a_from + a_count ≤ 32)) ∧ ((1 ≤ a_r) ∧ (a_r ≤ 3))) ∧ (((-1) ≤ a_its) ∧ (a_its ≤ 2))) ∧ ((a_its = (-1)) ∨ (((0 ≤ a_i) ∧ (a_i ≤ 7)) ∧ (a_i + a_count ≤ 8))))) → G X 0 0 97 [(11, 0), (0, a_s), (0, a_from), (0, a_count), (0, a_r), (0, a_its), (0, a_i), (0, a_isShared), (0, a_does), (0, (if ((((((0 ≤ a_from) ∧ (a_from ≤ 31)) ∧ ((1 ≤ a_count) ∧ (a_count ≤ 32))) ∧ (a_from + a_count ≤ 32)) ∧ ((1 ≤ a_r) ∧ (a_r ≤ 3))) ∧ (((-1) ≤ a_its) ∧ (a_its ≤ 2))) ∧ ((a_its = (-1)) ∨ (((0 ≤ a_i) ∧ (a_i ≤ 7)) ∧ (a_i + a_count ≤ 8))) then 1 else 0 : Int)), (1, 0)] [(0, (if ((((((0 ≤ a_from) ∧ (a_from ≤ 31)) ∧ ((1 ≤ a_count) ∧ (a_count ≤ 32))) ∧ (a_from + a_count ≤ 32)) ∧ ((1 ≤ a_r) ∧ (a_r ≤ 3))) ∧ (((-1) ≤ a_its) ∧ (a_its ≤ 2))) ∧ ((a_its = (-1)) ∨ (((0 ≤ a_i) ∧ (a_i ≤ 7)) ∧ (a_i + a_count ≤ 8))) then 1 else 0 : Int)), (0, (if (0 ≤ a_s) ∧ (a_s ≤ (s 102 0) - 1) then 1 else 0 : Int)), (11, 0)] (m, s) := by
    intro h13
    have hF := ite_f h13 hF
    exact J6 _ hF
  refine g_aload_nq h 69 dX8_map_69 rfl rfl ?_
  refine g_iload_n h 70 dX8_map_70 rfl ?_
  refine g_callV h hE 71 dX8_map_71 (cpX8_isAlive (a_s := a_s) hl (by omega)) mwX8_isAlive kw_1160 (by decide) (by decide) rfl (Nat.le_of_ble_eq_true rfl) rfl (Nat.le_of_ble_eq_true rfl) ⟨Nat.le_of_ble_eq_true rfl, Nat.le_of_ble_eq_true rfl⟩ rfl rfl ?_
  show G X 0 0 74 [(11, 0), (0, a_s), (0, a_from), (0, a_count), (0, a_r), (0, a_its), (0, a_i), (0, a_isShared), (0, a_does), (0, (if ((((((0 ≤ a_from) ∧ (a_from ≤ 31)) ∧ ((1 ≤ a_count) ∧ (a_count ≤ 32))) ∧ (a_from + a_count ≤ 32)) ∧ ((1 ≤ a_r) ∧ (a_r ≤ 3))) ∧ (((-1) ≤ a_its) ∧ (a_its ≤ 2))) ∧ ((a_its = (-1)) ∨ (((0 ≤ a_i) ∧ (a_i ≤ 7)) ∧ (a_i + a_count ≤ 8))) then 1 else 0 : Int)), (1, 0)] [(0, (if ((0 ≤ a_s) ∧ (a_s ≤ (s 102 0) - 1)) ∧ (s 106 a_s ≠ 0) then 1 else 0 : Int)), (0, (if ((((((0 ≤ a_from) ∧ (a_from ≤ 31)) ∧ ((1 ≤ a_count) ∧ (a_count ≤ 32))) ∧ (a_from + a_count ≤ 32)) ∧ ((1 ≤ a_r) ∧ (a_r ≤ 3))) ∧ (((-1) ≤ a_its) ∧ (a_its ≤ 2))) ∧ ((a_its = (-1)) ∨ (((0 ≤ a_i) ∧ (a_i ≤ 7)) ∧ (a_i + a_count ≤ 8))) then 1 else 0 : Int)), (0, (if (0 ≤ a_s) ∧ (a_s ≤ (s 102 0) - 1) then 1 else 0 : Int)), (11, 0)] (m, s)
  refine g_if_eq h 74 97 (gRi gR_ite) dX8_map_74 (by decide) (fun h9 => ?_) (fun h9 => ?_)
  · exact J8 (fun q => (iz_f h9) q.1)
  · refine g_iload h 77 dX8_map_77 rfl ?_
    refine g_if_eq h 79 97 (gRi gR_ite) dX8_map_79 (by decide) (fun h10 => ?_) (fun h10 => ?_)
    · exact J8 (fun q => (iz_f h10) q.2)
    · exact J7 ⟨(iz_t h9), (iz_t h10)⟩
-- PagewrightModel.move
def FX8_move (a_s a_from a_count a_to : Int) (s : S2) : Option (Int × S2) :=
  rgd (-2147483648) 2147483647 <| gd ((-2147483648) ≤ a_s ∧ a_s ≤ 2147483647) <| gd ((-2147483648) ≤ a_from ∧ a_from ≤ 2147483647) <| gd ((-2147483648) ≤ a_count ∧ a_count ≤ 2147483647) <| gd ((-2147483648) ≤ a_to ∧ a_to ≤ 2147483647) <| bn (fun (v2 : Int) (s1 : S2) => cb (FX8_asked__ (if (0 ≤ a_s) ∧ (a_s ≤ (s 102 0) - 1) then 1 else 0 : Int) (if (((((0 ≤ a_from) ∧ (a_from ≤ 31)) ∧ ((1 ≤ a_count) ∧ (a_count ≤ 32))) ∧ (a_from + a_count ≤ 32)) ∧ ((0 ≤ a_to) ∧ (a_to ≤ 31))) ∧ (a_to + a_count ≤ 32) then 1 else 0 : Int) v2 s1) fun r3 s6 => if r3 ≠ 0 then gl1 1000 (fun k4 (x_k1 : Int) (s7 : S2) => if x_k1 < a_count then cb (FX8_copies (((32 * a_s) + a_from) + x_k1) (((32 * a_s) + a_to) + x_k1) s7) fun r4 s8 => gd (0 ≤ ((32 * a_s) + a_to) + x_k1 ∧ ((32 * a_s) + a_to) + x_k1 ≤ 191) <| gd (0 ≤ ((32 * a_s) + a_from) + x_k1 ∧ ((32 * a_s) + a_from) + x_k1 ≤ 191) <| bn (upd2 s8 118 (((32 * a_s) + a_to) + x_k1) (s8 118 (((32 * a_s) + a_from) + x_k1))) fun s9 => bn (fun (s10 : S2) => cb (FX8_unblocks (((32 * a_s) + a_from) + x_k1) s10) fun r6 s12 => bn (upd2 s12 111 (((32 * a_s) + a_from) + x_k1) 0) fun s13 => bn (upd2 s13 116 (((32 * a_s) + a_from) + x_k1) 0) fun s14 => cb (FX8_forgets (((32 * a_s) + a_from) + x_k1) s14) fun r7 s15 => cb (FX8_forgets (((32 * a_s) + a_to) + x_k1) s15) fun r8 s16 => k4 (x_k1 + 1) s16) fun k5 => if s9 116 (((32 * a_s) + a_from) + x_k1) = 1 then cb (FX8_tells (((32 * a_s) + a_from) + x_k1) s9) fun r5 s11 => k5 s11 else k5 s9 else cb (FX8_regionsOf a_s s7) fun r9 s17 => some (r9, s17)) 0 s6 else some (0, s6)) fun k1 => bn (fun (s2 : S2) => k1 1 s2) fun k2 => bn (fun (s3 : S2) => k1 0 s3) fun k3 => if (((0 ≤ a_s) ∧ (a_s ≤ (s 102 0) - 1)) ∧ (s 106 a_s ≠ 0)) ∧ ((((((0 ≤ a_from) ∧ (a_from ≤ 31)) ∧ ((1 ≤ a_count) ∧ (a_count ≤ 32))) ∧ (a_from + a_count ≤ 32)) ∧ ((0 ≤ a_to) ∧ (a_to ≤ 31))) ∧ (a_to + a_count ≤ 32)) then cb (FX8_areMapped a_s a_from a_count 1 s) fun r1 s4 => if r1 ≠ 0 then cb (FX8_areMapped a_s a_to a_count 0 s4) fun r2 s5 => if r2 ≠ 0 then k2 s5 else k3 s5 else k3 s4 else k3 s
theorem rgX8_move {a_s a_from a_count a_to : Int} {s s0 : S2} {r0 : Int} (hF : FX8_move a_s a_from a_count a_to s = some (r0, s0)) : (-2147483648) ≤ r0 ∧ r0 ≤ 2147483647 := (rgd_some hF).2
set_option maxRecDepth 100000 in
set_option maxHeartbeats 4000000 in
theorem ctX8_move {l : Launch} {w : gW} {bs : Nat} (hl : l.stackTraces = false) {a_s a_from a_count a_to : Int} {s m s0 : S2} {r0 : Int} (hF : FX8_move a_s a_from a_count a_to s = some (r0, s0)) : gMet l w bs yX8_move cX8_move 9 (some FieldType.int) 3 0 [(11, 0), (0, a_s), (0, a_from), (0, a_count), (0, a_to)] (m, s) 0 (some (0, r0)) (m, s0) := by
  unfold FX8_move at hF
  obtain ⟨hF, hr⟩ := rgd_some hF
  obtain ⟨q_a_s, hF⟩ := gd_some hF
  obtain ⟨q_a_from, hF⟩ := gd_some hF
  obtain ⟨q_a_count, hF⟩ := gd_some hF
  obtain ⟨q_a_to, hF⟩ := gd_some hF
  refine g_start hl (by decide) (Nat.le_of_ble_eq_true rfl) rfl fun X h hE => ?_
  have h : gOk X "PagewrightModel" cX8_move 9 3 0 0 := h
  have hE : gEnd X l w bs 0 (some FieldType.int) 0 (some (0, r0)) (m, s0) := hE
  show G X 0 0 0 [(11, 0), (0, a_s), (0, a_from), (0, a_count), (0, a_to), (1, 0), (1, 0), (1, 0), (1, 0)] [] (m, s)
  suffices J1 : ∀ v1 : Int, v1 = (if (((((0 ≤ a_from) ∧ (a_from ≤ 31)) ∧ ((1 ≤ a_count) ∧ (a_count ≤ 32))) ∧ (a_from + a_count ≤ 32)) ∧ ((0 ≤ a_to) ∧ (a_to ≤ 31))) ∧ (a_to + a_count ≤ 32) then 1 else 0 : Int) → G X 0 0 33 [(11, 0), (0, a_s), (0, a_from), (0, a_count), (0, a_to), (1, 0), (1, 0), (1, 0), (1, 0)] [(0, v1)] (m, s) by
    have J2 : (((((0 ≤ a_from) ∧ (a_from ≤ 31)) ∧ ((1 ≤ a_count) ∧ (a_count ≤ 32))) ∧ (a_from + a_count ≤ 32)) ∧ ((0 ≤ a_to) ∧ (a_to ≤ 31))) ∧ (a_to + a_count ≤ 32) → G X 0 0 28 [(11, 0), (0, a_s), (0, a_from), (0, a_count), (0, a_to), (1, 0), (1, 0), (1, 0), (1, 0)] [] (m, s) := by
      intro h4
      refine g_iconst h 28 dX8_move_28 ?_
      refine g_goto h 29 33 dX8_move_29 (by decide) ?_
      exact J1 _ (if_pos h4).symm
    have J3 : ¬ ((((((0 ≤ a_from) ∧ (a_from ≤ 31)) ∧ ((1 ≤ a_count) ∧ (a_count ≤ 32))) ∧ (a_from + a_count ≤ 32)) ∧ ((0 ≤ a_to) ∧ (a_to ≤ 31))) ∧ (a_to + a_count ≤ 32)) → G X 0 0 32 [(11, 0), (0, a_s), (0, a_from), (0, a_count), (0, a_to), (1, 0), (1, 0), (1, 0), (1, 0)] [] (m, s) := by
      intro h5
      refine g_iconst h 32 dX8_move_32 ?_
      exact J1 _ (if_neg h5).symm
    refine g_iload_n h 0 dX8_move_0 rfl ?_
    refine g_iload_n h 1 dX8_move_1 rfl ?_
    refine g_callS h hE 2 dX8_move_2 (cpX8_isRow (a_from := a_from) (a_count := a_count) hl (by omega) (by omega)) mwX8_isRow kw_1153 rfl (Nat.le_of_ble_eq_true rfl) rfl (Nat.le_of_ble_eq_true rfl) ⟨Nat.le_of_ble_eq_true rfl, Nat.le_of_ble_eq_true rfl⟩ rfl rfl ?_
    show G X 0 0 5 [(11, 0), (0, a_s), (0, a_from), (0, a_count), (0, a_to), (1, 0), (1, 0), (1, 0), (1, 0)] [(0, (if (((0 ≤ a_from) ∧ (a_from ≤ 31)) ∧ ((1 ≤ a_count) ∧ (a_count ≤ 32))) ∧ (a_from + a_count ≤ 32) then 1 else 0 : Int))] (m, s)
    refine g_if_eq h 5 32 (gRi gR_ite) dX8_move_5 (by decide) (fun h1 => ?_) (fun h1 => ?_)
    · exact J3 (fun q => (fun q => (iz_f h1) q.1) q.1)
    · refine g_iload h 8 dX8_move_8 rfl ?_
      refine g_iconst h 10 dX8_move_10 ?_
      refine g_bipush h 11 dX8_move_11 (by decide) ?_
      refine g_callS h hE 13 dX8_move_13 (cpX8_in (a_v := a_to) (a_low := 0) (a_high := 31) hl (by omega) (by omega) (by omega)) mwX8_in kw_1142 rfl (Nat.le_of_ble_eq_true rfl) rfl (Nat.le_of_ble_eq_true rfl) ⟨Nat.le_of_ble_eq_true rfl, Nat.le_of_ble_eq_true rfl⟩ rfl rfl ?_
      show G X 0 0 16 [(11, 0), (0, a_s), (0, a_from), (0, a_count), (0, a_to), (1, 0), (1, 0), (1, 0), (1, 0)] [(0, (if (0 ≤ a_to) ∧ (a_to ≤ 31) then 1 else 0 : Int))] (m, s)
      refine g_if_eq h 16 32 (gRi gR_ite) dX8_move_16 (by decide) (fun h2 => ?_) (fun h2 => ?_)
      · exact J3 (fun q => (fun q => (iz_f h2) q.2) q.1)
      · refine g_iload h 19 dX8_move_19 rfl ?_
        refine g_iload_n h 21 dX8_move_21 rfl ?_
        refine g_iadd h 22 dX8_move_22 ?_
        refine g_bipush h 23 dX8_move_23 (by decide) ?_
        refine g_icmp_gt h 25 32 (gRi (by omega)) (gRi (by omega)) dX8_move_25 (by decide) (fun h3 => ?_) (fun h3 => ?_)
        · exact J3 (fun q => (Int.not_le.mpr h3) q.2)
        · exact J2 ⟨⟨(iz_t h1), (iz_t h2)⟩, h3⟩
  intro v1 e1
  subst e1
  refine g_istore h 33 dX8_move_33 (Nat.le_of_ble_eq_true rfl) rfl (L' := [(11, 0), (0, a_s), (0, a_from), (0, a_count), (0, a_to), (0, (if (((((0 ≤ a_from) ∧ (a_from ≤ 31)) ∧ ((1 ≤ a_count) ∧ (a_count ≤ 32))) ∧ (a_from + a_count ≤ 32)) ∧ ((0 ≤ a_to) ∧ (a_to ≤ 31))) ∧ (a_to + a_count ≤ 32) then 1 else 0 : Int)), (1, 0), (1, 0), (1, 0)]) rfl ?_
  refine g_aload_nq h 35 dX8_move_35 rfl rfl ?_
  refine G_typ fun hT_s => ?_
  have t1 : 0 ≤ s 102 0 ∧ s 102 0 ≤ 6 := hT_s.2 102 0
  refine g_aload_nq h 36 dX8_move_36 rfl rfl ?_
  refine g_iload_n h 37 dX8_move_37 rfl ?_
  refine g_callV h hE 38 dX8_move_38 (cpX8_isSpace (a_s := a_s) hl (by omega)) mwX8_isSpace kw_1156 (by decide) (by decide) rfl (Nat.le_of_ble_eq_true rfl) rfl (Nat.le_of_ble_eq_true rfl) ⟨Nat.le_of_ble_eq_true rfl, Nat.le_of_ble_eq_true rfl⟩ rfl rfl ?_
  show G X 0 0 41 [(11, 0), (0, a_s), (0, a_from), (0, a_count), (0, a_to), (0, (if (((((0 ≤ a_from) ∧ (a_from ≤ 31)) ∧ ((1 ≤ a_count) ∧ (a_count ≤ 32))) ∧ (a_from + a_count ≤ 32)) ∧ ((0 ≤ a_to) ∧ (a_to ≤ 31))) ∧ (a_to + a_count ≤ 32) then 1 else 0 : Int)), (1, 0), (1, 0), (1, 0)] [(0, (if (0 ≤ a_s) ∧ (a_s ≤ (s 102 0) - 1) then 1 else 0 : Int)), (11, 0)] (m, s)
  refine g_iload h 41 dX8_move_41 rfl ?_
  obtain ⟨k1, ek1, hF⟩ := bn_ex hF
  have J4 : ∀ (v2 : Int) (s1 : S2), (0 ≤ v2 ∧ v2 ≤ 1) → k1 v2 s1 = some (r0, s0) → G X 0 0 84 [(11, 0), (0, a_s), (0, a_from), (0, a_count), (0, a_to), (0, (if (((((0 ≤ a_from) ∧ (a_from ≤ 31)) ∧ ((1 ≤ a_count) ∧ (a_count ≤ 32))) ∧ (a_from + a_count ≤ 32)) ∧ ((0 ≤ a_to) ∧ (a_to ≤ 31))) ∧ (a_to + a_count ≤ 32) then 1 else 0 : Int)), (1, 0), (1, 0), (1, 0)] [(0, v2), (0, (if (((((0 ≤ a_from) ∧ (a_from ≤ 31)) ∧ ((1 ≤ a_count) ∧ (a_count ≤ 32))) ∧ (a_from + a_count ≤ 32)) ∧ ((0 ≤ a_to) ∧ (a_to ≤ 31))) ∧ (a_to + a_count ≤ 32) then 1 else 0 : Int)), (0, (if (0 ≤ a_s) ∧ (a_s ≤ (s 102 0) - 1) then 1 else 0 : Int)), (11, 0)] (m, s1) := by
    intro v2 s1 q1 hF
    rw [ek1] at hF
    obtain ⟨r3, s6, c3, hF⟩ := cb_some hF
    have t5 : 0 ≤ r3 ∧ r3 ≤ 1 := rgX8_asked__ c3
    refine g_callV h hE 84 dX8_move_84 (ctX8_asked__ hl c3) mwX8_asked__ kw_1168 (by decide) (by decide) rfl (Nat.le_of_ble_eq_true rfl) rfl (Nat.le_of_ble_eq_true rfl) ⟨Nat.le_of_ble_eq_true rfl, Nat.le_of_ble_eq_true rfl⟩ rfl rfl ?_
    show G X 0 0 87 [(11, 0), (0, a_s), (0, a_from), (0, a_count), (0, a_to), (0, (if (((((0 ≤ a_from) ∧ (a_from ≤ 31)) ∧ ((1 ≤ a_count) ∧ (a_count ≤ 32))) ∧ (a_from + a_count ≤ 32)) ∧ ((0 ≤ a_to) ∧ (a_to ≤ 31))) ∧ (a_to + a_count ≤ 32) then 1 else 0 : Int)), (1, 0), (1, 0), (1, 0)] [(0, r3)] (m, s6)
    refine g_if_ne h 87 92 (gRi (by omega)) dX8_move_87 (by decide) (fun h12 => ?_) (fun h12 => ?_)
    · have hF := ite_t h12 hF
      refine g_iconst h 92 dX8_move_92 ?_
      refine g_istore h 93 dX8_move_93 (Nat.le_of_ble_eq_true rfl) rfl (L' := [(11, 0), (0, a_s), (0, a_from), (0, a_count), (0, a_to), (0, (if (((((0 ≤ a_from) ∧ (a_from ≤ 31)) ∧ ((1 ≤ a_count) ∧ (a_count ≤ 32))) ∧ (a_from + a_count ≤ 32)) ∧ ((0 ≤ a_to) ∧ (a_to ≤ 31))) ∧ (a_to + a_count ≤ 32) then 1 else 0 : Int)), (0, 0), (1, 0), (1, 0)]) rfl ?_
      obtain ⟨f1, ef1, hF⟩ := glx1 hF
      have J15 : ∀ (n1 : Nat) (x_k1 : Int) (s7 : S2), (0 ≤ x_k1 ∧ x_k1 ≤ 2147483647) → gl1 n1 f1 x_k1 s7 = some (r0, s0) → G X 0 0 95 [(11, 0), (0, a_s), (0, a_from), (0, a_count), (0, a_to), (0, (if (((((0 ≤ a_from) ∧ (a_from ≤ 31)) ∧ ((1 ≤ a_count) ∧ (a_count ≤ 32))) ∧ (a_from + a_count ≤ 32)) ∧ ((0 ≤ a_to) ∧ (a_to ≤ 31))) ∧ (a_to + a_count ≤ 32) then 1 else 0 : Int)), (0, x_k1), (1, 0), (1, 0)] [] (m, s7) := by
        intro n1
        induction n1 with
        | zero => intro x_k1 s7 _ hF; exact (gl1_0 hF).elim
        | succ n1 ih1 =>
          intro x_k1 s7 q2 hF
          obtain ⟨k4, ek4, hF⟩ := glu1 hF ef1
          have J10 : x_k1 < a_count → G X 0 0 101 [(11, 0), (0, a_s), (0, a_from), (0, a_count), (0, a_to), (0, (if (((((0 ≤ a_from) ∧ (a_from ≤ 31)) ∧ ((1 ≤ a_count) ∧ (a_count ≤ 32))) ∧ (a_from + a_count ≤ 32)) ∧ ((0 ≤ a_to) ∧ (a_to ≤ 31))) ∧ (a_to + a_count ≤ 32) then 1 else 0 : Int)), (0, x_k1), (1, 0), (1, 0)] [] (m, s7) := by
            intro h14
            have hF := ite_t h14 hF
            refine g_bipush h 101 dX8_move_101 (by decide) ?_
            refine g_iload_n h 103 dX8_move_103 rfl ?_
            refine g_imul h 104 dX8_move_104 ?_
            refine g_iload_n h 105 dX8_move_105 rfl ?_
            refine g_iadd h 106 dX8_move_106 ?_
            refine g_iload h 107 dX8_move_107 rfl ?_
            refine g_iadd h 109 dX8_move_109 ?_
            refine g_istore h 110 dX8_move_110 (Nat.le_of_ble_eq_true rfl) rfl (L' := [(11, 0), (0, a_s), (0, a_from), (0, a_count), (0, a_to), (0, (if (((((0 ≤ a_from) ∧ (a_from ≤ 31)) ∧ ((1 ≤ a_count) ∧ (a_count ≤ 32))) ∧ (a_from + a_count ≤ 32)) ∧ ((0 ≤ a_to) ∧ (a_to ≤ 31))) ∧ (a_to + a_count ≤ 32) then 1 else 0 : Int)), (0, x_k1), (0, ((32 * a_s) + a_from) + x_k1), (1, 0)]) rfl ?_
            refine g_bipush h 112 dX8_move_112 (by decide) ?_
            refine g_iload_n h 114 dX8_move_114 rfl ?_
            refine g_imul h 115 dX8_move_115 ?_
            refine g_iload h 116 dX8_move_116 rfl ?_
            refine g_iadd h 118 dX8_move_118 ?_
            refine g_iload h 119 dX8_move_119 rfl ?_
            refine g_iadd h 121 dX8_move_121 ?_
            refine g_istore h 122 dX8_move_122 (Nat.le_of_ble_eq_true rfl) rfl (L' := [(11, 0), (0, a_s), (0, a_from), (0, a_count), (0, a_to), (0, (if (((((0 ≤ a_from) ∧ (a_from ≤ 31)) ∧ ((1 ≤ a_count) ∧ (a_count ≤ 32))) ∧ (a_from + a_count ≤ 32)) ∧ ((0 ≤ a_to) ∧ (a_to ≤ 31))) ∧ (a_to + a_count ≤ 32) then 1 else 0 : Int)), (0, x_k1), (0, ((32 * a_s) + a_from) + x_k1), (0, ((32 * a_s) + a_to) + x_k1)]) rfl ?_
            refine g_aload_nq h 124 dX8_move_124 rfl rfl ?_
            refine g_iload h 125 dX8_move_125 rfl ?_
            refine g_iload h 127 dX8_move_127 rfl ?_
            obtain ⟨r4, s8, c4, hF⟩ := cb_some hF
            refine g_callV h hE 129 dX8_move_129 (ctX8_copies hl c4) mwX8_copies kw_1232 (by decide) (by decide) rfl (Nat.le_of_ble_eq_true rfl) rfl (Nat.le_of_ble_eq_true rfl) ⟨Nat.le_of_ble_eq_true rfl, Nat.le_of_ble_eq_true rfl⟩ rfl rfl ?_
            show G X 0 0 132 [(11, 0), (0, a_s), (0, a_from), (0, a_count), (0, a_to), (0, (if (((((0 ≤ a_from) ∧ (a_from ≤ 31)) ∧ ((1 ≤ a_count) ∧ (a_count ≤ 32))) ∧ (a_from + a_count ≤ 32)) ∧ ((0 ≤ a_to) ∧ (a_to ≤ 31))) ∧ (a_to + a_count ≤ 32) then 1 else 0 : Int)), (0, x_k1), (0, ((32 * a_s) + a_from) + x_k1), (0, ((32 * a_s) + a_to) + x_k1)] [] (m, s8)
            refine g_aload_nq h 132 dX8_move_132 rfl rfl ?_
            refine gf_M_writable h 133 dX8_move_133 kw_1024 ?_
            refine g_iload h 136 dX8_move_136 rfl ?_
            obtain ⟨q3, hF⟩ := gd_some hF
            refine G_typ fun hT_s8 => ?_
            have t6 : 0 ≤ s8 118 (((32 * a_s) + a_from) + x_k1) ∧ s8 118 (((32 * a_s) + a_from) + x_k1) ≤ 1 := hT_s8.2 118 (((32 * a_s) + a_from) + x_k1)
            obtain ⟨q4, hF⟩ := gd_some hF
            refine g_aload_nq h 138 dX8_move_138 rfl rfl ?_
            refine gf_M_writable h 139 dX8_move_139 kw_1024 ?_
            refine g_iload h 142 dX8_move_142 rfl ?_
            refine al_M_writable h 144 dX8_move_144 (by omega) ?_
            obtain ⟨s9, es9, hF⟩ := bn_ex hF
            refine as_M_writable h 145 dX8_move_145 (by omega) (by omega) ?_
            rw [← es9]
            obtain ⟨k5, ek5, hF⟩ := bn_ex hF
            have J12 : ∀ (s10 : S2), k5 s10 = some (r0, s0) → G X 0 0 163 [(11, 0), (0, a_s), (0, a_from), (0, a_count), (0, a_to), (0, (if (((((0 ≤ a_from) ∧ (a_from ≤ 31)) ∧ ((1 ≤ a_count) ∧ (a_count ≤ 32))) ∧ (a_from + a_count ≤ 32)) ∧ ((0 ≤ a_to) ∧ (a_to ≤ 31))) ∧ (a_to + a_count ≤ 32) then 1 else 0 : Int)), (0, x_k1), (0, ((32 * a_s) + a_from) + x_k1), (0, ((32 * a_s) + a_to) + x_k1)] [] (m, s10) := by
              intro s10 hF
              rw [ek5] at hF
              refine g_aload_nq h 163 dX8_move_163 rfl rfl ?_
              refine g_iload h 164 dX8_move_164 rfl ?_
              obtain ⟨r6, s12, c6, hF⟩ := cb_some hF
              refine g_callV h hE 166 dX8_move_166 (ctX8_unblocks hl c6) mwX8_unblocks kw_1196 (by decide) (by decide) rfl (Nat.le_of_ble_eq_true rfl) rfl (Nat.le_of_ble_eq_true rfl) ⟨Nat.le_of_ble_eq_true rfl, Nat.le_of_ble_eq_true rfl⟩ rfl rfl ?_
              show G X 0 0 169 [(11, 0), (0, a_s), (0, a_from), (0, a_count), (0, a_to), (0, (if (((((0 ≤ a_from) ∧ (a_from ≤ 31)) ∧ ((1 ≤ a_count) ∧ (a_count ≤ 32))) ∧ (a_from + a_count ≤ 32)) ∧ ((0 ≤ a_to) ∧ (a_to ≤ 31))) ∧ (a_to + a_count ≤ 32) then 1 else 0 : Int)), (0, x_k1), (0, ((32 * a_s) + a_from) + x_k1), (0, ((32 * a_s) + a_to) + x_k1)] [] (m, s12)
              refine g_aload_nq h 169 dX8_move_169 rfl rfl ?_
              refine gf_M_rights h 170 dX8_move_170 kw_1017 ?_
              refine g_iload h 173 dX8_move_173 rfl ?_
              refine g_iconst h 175 dX8_move_175 ?_
              obtain ⟨s13, es13, hF⟩ := bn_ex hF
              refine as_M_rights h 176 dX8_move_176 (by omega) (by omega) ?_
              rw [← es13]
              refine g_aload_nq h 177 dX8_move_177 rfl rfl ?_
              refine gf_M_state h 178 dX8_move_178 kw_1022 ?_
              refine g_iload h 181 dX8_move_181 rfl ?_
              refine g_iconst h 183 dX8_move_183 ?_
              obtain ⟨s14, es14, hF⟩ := bn_ex hF
              refine as_M_state h 184 dX8_move_184 (by omega) (by omega) ?_
              rw [← es14]
              refine g_aload_nq h 185 dX8_move_185 rfl rfl ?_
              refine g_iload h 186 dX8_move_186 rfl ?_
              obtain ⟨r7, s15, c7, hF⟩ := cb_some hF
              refine g_callV h hE 188 dX8_move_188 (ctX8_forgets hl c7) mwX8_forgets kw_1216 (by decide) (by decide) rfl (Nat.le_of_ble_eq_true rfl) rfl (Nat.le_of_ble_eq_true rfl) ⟨Nat.le_of_ble_eq_true rfl, Nat.le_of_ble_eq_true rfl⟩ rfl rfl ?_
              show G X 0 0 191 [(11, 0), (0, a_s), (0, a_from), (0, a_count), (0, a_to), (0, (if (((((0 ≤ a_from) ∧ (a_from ≤ 31)) ∧ ((1 ≤ a_count) ∧ (a_count ≤ 32))) ∧ (a_from + a_count ≤ 32)) ∧ ((0 ≤ a_to) ∧ (a_to ≤ 31))) ∧ (a_to + a_count ≤ 32) then 1 else 0 : Int)), (0, x_k1), (0, ((32 * a_s) + a_from) + x_k1), (0, ((32 * a_s) + a_to) + x_k1)] [] (m, s15)
              refine g_aload_nq h 191 dX8_move_191 rfl rfl ?_
              refine g_iload h 192 dX8_move_192 rfl ?_
              obtain ⟨r8, s16, c8, hF⟩ := cb_some hF
              refine g_callV h hE 194 dX8_move_194 (ctX8_forgets hl c8) mwX8_forgets kw_1216 (by decide) (by decide) rfl (Nat.le_of_ble_eq_true rfl) rfl (Nat.le_of_ble_eq_true rfl) ⟨Nat.le_of_ble_eq_true rfl, Nat.le_of_ble_eq_true rfl⟩ rfl rfl ?_
              show G X 0 0 197 [(11, 0), (0, a_s), (0, a_from), (0, a_count), (0, a_to), (0, (if (((((0 ≤ a_from) ∧ (a_from ≤ 31)) ∧ ((1 ≤ a_count) ∧ (a_count ≤ 32))) ∧ (a_from + a_count ≤ 32)) ∧ ((0 ≤ a_to) ∧ (a_to ≤ 31))) ∧ (a_to + a_count ≤ 32) then 1 else 0 : Int)), (0, x_k1), (0, ((32 * a_s) + a_from) + x_k1), (0, ((32 * a_s) + a_to) + x_k1)] [] (m, s16)
              refine g_iinc h 197 dX8_move_197 rfl rfl (L' := [(11, 0), (0, a_s), (0, a_from), (0, a_count), (0, a_to), (0, (if (((((0 ≤ a_from) ∧ (a_from ≤ 31)) ∧ ((1 ≤ a_count) ∧ (a_count ≤ 32))) ∧ (a_from + a_count ≤ 32)) ∧ ((0 ≤ a_to) ∧ (a_to ≤ 31))) ∧ (a_to + a_count ≤ 32) then 1 else 0 : Int)), (0, x_k1 + 1), (0, ((32 * a_s) + a_from) + x_k1), (0, ((32 * a_s) + a_to) + x_k1)]) rfl ?_
              refine g_goto h 200 95 dX8_move_200 (by decide) ?_
              refine G_weak (L' := [(11, 0), (0, a_s), (0, a_from), (0, a_count), (0, a_to), (0, (if (((((0 ≤ a_from) ∧ (a_from ≤ 31)) ∧ ((1 ≤ a_count) ∧ (a_count ≤ 32))) ∧ (a_from + a_count ≤ 32)) ∧ ((0 ≤ a_to) ∧ (a_to ≤ 31))) ∧ (a_to + a_count ≤ 32) then 1 else 0 : Int)), (0, x_k1 + 1), (1, 0), (1, 0)]) ⟨Or.inr rfl, Or.inr rfl, Or.inr rfl, Or.inr rfl, Or.inr rfl, Or.inr rfl, Or.inr rfl, Or.inl rfl, Or.inl rfl, trivial⟩ ?_
              rw [ek4] at hF
              exact ih1 _ _ (by omega) hF
            refine G_typ fun hT_s9 => ?_
            have t7 : 0 ≤ s9 116 (((32 * a_s) + a_from) + x_k1) ∧ s9 116 (((32 * a_s) + a_from) + x_k1) ≤ 2 := hT_s9.2 116 (((32 * a_s) + a_from) + x_k1)
            have J13 : s9 116 (((32 * a_s) + a_from) + x_k1) = 1 → G X 0 0 157 [(11, 0), (0, a_s), (0, a_from), (0, a_count), (0, a_to), (0, (if (((((0 ≤ a_from) ∧ (a_from ≤ 31)) ∧ ((1 ≤ a_count) ∧ (a_count ≤ 32))) ∧ (a_from + a_count ≤ 32)) ∧ ((0 ≤ a_to) ∧ (a_to ≤ 31))) ∧ (a_to + a_count ≤ 32) then 1 else 0 : Int)), (0, x_k1), (0, ((32 * a_s) + a_from) + x_k1), (0, ((32 * a_s) + a_to) + x_k1)] [] (m, s9) := by
              intro h16
              have hF := ite_t h16 hF
              refine g_aload_nq h 157 dX8_move_157 rfl rfl ?_
              refine g_iload h 158 dX8_move_158 rfl ?_
              obtain ⟨r5, s11, c5, hF⟩ := cb_some hF
              refine g_callV h hE 160 dX8_move_160 (ctX8_tells hl c5) mwX8_tells kw_1200 (by decide) (by decide) rfl (Nat.le_of_ble_eq_true rfl) rfl (Nat.le_of_ble_eq_true rfl) ⟨Nat.le_of_ble_eq_true rfl, Nat.le_of_ble_eq_true rfl⟩ rfl rfl ?_
              show G X 0 0 163 [(11, 0), (0, a_s), (0, a_from), (0, a_count), (0, a_to), (0, (if (((((0 ≤ a_from) ∧ (a_from ≤ 31)) ∧ ((1 ≤ a_count) ∧ (a_count ≤ 32))) ∧ (a_from + a_count ≤ 32)) ∧ ((0 ≤ a_to) ∧ (a_to ≤ 31))) ∧ (a_to + a_count ≤ 32) then 1 else 0 : Int)), (0, x_k1), (0, ((32 * a_s) + a_from) + x_k1), (0, ((32 * a_s) + a_to) + x_k1)] [] (m, s11)
              exact J12 _ hF
            have J14 : ¬ (s9 116 (((32 * a_s) + a_from) + x_k1) = 1) → G X 0 0 163 [(11, 0), (0, a_s), (0, a_from), (0, a_count), (0, a_to), (0, (if (((((0 ≤ a_from) ∧ (a_from ≤ 31)) ∧ ((1 ≤ a_count) ∧ (a_count ≤ 32))) ∧ (a_from + a_count ≤ 32)) ∧ ((0 ≤ a_to) ∧ (a_to ≤ 31))) ∧ (a_to + a_count ≤ 32) then 1 else 0 : Int)), (0, x_k1), (0, ((32 * a_s) + a_from) + x_k1), (0, ((32 * a_s) + a_to) + x_k1)] [] (m, s9) := by
              intro h17
              have hF := ite_f h17 hF
              exact J12 _ hF
            refine g_aload_nq h 146 dX8_move_146 rfl rfl ?_
            refine gf_M_state h 147 dX8_move_147 kw_1022 ?_
            refine g_iload h 150 dX8_move_150 rfl ?_
            refine al_M_state h 152 dX8_move_152 (by omega) ?_
            refine g_iconst h 153 dX8_move_153 ?_
            refine g_icmp_ne h 154 163 (gRi (by omega)) (gRi (by omega)) dX8_move_154 (by decide) (fun h15 => ?_) (fun h15 => ?_)
            · exact J14 h15
            · exact J13 h15
          have J11 : ¬ (x_k1 < a_count) → G X 0 0 203 [(11, 0), (0, a_s), (0, a_from), (0, a_count), (0, a_to), (0, (if (((((0 ≤ a_from) ∧ (a_from ≤ 31)) ∧ ((1 ≤ a_count) ∧ (a_count ≤ 32))) ∧ (a_from + a_count ≤ 32)) ∧ ((0 ≤ a_to) ∧ (a_to ≤ 31))) ∧ (a_to + a_count ≤ 32) then 1 else 0 : Int)), (0, x_k1), (1, 0), (1, 0)] [] (m, s7) := by
            intro h18
            have hF := ite_f h18 hF
            refine g_aload_nq h 203 dX8_move_203 rfl rfl ?_
            refine g_iload_n h 204 dX8_move_204 rfl ?_
            obtain ⟨r9, s17, c9, hF⟩ := cb_some hF
            have t8 : 0 ≤ r9 ∧ r9 ≤ 32 := rgX8_regionsOf c9
            refine g_callV h hE 205 dX8_move_205 (ctX8_regionsOf hl c9) mwX8_regionsOf kw_1176 (by decide) (by decide) rfl (Nat.le_of_ble_eq_true rfl) rfl (Nat.le_of_ble_eq_true rfl) ⟨Nat.le_of_ble_eq_true rfl, Nat.le_of_ble_eq_true rfl⟩ rfl rfl ?_
            show G X 0 0 208 [(11, 0), (0, a_s), (0, a_from), (0, a_count), (0, a_to), (0, (if (((((0 ≤ a_from) ∧ (a_from ≤ 31)) ∧ ((1 ≤ a_count) ∧ (a_count ≤ 32))) ∧ (a_from + a_count ≤ 32)) ∧ ((0 ≤ a_to) ∧ (a_to ≤ 31))) ∧ (a_to + a_count ≤ 32) then 1 else 0 : Int)), (0, x_k1), (1, 0), (1, 0)] [(0, r9)] (m, s17)
            obtain ⟨e1, e2⟩ := some_2 hF
            rw [← e1, ← e2] at hE
            exact g_iret h 208 dX8_move_208 hE rfl rfl ⟨(Nat.le_of_ble_eq_true rfl), (Nat.le_of_ble_eq_true rfl)⟩
          refine g_iload h 95 dX8_move_95 rfl ?_
          refine g_iload_n h 97 dX8_move_97 rfl ?_
          refine g_icmp_ge h 98 203 (gRi (by omega)) (gRi (by omega)) dX8_move_98 (by decide) (fun h13 => ?_) (fun h13 => ?_)
          · exact J11 (Int.not_lt.mpr h13)
          · exact J10 h13
      exact J15 _ _ _ (by omega) hF
    · have hF := ite_f (fun q => q h12) hF
      refine g_iconst h 90 dX8_move_90 ?_
      obtain ⟨e1, e2⟩ := some_2 hF
      rw [← e1, ← e2] at hE
      exact g_iret h 91 dX8_move_91 hE rfl rfl ⟨(Nat.le_of_ble_eq_true rfl), (Nat.le_of_ble_eq_true rfl)⟩
  obtain ⟨k2, ek2, hF⟩ := bn_ex hF
  have J5 : ∀ (s2 : S2), k2 s2 = some (r0, s0) → G X 0 0 79 [(11, 0), (0, a_s), (0, a_from), (0, a_count), (0, a_to), (0, (if (((((0 ≤ a_from) ∧ (a_from ≤ 31)) ∧ ((1 ≤ a_count) ∧ (a_count ≤ 32))) ∧ (a_from + a_count ≤ 32)) ∧ ((0 ≤ a_to) ∧ (a_to ≤ 31))) ∧ (a_to + a_count ≤ 32) then 1 else 0 : Int)), (1, 0), (1, 0), (1, 0)] [(0, (if (((((0 ≤ a_from) ∧ (a_from ≤ 31)) ∧ ((1 ≤ a_count) ∧ (a_count ≤ 32))) ∧ (a_from + a_count ≤ 32)) ∧ ((0 ≤ a_to) ∧ (a_to ≤ 31))) ∧ (a_to + a_count ≤ 32) then 1 else 0 : Int)), (0, (if (0 ≤ a_s) ∧ (a_s ≤ (s 102 0) - 1) then 1 else 0 : Int)), (11, 0)] (m, s2) := by
    intro s2 hF
    rw [ek2] at hF
    refine g_iconst h 79 dX8_move_79 ?_
    refine g_goto h 80 84 dX8_move_80 (by decide) ?_
    exact J4 _ _ (by omega) hF
  obtain ⟨k3, ek3, hF⟩ := bn_ex hF
  have J6 : ∀ (s3 : S2), k3 s3 = some (r0, s0) → G X 0 0 83 [(11, 0), (0, a_s), (0, a_from), (0, a_count), (0, a_to), (0, (if (((((0 ≤ a_from) ∧ (a_from ≤ 31)) ∧ ((1 ≤ a_count) ∧ (a_count ≤ 32))) ∧ (a_from + a_count ≤ 32)) ∧ ((0 ≤ a_to) ∧ (a_to ≤ 31))) ∧ (a_to + a_count ≤ 32) then 1 else 0 : Int)), (1, 0), (1, 0), (1, 0)] [(0, (if (((((0 ≤ a_from) ∧ (a_from ≤ 31)) ∧ ((1 ≤ a_count) ∧ (a_count ≤ 32))) ∧ (a_from + a_count ≤ 32)) ∧ ((0 ≤ a_to) ∧ (a_to ≤ 31))) ∧ (a_to + a_count ≤ 32) then 1 else 0 : Int)), (0, (if (0 ≤ a_s) ∧ (a_s ≤ (s 102 0) - 1) then 1 else 0 : Int)), (11, 0)] (m, s3) := by
    intro s3 hF
    rw [ek3] at hF
    refine g_iconst h 83 dX8_move_83 ?_
    exact J4 _ _ (by omega) hF
  have t2 : 0 ≤ s 106 a_s ∧ s 106 a_s ≤ 1 := hT_s.2 106 a_s
  have J7 : (((0 ≤ a_s) ∧ (a_s ≤ (s 102 0) - 1)) ∧ (s 106 a_s ≠ 0)) ∧ ((((((0 ≤ a_from) ∧ (a_from ≤ 31)) ∧ ((1 ≤ a_count) ∧ (a_count ≤ 32))) ∧ (a_from + a_count ≤ 32)) ∧ ((0 ≤ a_to) ∧ (a_to ≤ 31))) ∧ (a_to + a_count ≤ 32)) → G X 0 0 56 [(11, 0), (0, a_s), (0, a_from), (0, a_count), (0, a_to), (0, (if (((((0 ≤ a_from) ∧ (a_from ≤ 31)) ∧ ((1 ≤ a_count) ∧ (a_count ≤ 32))) ∧ (a_from + a_count ≤ 32)) ∧ ((0 ≤ a_to) ∧ (a_to ≤ 31))) ∧ (a_to + a_count ≤ 32) then 1 else 0 : Int)), (1, 0), (1, 0), (1, 0)] [(0, (if (((((0 ≤ a_from) ∧ (a_from ≤ 31)) ∧ ((1 ≤ a_count) ∧ (a_count ≤ 32))) ∧ (a_from + a_count ≤ 32)) ∧ ((0 ≤ a_to) ∧ (a_to ≤ 31))) ∧ (a_to + a_count ≤ 32) then 1 else 0 : Int)), (0, (if (0 ≤ a_s) ∧ (a_s ≤ (s 102 0) - 1) then 1 else 0 : Int)), (11, 0)] (m, s) := by
    intro h8
    have hF := ite_t h8 hF
    refine g_aload_nq h 56 dX8_move_56 rfl rfl ?_
    refine g_iload_n h 57 dX8_move_57 rfl ?_
    refine g_iload_n h 58 dX8_move_58 rfl ?_
    refine g_iload_n h 59 dX8_move_59 rfl ?_
    refine g_iconst h 60 dX8_move_60 ?_
    obtain ⟨r1, s4, c1, hF⟩ := cb_some hF
    have t3 : 0 ≤ r1 ∧ r1 ≤ 1 := rgX8_areMapped c1
    refine g_callV h hE 61 dX8_move_61 (ctX8_areMapped hl c1) mwX8_areMapped kw_1164 (by decide) (by decide) rfl (Nat.le_of_ble_eq_true rfl) rfl (Nat.le_of_ble_eq_true rfl) ⟨Nat.le_of_ble_eq_true rfl, Nat.le_of_ble_eq_true rfl⟩ rfl rfl ?_
    show G X 0 0 64 [(11, 0), (0, a_s), (0, a_from), (0, a_count), (0, a_to), (0, (if (((((0 ≤ a_from) ∧ (a_from ≤ 31)) ∧ ((1 ≤ a_count) ∧ (a_count ≤ 32))) ∧ (a_from + a_count ≤ 32)) ∧ ((0 ≤ a_to) ∧ (a_to ≤ 31))) ∧ (a_to + a_count ≤ 32) then 1 else 0 : Int)), (1, 0), (1, 0), (1, 0)] [(0, r1), (0, (if (((((0 ≤ a_from) ∧ (a_from ≤ 31)) ∧ ((1 ≤ a_count) ∧ (a_count ≤ 32))) ∧ (a_from + a_count ≤ 32)) ∧ ((0 ≤ a_to) ∧ (a_to ≤ 31))) ∧ (a_to + a_count ≤ 32) then 1 else 0 : Int)), (0, (if (0 ≤ a_s) ∧ (a_s ≤ (s 102 0) - 1) then 1 else 0 : Int)), (11, 0)] (m, s4)
    refine g_if_eq h 64 83 (gRi (by omega)) dX8_move_64 (by decide) (fun h9 => ?_) (fun h9 => ?_)
    · have hF := ite_f (fun q => q h9) hF
      exact J6 _ hF
    · have hF := ite_t h9 hF
      refine g_aload_nq h 67 dX8_move_67 rfl rfl ?_
      refine g_iload_n h 68 dX8_move_68 rfl ?_
      refine g_iload h 69 dX8_move_69 rfl ?_
      refine g_iload_n h 71 dX8_move_71 rfl ?_
      refine g_iconst h 72 dX8_move_72 ?_
      obtain ⟨r2, s5, c2, hF⟩ := cb_some hF
      have t4 : 0 ≤ r2 ∧ r2 ≤ 1 := rgX8_areMapped c2
      refine g_callV h hE 73 dX8_move_73 (ctX8_areMapped hl c2) mwX8_areMapped kw_1164 (by decide) (by decide) rfl (Nat.le_of_ble_eq_true rfl) rfl (Nat.le_of_ble_eq_true rfl) ⟨Nat.le_of_ble_eq_true rfl, Nat.le_of_ble_eq_true rfl⟩ rfl rfl ?_
      show G X 0 0 76 [(11, 0), (0, a_s), (0, a_from), (0, a_count), (0, a_to), (0, (if (((((0 ≤ a_from) ∧ (a_from ≤ 31)) ∧ ((1 ≤ a_count) ∧ (a_count ≤ 32))) ∧ (a_from + a_count ≤ 32)) ∧ ((0 ≤ a_to) ∧ (a_to ≤ 31))) ∧ (a_to + a_count ≤ 32) then 1 else 0 : Int)), (1, 0), (1, 0), (1, 0)] [(0, r2), (0, (if (((((0 ≤ a_from) ∧ (a_from ≤ 31)) ∧ ((1 ≤ a_count) ∧ (a_count ≤ 32))) ∧ (a_from + a_count ≤ 32)) ∧ ((0 ≤ a_to) ∧ (a_to ≤ 31))) ∧ (a_to + a_count ≤ 32) then 1 else 0 : Int)), (0, (if (0 ≤ a_s) ∧ (a_s ≤ (s 102 0) - 1) then 1 else 0 : Int)), (11, 0)] (m, s5)
      refine g_if_eq h 76 83 (gRi (by omega)) dX8_move_76 (by decide) (fun h10 => ?_) (fun h10 => ?_)
      · have hF := ite_f (fun q => q h10) hF
        exact J6 _ hF
      · have hF := ite_t h10 hF
        exact J5 _ hF
  have J8 : ¬ ((((0 ≤ a_s) ∧ (a_s ≤ (s 102 0) - 1)) ∧ (s 106 a_s ≠ 0)) ∧ ((((((0 ≤ a_from) ∧ (a_from ≤ 31)) ∧ ((1 ≤ a_count) ∧ (a_count ≤ 32))) ∧ (a_from + a_count ≤ 32)) ∧ ((0 ≤ a_to) ∧ (a_to ≤ 31))) ∧ (a_to + a_count ≤ 32))) → G X 0 0 83 [(11, 0), (0, a_s), (0, a_from), (0, a_count), (0, a_to), (0, (if (((((0 ≤ a_from) ∧ (a_from ≤ 31)) ∧ ((1 ≤ a_count) ∧ (a_count ≤ 32))) ∧ (a_from + a_count ≤ 32)) ∧ ((0 ≤ a_to) ∧ (a_to ≤ 31))) ∧ (a_to + a_count ≤ 32) then 1 else 0 : Int)), (1, 0), (1, 0), (1, 0)] [(0, (if (((((0 ≤ a_from) ∧ (a_from ≤ 31)) ∧ ((1 ≤ a_count) ∧ (a_count ≤ 32))) ∧ (a_from + a_count ≤ 32)) ∧ ((0 ≤ a_to) ∧ (a_to ≤ 31))) ∧ (a_to + a_count ≤ 32) then 1 else 0 : Int)), (0, (if (0 ≤ a_s) ∧ (a_s ≤ (s 102 0) - 1) then 1 else 0 : Int)), (11, 0)] (m, s) := by
    intro h11
    have hF := ite_f h11 hF
    exact J6 _ hF
  refine g_aload_nq h 43 dX8_move_43 rfl rfl ?_
  refine g_iload_n h 44 dX8_move_44 rfl ?_
  refine g_callV h hE 45 dX8_move_45 (cpX8_isAlive (a_s := a_s) hl (by omega)) mwX8_isAlive kw_1160 (by decide) (by decide) rfl (Nat.le_of_ble_eq_true rfl) rfl (Nat.le_of_ble_eq_true rfl) ⟨Nat.le_of_ble_eq_true rfl, Nat.le_of_ble_eq_true rfl⟩ rfl rfl ?_
  show G X 0 0 48 [(11, 0), (0, a_s), (0, a_from), (0, a_count), (0, a_to), (0, (if (((((0 ≤ a_from) ∧ (a_from ≤ 31)) ∧ ((1 ≤ a_count) ∧ (a_count ≤ 32))) ∧ (a_from + a_count ≤ 32)) ∧ ((0 ≤ a_to) ∧ (a_to ≤ 31))) ∧ (a_to + a_count ≤ 32) then 1 else 0 : Int)), (1, 0), (1, 0), (1, 0)] [(0, (if ((0 ≤ a_s) ∧ (a_s ≤ (s 102 0) - 1)) ∧ (s 106 a_s ≠ 0) then 1 else 0 : Int)), (0, (if (((((0 ≤ a_from) ∧ (a_from ≤ 31)) ∧ ((1 ≤ a_count) ∧ (a_count ≤ 32))) ∧ (a_from + a_count ≤ 32)) ∧ ((0 ≤ a_to) ∧ (a_to ≤ 31))) ∧ (a_to + a_count ≤ 32) then 1 else 0 : Int)), (0, (if (0 ≤ a_s) ∧ (a_s ≤ (s 102 0) - 1) then 1 else 0 : Int)), (11, 0)] (m, s)
  refine g_if_eq h 48 83 (gRi gR_ite) dX8_move_48 (by decide) (fun h6 => ?_) (fun h6 => ?_)
  · exact J8 (fun q => (iz_f h6) q.1)
  · refine g_iload h 51 dX8_move_51 rfl ?_
    refine g_if_eq h 53 83 (gRi gR_ite) dX8_move_53 (by decide) (fun h7 => ?_) (fun h7 => ?_)
    · exact J8 (fun q => (iz_f h7) q.2)
    · exact J7 ⟨(iz_t h6), (iz_t h7)⟩
-- PagewrightModel.protect
def FX8_protect (a_s a_from a_count a_r : Int) (s : S2) : Option (Int × S2) :=
  rgd (-2147483648) 2147483647 <| gd ((-2147483648) ≤ a_s ∧ a_s ≤ 2147483647) <| gd ((-2147483648) ≤ a_from ∧ a_from ≤ 2147483647) <| gd ((-2147483648) ≤ a_count ∧ a_count ≤ 2147483647) <| gd ((-2147483648) ≤ a_r ∧ a_r ≤ 2147483647) <| cb (FX8_asked__ (if (0 ≤ a_s) ∧ (a_s ≤ (s 102 0) - 1) then 1 else 0 : Int) (if ((((0 ≤ a_from) ∧ (a_from ≤ 31)) ∧ ((1 ≤ a_count) ∧ (a_count ≤ 32))) ∧ (a_from + a_count ≤ 32)) ∧ ((1 ≤ a_r) ∧ (a_r ≤ 3)) then 1 else 0 : Int) (if ((0 ≤ a_s) ∧ (a_s ≤ (s 102 0) - 1)) ∧ (s 106 a_s ≠ 0) then 1 else 0 : Int) s) fun r1 s1 => if r1 ≠ 0 then gd ((-2147483648) ≤ (32 * a_s) + a_from ∧ (32 * a_s) + a_from ≤ 2147483647) <| gl1 1000 (fun k1 (x_e1 : Int) (s2 : S2) => gd ((-2147483648) ≤ ((32 * a_s) + a_from) + a_count ∧ ((32 * a_s) + a_from) + a_count ≤ 2147483647) <| if x_e1 < ((32 * a_s) + a_from) + a_count then bn (fun (s3 : S2) => k1 (x_e1 + 1) s3) fun k2 => gd (0 ≤ x_e1 ∧ x_e1 ≤ 191) <| if 0 < s2 111 x_e1 then cb (FX8_unwrites x_e1 s2) fun r2 s4 => cb (FX8_unblocks x_e1 s4) fun r3 s5 => gd (0 ≤ a_r ∧ a_r ≤ 3) <| bn (upd2 s5 111 x_e1 a_r) fun s6 => k2 s6 else k2 s2 else cb (FX8_regionsOf a_s s2) fun r4 s7 => some (r4, s7)) ((32 * a_s) + a_from) s1 else some (0, s1)
theorem rgX8_protect {a_s a_from a_count a_r : Int} {s s0 : S2} {r0 : Int} (hF : FX8_protect a_s a_from a_count a_r s = some (r0, s0)) : (-2147483648) ≤ r0 ∧ r0 ≤ 2147483647 := (rgd_some hF).2
set_option maxRecDepth 100000 in
set_option maxHeartbeats 4000000 in
theorem ctX8_protect {l : Launch} {w : gW} {bs : Nat} (hl : l.stackTraces = false) {a_s a_from a_count a_r : Int} {s m s0 : S2} {r0 : Int} (hF : FX8_protect a_s a_from a_count a_r s = some (r0, s0)) : gMet l w bs yX8_protect cX8_protect 6 (some FieldType.int) 3 0 [(11, 0), (0, a_s), (0, a_from), (0, a_count), (0, a_r)] (m, s) 0 (some (0, r0)) (m, s0) := by
  unfold FX8_protect at hF
  obtain ⟨hF, hr⟩ := rgd_some hF
  obtain ⟨q_a_s, hF⟩ := gd_some hF
  obtain ⟨q_a_from, hF⟩ := gd_some hF
  obtain ⟨q_a_count, hF⟩ := gd_some hF
  obtain ⟨q_a_r, hF⟩ := gd_some hF
  refine g_start hl (by decide) (Nat.le_of_ble_eq_true rfl) rfl fun X h hE => ?_
  have h : gOk X "PagewrightModel" cX8_protect 6 3 0 0 := h
  have hE : gEnd X l w bs 0 (some FieldType.int) 0 (some (0, r0)) (m, s0) := hE
  show G X 0 0 0 [(11, 0), (0, a_s), (0, a_from), (0, a_count), (0, a_r), (1, 0)] [] (m, s)
  refine g_aload_nq h 0 dX8_protect_0 rfl rfl ?_
  refine G_typ fun hT_s => ?_
  have t1 : 0 ≤ s 102 0 ∧ s 102 0 ≤ 6 := hT_s.2 102 0
  refine g_aload_nq h 1 dX8_protect_1 rfl rfl ?_
  refine g_iload_n h 2 dX8_protect_2 rfl ?_
  refine g_callV h hE 3 dX8_protect_3 (cpX8_isSpace (a_s := a_s) hl (by omega)) mwX8_isSpace kw_1156 (by decide) (by decide) rfl (Nat.le_of_ble_eq_true rfl) rfl (Nat.le_of_ble_eq_true rfl) ⟨Nat.le_of_ble_eq_true rfl, Nat.le_of_ble_eq_true rfl⟩ rfl rfl ?_
  show G X 0 0 6 [(11, 0), (0, a_s), (0, a_from), (0, a_count), (0, a_r), (1, 0)] [(0, (if (0 ≤ a_s) ∧ (a_s ≤ (s 102 0) - 1) then 1 else 0 : Int)), (11, 0)] (m, s)
  suffices J1 : ∀ v1 : Int, v1 = (if ((((0 ≤ a_from) ∧ (a_from ≤ 31)) ∧ ((1 ≤ a_count) ∧ (a_count ≤ 32))) ∧ (a_from + a_count ≤ 32)) ∧ ((1 ≤ a_r) ∧ (a_r ≤ 3)) then 1 else 0 : Int) → G X 0 0 29 [(11, 0), (0, a_s), (0, a_from), (0, a_count), (0, a_r), (1, 0)] [(0, v1), (0, (if (0 ≤ a_s) ∧ (a_s ≤ (s 102 0) - 1) then 1 else 0 : Int)), (11, 0)] (m, s) by
    have J2 : ((((0 ≤ a_from) ∧ (a_from ≤ 31)) ∧ ((1 ≤ a_count) ∧ (a_count ≤ 32))) ∧ (a_from + a_count ≤ 32)) ∧ ((1 ≤ a_r) ∧ (a_r ≤ 3)) → G X 0 0 24 [(11, 0), (0, a_s), (0, a_from), (0, a_count), (0, a_r), (1, 0)] [(0, (if (0 ≤ a_s) ∧ (a_s ≤ (s 102 0) - 1) then 1 else 0 : Int)), (11, 0)] (m, s) := by
      intro h3
      refine g_iconst h 24 dX8_protect_24 ?_
      refine g_goto h 25 29 dX8_protect_25 (by decide) ?_
      exact J1 _ (if_pos h3).symm
    have J3 : ¬ (((((0 ≤ a_from) ∧ (a_from ≤ 31)) ∧ ((1 ≤ a_count) ∧ (a_count ≤ 32))) ∧ (a_from + a_count ≤ 32)) ∧ ((1 ≤ a_r) ∧ (a_r ≤ 3))) → G X 0 0 28 [(11, 0), (0, a_s), (0, a_from), (0, a_count), (0, a_r), (1, 0)] [(0, (if (0 ≤ a_s) ∧ (a_s ≤ (s 102 0) - 1) then 1 else 0 : Int)), (11, 0)] (m, s) := by
      intro h4
      refine g_iconst h 28 dX8_protect_28 ?_
      exact J1 _ (if_neg h4).symm
    refine g_iload_n h 6 dX8_protect_6 rfl ?_
    refine g_iload_n h 7 dX8_protect_7 rfl ?_
    refine g_callS h hE 8 dX8_protect_8 (cpX8_isRow (a_from := a_from) (a_count := a_count) hl (by omega) (by omega)) mwX8_isRow kw_1153 rfl (Nat.le_of_ble_eq_true rfl) rfl (Nat.le_of_ble_eq_true rfl) ⟨Nat.le_of_ble_eq_true rfl, Nat.le_of_ble_eq_true rfl⟩ rfl rfl ?_
    show G X 0 0 11 [(11, 0), (0, a_s), (0, a_from), (0, a_count), (0, a_r), (1, 0)] [(0, (if (((0 ≤ a_from) ∧ (a_from ≤ 31)) ∧ ((1 ≤ a_count) ∧ (a_count ≤ 32))) ∧ (a_from + a_count ≤ 32) then 1 else 0 : Int)), (0, (if (0 ≤ a_s) ∧ (a_s ≤ (s 102 0) - 1) then 1 else 0 : Int)), (11, 0)] (m, s)
    refine g_if_eq h 11 28 (gRi gR_ite) dX8_protect_11 (by decide) (fun h1 => ?_) (fun h1 => ?_)
    · exact J3 (fun q => (iz_f h1) q.1)
    · refine g_iload h 14 dX8_protect_14 rfl ?_
      refine g_iconst h 16 dX8_protect_16 ?_
      refine g_iconst h 17 dX8_protect_17 ?_
      refine g_callS h hE 18 dX8_protect_18 (cpX8_in (a_v := a_r) (a_low := 1) (a_high := 3) hl (by omega) (by omega) (by omega)) mwX8_in kw_1142 rfl (Nat.le_of_ble_eq_true rfl) rfl (Nat.le_of_ble_eq_true rfl) ⟨Nat.le_of_ble_eq_true rfl, Nat.le_of_ble_eq_true rfl⟩ rfl rfl ?_
      show G X 0 0 21 [(11, 0), (0, a_s), (0, a_from), (0, a_count), (0, a_r), (1, 0)] [(0, (if (1 ≤ a_r) ∧ (a_r ≤ 3) then 1 else 0 : Int)), (0, (if (0 ≤ a_s) ∧ (a_s ≤ (s 102 0) - 1) then 1 else 0 : Int)), (11, 0)] (m, s)
      refine g_if_eq h 21 28 (gRi gR_ite) dX8_protect_21 (by decide) (fun h2 => ?_) (fun h2 => ?_)
      · exact J3 (fun q => (iz_f h2) q.2)
      · exact J2 ⟨(iz_t h1), (iz_t h2)⟩
  intro v1 e1
  subst e1
  have t2 : 0 ≤ s 106 a_s ∧ s 106 a_s ≤ 1 := hT_s.2 106 a_s
  refine g_aload_nq h 29 dX8_protect_29 rfl rfl ?_
  refine g_iload_n h 30 dX8_protect_30 rfl ?_
  refine g_callV h hE 31 dX8_protect_31 (cpX8_isAlive (a_s := a_s) hl (by omega)) mwX8_isAlive kw_1160 (by decide) (by decide) rfl (Nat.le_of_ble_eq_true rfl) rfl (Nat.le_of_ble_eq_true rfl) ⟨Nat.le_of_ble_eq_true rfl, Nat.le_of_ble_eq_true rfl⟩ rfl rfl ?_
  show G X 0 0 34 [(11, 0), (0, a_s), (0, a_from), (0, a_count), (0, a_r), (1, 0)] [(0, (if ((0 ≤ a_s) ∧ (a_s ≤ (s 102 0) - 1)) ∧ (s 106 a_s ≠ 0) then 1 else 0 : Int)), (0, (if ((((0 ≤ a_from) ∧ (a_from ≤ 31)) ∧ ((1 ≤ a_count) ∧ (a_count ≤ 32))) ∧ (a_from + a_count ≤ 32)) ∧ ((1 ≤ a_r) ∧ (a_r ≤ 3)) then 1 else 0 : Int)), (0, (if (0 ≤ a_s) ∧ (a_s ≤ (s 102 0) - 1) then 1 else 0 : Int)), (11, 0)] (m, s)
  obtain ⟨r1, s1, c1, hF⟩ := cb_some hF
  have t3 : 0 ≤ r1 ∧ r1 ≤ 1 := rgX8_asked__ c1
  refine g_callV h hE 34 dX8_protect_34 (ctX8_asked__ hl c1) mwX8_asked__ kw_1168 (by decide) (by decide) rfl (Nat.le_of_ble_eq_true rfl) rfl (Nat.le_of_ble_eq_true rfl) ⟨Nat.le_of_ble_eq_true rfl, Nat.le_of_ble_eq_true rfl⟩ rfl rfl ?_
  show G X 0 0 37 [(11, 0), (0, a_s), (0, a_from), (0, a_count), (0, a_r), (1, 0)] [(0, r1)] (m, s1)
  refine g_if_ne h 37 42 (gRi (by omega)) dX8_protect_37 (by decide) (fun h5 => ?_) (fun h5 => ?_)
  · have hF := ite_t h5 hF
    refine g_bipush h 42 dX8_protect_42 (by decide) ?_
    refine g_iload_n h 44 dX8_protect_44 rfl ?_
    refine g_imul h 45 dX8_protect_45 ?_
    refine g_iload_n h 46 dX8_protect_46 rfl ?_
    refine g_iadd h 47 dX8_protect_47 ?_
    refine g_istore h 48 dX8_protect_48 (Nat.le_of_ble_eq_true rfl) rfl (L' := [(11, 0), (0, a_s), (0, a_from), (0, a_count), (0, a_r), (0, (32 * a_s) + a_from)]) rfl ?_
    obtain ⟨q5, hF⟩ := gd_some hF
    obtain ⟨f1, ef1, hF⟩ := glx1 hF
    have J10 : ∀ (n1 : Nat) (x_e1 : Int) (s2 : S2), ((-2147483648) ≤ x_e1 ∧ x_e1 ≤ 2147483647) → gl1 n1 f1 x_e1 s2 = some (r0, s0) → G X 0 0 50 [(11, 0), (0, a_s), (0, a_from), (0, a_count), (0, a_r), (0, x_e1)] [] (m, s2) := by
      intro n1
      induction n1 with
      | zero => intro x_e1 s2 _ hF; exact (gl1_0 hF).elim
      | succ n1 ih1 =>
        intro x_e1 s2 q1 hF
        obtain ⟨k1, ek1, hF⟩ := glu1 hF ef1
        obtain ⟨q2, hF⟩ := gd_some hF
        have J5 : x_e1 < ((32 * a_s) + a_from) + a_count → G X 0 0 63 [(11, 0), (0, a_s), (0, a_from), (0, a_count), (0, a_r), (0, x_e1)] [] (m, s2) := by
          intro h7
          have hF := ite_t h7 hF
          obtain ⟨k2, ek2, hF⟩ := bn_ex hF
          have J7 : ∀ (s3 : S2), k2 s3 = some (r0, s0) → G X 0 0 94 [(11, 0), (0, a_s), (0, a_from), (0, a_count), (0, a_r), (0, x_e1)] [] (m, s3) := by
            intro s3 hF
            rw [ek2] at hF
            refine g_iinc h 94 dX8_protect_94 rfl rfl (L' := [(11, 0), (0, a_s), (0, a_from), (0, a_count), (0, a_r), (0, x_e1 + 1)]) rfl ?_
            refine g_goto h 97 50 dX8_protect_97 (by decide) ?_
            rw [ek1] at hF
            exact ih1 _ _ (by omega) hF
          refine G_typ fun hT_s2 => ?_
          have t4 : 0 ≤ s2 111 x_e1 ∧ s2 111 x_e1 ≤ 3 := hT_s2.2 111 x_e1
          obtain ⟨q3, hF⟩ := gd_some hF
          have J8 : 0 < s2 111 x_e1 → G X 0 0 73 [(11, 0), (0, a_s), (0, a_from), (0, a_count), (0, a_r), (0, x_e1)] [] (m, s2) := by
            intro h9
            have hF := ite_t h9 hF
            refine g_aload_nq h 73 dX8_protect_73 rfl rfl ?_
            refine g_iload h 74 dX8_protect_74 rfl ?_
            obtain ⟨r2, s4, c2, hF⟩ := cb_some hF
            refine g_callV h hE 76 dX8_protect_76 (ctX8_unwrites hl c2) mwX8_unwrites kw_1224 (by decide) (by decide) rfl (Nat.le_of_ble_eq_true rfl) rfl (Nat.le_of_ble_eq_true rfl) ⟨Nat.le_of_ble_eq_true rfl, Nat.le_of_ble_eq_true rfl⟩ rfl rfl ?_
            show G X 0 0 79 [(11, 0), (0, a_s), (0, a_from), (0, a_count), (0, a_r), (0, x_e1)] [] (m, s4)
            refine g_aload_nq h 79 dX8_protect_79 rfl rfl ?_
            refine g_iload h 80 dX8_protect_80 rfl ?_
            obtain ⟨r3, s5, c3, hF⟩ := cb_some hF
            refine g_callV h hE 82 dX8_protect_82 (ctX8_unblocks hl c3) mwX8_unblocks kw_1196 (by decide) (by decide) rfl (Nat.le_of_ble_eq_true rfl) rfl (Nat.le_of_ble_eq_true rfl) ⟨Nat.le_of_ble_eq_true rfl, Nat.le_of_ble_eq_true rfl⟩ rfl rfl ?_
            show G X 0 0 85 [(11, 0), (0, a_s), (0, a_from), (0, a_count), (0, a_r), (0, x_e1)] [] (m, s5)
            refine g_aload_nq h 85 dX8_protect_85 rfl rfl ?_
            refine gf_M_rights h 86 dX8_protect_86 kw_1017 ?_
            refine g_iload h 89 dX8_protect_89 rfl ?_
            refine g_iload h 91 dX8_protect_91 rfl ?_
            obtain ⟨q4, hF⟩ := gd_some hF
            obtain ⟨s6, es6, hF⟩ := bn_ex hF
            refine as_M_rights h 93 dX8_protect_93 (by omega) (by omega) ?_
            rw [← es6]
            exact J7 _ hF
          have J9 : ¬ (0 < s2 111 x_e1) → G X 0 0 94 [(11, 0), (0, a_s), (0, a_from), (0, a_count), (0, a_r), (0, x_e1)] [] (m, s2) := by
            intro h10
            have hF := ite_f h10 hF
            exact J7 _ hF
          refine g_aload_nq h 63 dX8_protect_63 rfl rfl ?_
          refine gf_M_rights h 64 dX8_protect_64 kw_1017 ?_
          refine g_iload h 67 dX8_protect_67 rfl ?_
          refine al_M_rights h 69 dX8_protect_69 (by omega) ?_
          refine g_if_le h 70 94 (gRi (by omega)) dX8_protect_70 (by decide) (fun h8 => ?_) (fun h8 => ?_)
          · exact J9 (Int.not_lt.mpr h8)
          · exact J8 h8
        have J6 : ¬ (x_e1 < ((32 * a_s) + a_from) + a_count) → G X 0 0 100 [(11, 0), (0, a_s), (0, a_from), (0, a_count), (0, a_r), (0, x_e1)] [] (m, s2) := by
          intro h11
          have hF := ite_f h11 hF
          refine g_aload_nq h 100 dX8_protect_100 rfl rfl ?_
          refine g_iload_n h 101 dX8_protect_101 rfl ?_
          obtain ⟨r4, s7, c4, hF⟩ := cb_some hF
          have t5 : 0 ≤ r4 ∧ r4 ≤ 32 := rgX8_regionsOf c4
          refine g_callV h hE 102 dX8_protect_102 (ctX8_regionsOf hl c4) mwX8_regionsOf kw_1176 (by decide) (by decide) rfl (Nat.le_of_ble_eq_true rfl) rfl (Nat.le_of_ble_eq_true rfl) ⟨Nat.le_of_ble_eq_true rfl, Nat.le_of_ble_eq_true rfl⟩ rfl rfl ?_
          show G X 0 0 105 [(11, 0), (0, a_s), (0, a_from), (0, a_count), (0, a_r), (0, x_e1)] [(0, r4)] (m, s7)
          obtain ⟨e1, e2⟩ := some_2 hF
          rw [← e1, ← e2] at hE
          exact g_iret h 105 dX8_protect_105 hE rfl rfl ⟨(Nat.le_of_ble_eq_true rfl), (Nat.le_of_ble_eq_true rfl)⟩
        refine g_iload h 50 dX8_protect_50 rfl ?_
        refine g_bipush h 52 dX8_protect_52 (by decide) ?_
        refine g_iload_n h 54 dX8_protect_54 rfl ?_
        refine g_imul h 55 dX8_protect_55 ?_
        refine g_iload_n h 56 dX8_protect_56 rfl ?_
        refine g_iadd h 57 dX8_protect_57 ?_
        refine g_iload_n h 58 dX8_protect_58 rfl ?_
        refine g_iadd h 59 dX8_protect_59 ?_
        refine g_icmp_ge h 60 100 (gRi (by omega)) (gRi (by omega)) dX8_protect_60 (by decide) (fun h6 => ?_) (fun h6 => ?_)
        · exact J6 (Int.not_lt.mpr h6)
        · exact J5 h6
    exact J10 _ _ _ (by omega) hF
  · have hF := ite_f (fun q => q h5) hF
    refine g_iconst h 40 dX8_protect_40 ?_
    obtain ⟨e1, e2⟩ := some_2 hF
    rw [← e1, ← e2] at hE
    exact g_iret h 41 dX8_protect_41 hE rfl rfl ⟨(Nat.le_of_ble_eq_true rfl), (Nat.le_of_ble_eq_true rfl)⟩
-- PagewrightModel.unmaps
def FX8_unmaps (a_e : Int) (s : S2) : Option (Int × S2) :=
  gd (0 ≤ a_e ∧ a_e ≤ 191) <| cb (FX8_leaves a_e s) fun r1 s1 => bn (upd2 s1 111 a_e 0) fun s2 => cb (FX8_forgets a_e s2) fun r2 s3 => some (0, s3)
set_option maxRecDepth 100000 in
set_option maxHeartbeats 4000000 in
theorem ctX8_unmaps {l : Launch} {w : gW} {bs : Nat} (hl : l.stackTraces = false) {a_e : Int} {s m s0 : S2} {r0 : Int} (hF : FX8_unmaps a_e s = some (r0, s0)) : gMet l w bs yX8_unmaps cX8_unmaps 2 none 3 0 [(11, 0), (0, a_e)] (m, s) 0 none (m, s0) := by
  unfold FX8_unmaps at hF
  obtain ⟨q_a_e, hF⟩ := gd_some hF
  refine g_start hl (by decide) (Nat.le_of_ble_eq_true rfl) rfl fun X h hE => ?_
  have h : gOk X "PagewrightModel" cX8_unmaps 2 3 0 0 := h
  have hE : gEnd X l w bs 0 none 0 none (m, s0) := hE
  show G X 0 0 0 [(11, 0), (0, a_e)] [] (m, s)
  refine g_aload_nq h 0 dX8_unmaps_0 rfl rfl ?_
  refine g_iload_n h 1 dX8_unmaps_1 rfl ?_
  obtain ⟨r1, s1, c1, hF⟩ := cb_some hF
  refine g_callV h hE 2 dX8_unmaps_2 (ctX8_leaves hl c1) mwX8_leaves kw_1192 (by decide) (by decide) rfl (Nat.le_of_ble_eq_true rfl) rfl (Nat.le_of_ble_eq_true rfl) ⟨Nat.le_of_ble_eq_true rfl, Nat.le_of_ble_eq_true rfl⟩ rfl rfl ?_
  show G X 0 0 5 [(11, 0), (0, a_e)] [] (m, s1)
  refine g_aload_nq h 5 dX8_unmaps_5 rfl rfl ?_
  refine gf_M_rights h 6 dX8_unmaps_6 kw_1017 ?_
  refine g_iload_n h 9 dX8_unmaps_9 rfl ?_
  refine g_iconst h 10 dX8_unmaps_10 ?_
  obtain ⟨s2, es2, hF⟩ := bn_ex hF
  refine as_M_rights h 11 dX8_unmaps_11 (by omega) (by omega) ?_
  rw [← es2]
  refine g_aload_nq h 12 dX8_unmaps_12 rfl rfl ?_
  refine g_iload_n h 13 dX8_unmaps_13 rfl ?_
  obtain ⟨r2, s3, c2, hF⟩ := cb_some hF
  refine g_callV h hE 14 dX8_unmaps_14 (ctX8_forgets hl c2) mwX8_forgets kw_1216 (by decide) (by decide) rfl (Nat.le_of_ble_eq_true rfl) rfl (Nat.le_of_ble_eq_true rfl) ⟨Nat.le_of_ble_eq_true rfl, Nat.le_of_ble_eq_true rfl⟩ rfl rfl ?_
  show G X 0 0 17 [(11, 0), (0, a_e)] [] (m, s3)
  obtain ⟨e1, e2⟩ := some_2 hF
  rw [← e2] at hE
  exact g_vret h 17 dX8_unmaps_17 hE rfl ⟨(Nat.le_of_ble_eq_true rfl), (Nat.le_of_ble_eq_true rfl)⟩
-- PagewrightModel.ends
def FX8_ends (a_s : Int) (s : S2) : Option (Int × S2) :=
  gd (0 ≤ a_s ∧ a_s ≤ 5) <| gl1 1000 (fun k1 (x_a1 : Int) (s1 : S2) => if x_a1 < 32 then cb (FX8_unmaps ((32 * a_s) + x_a1) s1) fun r1 s2 => k1 (x_a1 + 1) s2 else bn (upd2 s1 106 a_s 0) fun s3 => some (0, s3)) 0 s
set_option maxRecDepth 100000 in
set_option maxHeartbeats 4000000 in
theorem ctX8_ends {l : Launch} {w : gW} {bs : Nat} (hl : l.stackTraces = false) {a_s : Int} {s m s0 : S2} {r0 : Int} (hF : FX8_ends a_s s = some (r0, s0)) : gMet l w bs yX8_ends cX8_ends 3 none 4 0 [(11, 0), (0, a_s)] (m, s) 0 none (m, s0) := by
  unfold FX8_ends at hF
  obtain ⟨q_a_s, hF⟩ := gd_some hF
  refine g_start hl (by decide) (Nat.le_of_ble_eq_true rfl) rfl fun X h hE => ?_
  have h : gOk X "PagewrightModel" cX8_ends 3 4 0 0 := h
  have hE : gEnd X l w bs 0 none 0 none (m, s0) := hE
  show G X 0 0 0 [(11, 0), (0, a_s), (1, 0)] [] (m, s)
  refine g_iconst h 0 dX8_ends_0 ?_
  refine g_istore_n h 1 dX8_ends_1 (Nat.le_of_ble_eq_true rfl) rfl (L' := [(11, 0), (0, a_s), (0, 0)]) rfl ?_
  obtain ⟨f1, ef1, hF⟩ := glx1 hF
  have J4 : ∀ (n1 : Nat) (x_a1 : Int) (s1 : S2), (0 ≤ x_a1 ∧ x_a1 ≤ 32) → gl1 n1 f1 x_a1 s1 = some (r0, s0) → G X 0 0 2 [(11, 0), (0, a_s), (0, x_a1)] [] (m, s1) := by
    intro n1
    induction n1 with
    | zero => intro x_a1 s1 _ hF; exact (gl1_0 hF).elim
    | succ n1 ih1 =>
      intro x_a1 s1 q1 hF
      obtain ⟨k1, ek1, hF⟩ := glu1 hF ef1
      have J2 : x_a1 < 32 → G X 0 0 8 [(11, 0), (0, a_s), (0, x_a1)] [] (m, s1) := by
        intro h2
        have hF := ite_t h2 hF
        refine g_aload_nq h 8 dX8_ends_8 rfl rfl ?_
        refine g_bipush h 9 dX8_ends_9 (by decide) ?_
        refine g_iload_n h 11 dX8_ends_11 rfl ?_
        refine g_imul h 12 dX8_ends_12 ?_
        refine g_iload_n h 13 dX8_ends_13 rfl ?_
        refine g_iadd h 14 dX8_ends_14 ?_
        obtain ⟨r1, s2, c1, hF⟩ := cb_some hF
        refine g_callV h hE 15 dX8_ends_15 (ctX8_unmaps hl c1) mwX8_unmaps kw_1188 (by decide) (by decide) rfl (Nat.le_of_ble_eq_true rfl) rfl (Nat.le_of_ble_eq_true rfl) ⟨Nat.le_of_ble_eq_true rfl, Nat.le_of_ble_eq_true rfl⟩ rfl rfl ?_
        show G X 0 0 18 [(11, 0), (0, a_s), (0, x_a1)] [] (m, s2)
        refine g_iinc h 18 dX8_ends_18 rfl rfl (L' := [(11, 0), (0, a_s), (0, x_a1 + 1)]) rfl ?_
        refine g_goto h 21 2 dX8_ends_21 (by decide) ?_
        rw [ek1] at hF
        exact ih1 _ _ (by omega) hF
      have J3 : ¬ (x_a1 < 32) → G X 0 0 24 [(11, 0), (0, a_s), (0, x_a1)] [] (m, s1) := by
        intro h3
        have hF := ite_f h3 hF
        refine g_aload_nq h 24 dX8_ends_24 rfl rfl ?_
        refine gf_M_lives h 25 dX8_ends_25 kw_1012 ?_
        refine g_iload_n h 28 dX8_ends_28 rfl ?_
        refine g_iconst h 29 dX8_ends_29 ?_
        obtain ⟨s3, es3, hF⟩ := bn_ex hF
        refine as_M_lives h 30 dX8_ends_30 (by omega) (by omega) ?_
        rw [← es3]
        obtain ⟨e1, e2⟩ := some_2 hF
        rw [← e2] at hE
        exact g_vret h 31 dX8_ends_31 hE rfl ⟨(Nat.le_of_ble_eq_true rfl), (Nat.le_of_ble_eq_true rfl)⟩
      refine g_iload_n h 2 dX8_ends_2 rfl ?_
      refine g_bipush h 3 dX8_ends_3 (by decide) ?_
      refine g_icmp_ge h 5 24 (gRi (by omega)) (gRi (by omega)) dX8_ends_5 (by decide) (fun h1 => ?_) (fun h1 => ?_)
      · exact J3 (Int.not_lt.mpr h1)
      · exact J2 h1
  exact J4 _ _ _ (by omega) hF
-- PagewrightModel.reclaim
def FX8_reclaim (a_pages : Int) (s : S2) : Option (Int × S2) :=
  rgd (-2147483648) 2147483647 <| gd ((-2147483648) ≤ a_pages ∧ a_pages ≤ 2147483647) <| cb (FX8_asked (if (1 ≤ a_pages) ∧ (a_pages ≤ 24) then 1 else 0 : Int) s) fun r1 s1 => if r1 ≠ 0 then gl1 1000 (fun k1 (x_n1 : Int) (s2 : S2) => bn (fun (s3 : S2) => gd ((-2147483648) ≤ x_n1 + 1 ∧ x_n1 + 1 ≤ 2147483647) <| k1 (x_n1 + 1) s3) fun k2 => bn (fun (s4 : S2) => some (x_n1, s4)) fun k3 => if x_n1 < a_pages then cb (FX8_evicts (-1) s2) fun r2 s5 => if r2 ≠ 0 then k2 s5 else k3 s5 else k3 s2) 0 s1 else some (0, s1)
theorem rgX8_reclaim {a_pages : Int} {s s0 : S2} {r0 : Int} (hF : FX8_reclaim a_pages s = some (r0, s0)) : (-2147483648) ≤ r0 ∧ r0 ≤ 2147483647 := (rgd_some hF).2
set_option maxRecDepth 100000 in
set_option maxHeartbeats 4000000 in
theorem ctX8_reclaim {l : Launch} {w : gW} {bs : Nat} (hl : l.stackTraces = false) {a_pages : Int} {s m s0 : S2} {r0 : Int} (hF : FX8_reclaim a_pages s = some (r0, s0)) : gMet l w bs yX8_reclaim cX8_reclaim 3 (some FieldType.int) 4 0 [(11, 0), (0, a_pages)] (m, s) 0 (some (0, r0)) (m, s0) := by
  unfold FX8_reclaim at hF
  obtain ⟨hF, hr⟩ := rgd_some hF
  obtain ⟨q_a_pages, hF⟩ := gd_some hF
  refine g_start hl (by decide) (Nat.le_of_ble_eq_true rfl) rfl fun X h hE => ?_
  have h : gOk X "PagewrightModel" cX8_reclaim 3 4 0 0 := h
  have hE : gEnd X l w bs 0 (some FieldType.int) 0 (some (0, r0)) (m, s0) := hE
  show G X 0 0 0 [(11, 0), (0, a_pages), (1, 0)] [] (m, s)
  refine g_aload_nq h 0 dX8_reclaim_0 rfl rfl ?_
  refine g_iload_n h 1 dX8_reclaim_1 rfl ?_
  refine g_iconst h 2 dX8_reclaim_2 ?_
  refine g_bipush h 3 dX8_reclaim_3 (by decide) ?_
  refine g_callS h hE 5 dX8_reclaim_5 (cpX8_in (a_v := a_pages) (a_low := 1) (a_high := 24) hl (by omega) (by omega) (by omega)) mwX8_in kw_1142 rfl (Nat.le_of_ble_eq_true rfl) rfl (Nat.le_of_ble_eq_true rfl) ⟨Nat.le_of_ble_eq_true rfl, Nat.le_of_ble_eq_true rfl⟩ rfl rfl ?_
  show G X 0 0 8 [(11, 0), (0, a_pages), (1, 0)] [(0, (if (1 ≤ a_pages) ∧ (a_pages ≤ 24) then 1 else 0 : Int)), (11, 0)] (m, s)
  obtain ⟨r1, s1, c1, hF⟩ := cb_some hF
  have t1 : 0 ≤ r1 ∧ r1 ≤ 1 := rgX8_asked c1
  refine g_callV h hE 8 dX8_reclaim_8 (ctX8_asked hl c1) mwX8_asked kw_1260 (by decide) (by decide) rfl (Nat.le_of_ble_eq_true rfl) rfl (Nat.le_of_ble_eq_true rfl) ⟨Nat.le_of_ble_eq_true rfl, Nat.le_of_ble_eq_true rfl⟩ rfl rfl ?_
  show G X 0 0 11 [(11, 0), (0, a_pages), (1, 0)] [(0, r1)] (m, s1)
  refine g_if_ne h 11 16 (gRi (by omega)) dX8_reclaim_11 (by decide) (fun h1 => ?_) (fun h1 => ?_)
  · have hF := ite_t h1 hF
    refine g_iconst h 16 dX8_reclaim_16 ?_
    refine g_istore_n h 17 dX8_reclaim_17 (Nat.le_of_ble_eq_true rfl) rfl (L' := [(11, 0), (0, a_pages), (0, 0)]) rfl ?_
    obtain ⟨f1, ef1, hF⟩ := glx1 hF
    have J6 : ∀ (n1 : Nat) (x_n1 : Int) (s2 : S2), ((-2147483648) ≤ x_n1 ∧ x_n1 ≤ 2147483647) → gl1 n1 f1 x_n1 s2 = some (r0, s0) → G X 0 0 18 [(11, 0), (0, a_pages), (0, x_n1)] [] (m, s2) := by
      intro n1
      induction n1 with
      | zero => intro x_n1 s2 _ hF; exact (gl1_0 hF).elim
      | succ n1 ih1 =>
        intro x_n1 s2 q1 hF
        obtain ⟨k1, ek1, hF⟩ := glu1 hF ef1
        obtain ⟨k2, ek2, hF⟩ := bn_ex hF
        have J2 : ∀ (s3 : S2), k2 s3 = some (r0, s0) → G X 0 0 31 [(11, 0), (0, a_pages), (0, x_n1)] [] (m, s3) := by
          intro s3 hF
          rw [ek2] at hF
          refine g_iinc h 31 dX8_reclaim_31 rfl rfl (L' := [(11, 0), (0, a_pages), (0, x_n1 + 1)]) rfl ?_
          refine g_goto h 34 18 dX8_reclaim_34 (by decide) ?_
          obtain ⟨q2, hF⟩ := gd_some hF
          rw [ek1] at hF
          exact ih1 _ _ (by omega) hF
        obtain ⟨k3, ek3, hF⟩ := bn_ex hF
        have J3 : ∀ (s4 : S2), k3 s4 = some (r0, s0) → G X 0 0 37 [(11, 0), (0, a_pages), (0, x_n1)] [] (m, s4) := by
          intro s4 hF
          rw [ek3] at hF
          refine g_iload_n h 37 dX8_reclaim_37 rfl ?_
          obtain ⟨e1, e2⟩ := some_2 hF
          rw [← e1, ← e2] at hE
          exact g_iret h 38 dX8_reclaim_38 hE rfl rfl ⟨(Nat.le_of_ble_eq_true rfl), (Nat.le_of_ble_eq_true rfl)⟩
        have J4 : x_n1 < a_pages → G X 0 0 23 [(11, 0), (0, a_pages), (0, x_n1)] [] (m, s2) := by
          intro h3
          have hF := ite_t h3 hF
          refine g_aload_nq h 23 dX8_reclaim_23 rfl rfl ?_
          refine g_iconst h 24 dX8_reclaim_24 ?_
          obtain ⟨r2, s5, c2, hF⟩ := cb_some hF
          have t2 : 0 ≤ r2 ∧ r2 ≤ 1 := rgX8_evicts c2
          refine g_callV h hE 25 dX8_reclaim_25 (ctX8_evicts hl c2) mwX8_evicts kw_1308 (by decide) (by decide) rfl (Nat.le_of_ble_eq_true rfl) rfl (Nat.le_of_ble_eq_true rfl) ⟨Nat.le_of_ble_eq_true rfl, Nat.le_of_ble_eq_true rfl⟩ rfl rfl ?_
          show G X 0 0 28 [(11, 0), (0, a_pages), (0, x_n1)] [(0, r2)] (m, s5)
          refine g_if_eq h 28 37 (gRi (by omega)) dX8_reclaim_28 (by decide) (fun h4 => ?_) (fun h4 => ?_)
          · have hF := ite_f (fun q => q h4) hF
            exact J3 _ hF
          · have hF := ite_t h4 hF
            exact J2 _ hF
        have J5 : ¬ (x_n1 < a_pages) → G X 0 0 37 [(11, 0), (0, a_pages), (0, x_n1)] [] (m, s2) := by
          intro h5
          have hF := ite_f h5 hF
          exact J3 _ hF
        refine g_iload_n h 18 dX8_reclaim_18 rfl ?_
        refine g_iload_n h 19 dX8_reclaim_19 rfl ?_
        refine g_icmp_ge h 20 37 (gRi (by omega)) (gRi (by omega)) dX8_reclaim_20 (by decide) (fun h2 => ?_) (fun h2 => ?_)
        · exact J5 (Int.not_lt.mpr h2)
        · exact J4 h2
    exact J6 _ _ _ (by omega) hF
  · have hF := ite_f (fun q => q h1) hF
    refine g_iconst h 14 dX8_reclaim_14 ?_
    obtain ⟨e1, e2⟩ := some_2 hF
    rw [← e1, ← e2] at hE
    exact g_iret h 15 dX8_reclaim_15 hE rfl rfl ⟨(Nat.le_of_ble_eq_true rfl), (Nat.le_of_ble_eq_true rfl)⟩
-- PagewrightModel.scans
def FX8_scans (a_e : Int) (s : S2) : Option (Int × S2) :=
  rgd 0 1 <| gd (0 ≤ a_e ∧ a_e ≤ 191) <| if ¬ (((((a_e ≠ (-1)) ∧ (0 < s 111 a_e)) ∧ (s 116 a_e = 1)) ∧ (s 121 (s 117 a_e) = 1)) ∧ (¬ (s 126 (s 117 a_e) ≠ 0))) then some (0, s) else gl1 1000 (fun k1 (x_f1 : Int) (s1 : S2) => if x_f1 < 24 then if ((s1 121 x_f1 = 1) ∧ (s1 126 x_f1 ≠ 0)) ∧ (s1 122 x_f1 = s1 122 (s1 117 a_e)) then cb (FX8_getsPage a_e x_f1 s1) fun r1 s2 => some (1, s2) else k1 (x_f1 + 1) s1 else gl1 1000 (fun k2 (x_k1 : Int) (s3 : S2) => if x_k1 < s3 105 0 then if ((((((s3 141 x_k1 ≠ (-1)) ∧ (0 < s3 111 (s3 141 x_k1))) ∧ (s3 116 (s3 141 x_k1) = 1)) ∧ (s3 121 (s3 117 (s3 141 x_k1)) = 1)) ∧ (¬ (s3 126 (s3 117 (s3 141 x_k1)) ≠ 0))) ∧ (s3 117 (s3 141 x_k1) ≠ s3 117 a_e)) ∧ (s3 122 (s3 117 (s3 141 x_k1)) = s3 122 (s3 117 a_e)) then bn (upd2 s3 126 (s3 117 (s3 141 x_k1)) 1) fun s4 => cb (FX8_unwrites (s3 141 x_k1) s4) fun r2 s5 => gl1 1000 (fun k3 (x_each1 : Int) (s6 : S2) => if x_each1 < 192 then bn (fun (s7 : S2) => k3 (x_each1 + 1) s7) fun k4 => if ((0 < s6 111 x_each1) ∧ (s6 116 x_each1 = 1)) ∧ (s6 117 x_each1 = s3 117 (s3 141 x_k1)) then cb (FX8_unblocks x_each1 s6) fun r3 s8 => k4 s8 else k4 s6 else cb (FX8_getsPage a_e (s3 117 (s3 141 x_k1)) s6) fun r4 s9 => some (1, s9)) 0 s5 else k2 (x_k1 + 1) s3 else gd (0 ≤ s3 105 0 ∧ s3 105 0 ≤ 191) <| bn (upd2 s3 141 (s3 105 0) a_e) fun s10 => gd (0 ≤ (s10 105 0) + 1 ∧ (s10 105 0) + 1 ≤ 192) <| bn (upd2 s10 105 0 ((s10 105 0) + 1)) fun s11 => some (0, s11)) 0 s1) 0 s
theorem rgX8_scans {a_e : Int} {s s0 : S2} {r0 : Int} (hF : FX8_scans a_e s = some (r0, s0)) : 0 ≤ r0 ∧ r0 ≤ 1 := (rgd_some hF).2
set_option maxRecDepth 100000 in
set_option maxHeartbeats 4000000 in
theorem ctX8_scans {l : Launch} {w : gW} {bs : Nat} (hl : l.stackTraces = false) {a_e : Int} {s m s0 : S2} {r0 : Int} (hF : FX8_scans a_e s = some (r0, s0)) : gMet l w bs yX8_scans cX8_scans 6 (some FieldType.int) 4 0 [(11, 0), (0, a_e)] (m, s) 0 (some (0, r0)) (m, s0) := by
  unfold FX8_scans at hF
  obtain ⟨hF, hr⟩ := rgd_some hF
  obtain ⟨q_a_e, hF⟩ := gd_some hF
  refine g_start hl (by decide) (Nat.le_of_ble_eq_true rfl) rfl fun X h hE => ?_
  have h : gOk X "PagewrightModel" cX8_scans 6 4 0 0 := h
  have hE : gEnd X l w bs 0 (some FieldType.int) 0 (some (0, r0)) (m, s0) := hE
  show G X 0 0 0 [(11, 0), (0, a_e), (1, 0), (1, 0), (1, 0), (1, 0)] [] (m, s)
  refine G_typ fun hT_s => ?_
  have t1 : 0 ≤ s 111 a_e ∧ s 111 a_e ≤ 3 := hT_s.2 111 a_e
  have t2 : 0 ≤ s 116 a_e ∧ s 116 a_e ≤ 2 := hT_s.2 116 a_e
  have t3 : 0 ≤ s 117 a_e ∧ s 117 a_e ≤ 23 := hT_s.2 117 a_e
  have t4 : 0 ≤ s 121 (s 117 a_e) ∧ s 121 (s 117 a_e) ≤ 2 := hT_s.2 121 (s 117 a_e)
  have t5 : 0 ≤ s 126 (s 117 a_e) ∧ s 126 (s 117 a_e) ≤ 1 := hT_s.2 126 (s 117 a_e)
  have J1 : ¬ (((((a_e ≠ (-1)) ∧ (0 < s 111 a_e)) ∧ (s 116 a_e = 1)) ∧ (s 121 (s 117 a_e) = 1)) ∧ (¬ (s 126 (s 117 a_e) ≠ 0))) → G X 0 0 8 [(11, 0), (0, a_e), (1, 0), (1, 0), (1, 0), (1, 0)] [] (m, s) := by
    intro h2
    have hF := ite_t h2 hF
    refine g_iconst h 8 dX8_scans_8 ?_
    obtain ⟨e1, e2⟩ := some_2 hF
    rw [← e1, ← e2] at hE
    exact g_iret h 9 dX8_scans_9 hE rfl rfl ⟨(Nat.le_of_ble_eq_true rfl), (Nat.le_of_ble_eq_true rfl)⟩
  have J2 : ¬ (¬ (((((a_e ≠ (-1)) ∧ (0 < s 111 a_e)) ∧ (s 116 a_e = 1)) ∧ (s 121 (s 117 a_e) = 1)) ∧ (¬ (s 126 (s 117 a_e) ≠ 0)))) → G X 0 0 10 [(11, 0), (0, a_e), (1, 0), (1, 0), (1, 0), (1, 0)] [] (m, s) := by
    intro h3
    have hF := ite_f h3 hF
    refine g_iconst h 10 dX8_scans_10 ?_
    refine g_istore_n h 11 dX8_scans_11 (Nat.le_of_ble_eq_true rfl) rfl (L' := [(11, 0), (0, a_e), (0, 0), (1, 0), (1, 0), (1, 0)]) rfl ?_
    obtain ⟨f1, ef1, hF⟩ := glx1 hF
    have J21 : ∀ (n1 : Nat) (x_f1 : Int) (s1 : S2), (0 ≤ x_f1 ∧ x_f1 ≤ 24) → gl1 n1 f1 x_f1 s1 = some (r0, s0) → G X 0 0 12 [(11, 0), (0, a_e), (0, x_f1), (1, 0), (1, 0), (1, 0)] [] (m, s1) := by
      intro n1
      induction n1 with
      | zero => intro x_f1 s1 _ hF; exact (gl1_0 hF).elim
      | succ n1 ih1 =>
        intro x_f1 s1 q1 hF
        obtain ⟨k1, ek1, hF⟩ := glu1 hF ef1
        have J4 : x_f1 < 24 → G X 0 0 18 [(11, 0), (0, a_e), (0, x_f1), (1, 0), (1, 0), (1, 0)] [] (m, s1) := by
          intro h5
          have hF := ite_t h5 hF
          refine G_typ fun hT_s1 => ?_
          have t6 : 0 ≤ s1 121 x_f1 ∧ s1 121 x_f1 ≤ 2 := hT_s1.2 121 x_f1
          have t7 : 0 ≤ s1 126 x_f1 ∧ s1 126 x_f1 ≤ 1 := hT_s1.2 126 x_f1
          have t8 : 0 ≤ s1 122 x_f1 ∧ s1 122 x_f1 ≤ 99999 := hT_s1.2 122 x_f1
          have t9 : 0 ≤ s1 117 a_e ∧ s1 117 a_e ≤ 23 := hT_s1.2 117 a_e
          have t10 : 0 ≤ s1 122 (s1 117 a_e) ∧ s1 122 (s1 117 a_e) ≤ 99999 := hT_s1.2 122 (s1 117 a_e)
          have J6 : ((s1 121 x_f1 = 1) ∧ (s1 126 x_f1 ≠ 0)) ∧ (s1 122 x_f1 = s1 122 (s1 117 a_e)) → G X 0 0 57 [(11, 0), (0, a_e), (0, x_f1), (1, 0), (1, 0), (1, 0)] [] (m, s1) := by
            intro h9
            have hF := ite_t h9 hF
            refine g_aload_nq h 57 dX8_scans_57 rfl rfl ?_
            refine g_iload_n h 58 dX8_scans_58 rfl ?_
            refine g_iload_n h 59 dX8_scans_59 rfl ?_
            obtain ⟨r1, s2, c1, hF⟩ := cb_some hF
            refine g_callV h hE 60 dX8_scans_60 (ctX8_getsPage hl c1) mwX8_getsPage kw_1440 (by decide) (by decide) rfl (Nat.le_of_ble_eq_true rfl) rfl (Nat.le_of_ble_eq_true rfl) ⟨Nat.le_of_ble_eq_true rfl, Nat.le_of_ble_eq_true rfl⟩ rfl rfl ?_
            show G X 0 0 63 [(11, 0), (0, a_e), (0, x_f1), (1, 0), (1, 0), (1, 0)] [] (m, s2)
            refine g_iconst h 63 dX8_scans_63 ?_
            obtain ⟨e1, e2⟩ := some_2 hF
            rw [← e1, ← e2] at hE
            exact g_iret h 64 dX8_scans_64 hE rfl rfl ⟨(Nat.le_of_ble_eq_true rfl), (Nat.le_of_ble_eq_true rfl)⟩
          have J7 : ¬ (((s1 121 x_f1 = 1) ∧ (s1 126 x_f1 ≠ 0)) ∧ (s1 122 x_f1 = s1 122 (s1 117 a_e))) → G X 0 0 65 [(11, 0), (0, a_e), (0, x_f1), (1, 0), (1, 0), (1, 0)] [] (m, s1) := by
            intro h10
            have hF := ite_f h10 hF
            refine g_iinc h 65 dX8_scans_65 rfl rfl (L' := [(11, 0), (0, a_e), (0, x_f1 + 1), (1, 0), (1, 0), (1, 0)]) rfl ?_
            refine g_goto h 68 12 dX8_scans_68 (by decide) ?_
            rw [ek1] at hF
            exact ih1 _ _ (by omega) hF
          refine g_aload_nq h 18 dX8_scans_18 rfl rfl ?_
          refine gf_M_kind h 19 dX8_scans_19 kw_1027 ?_
          refine g_iload_n h 22 dX8_scans_22 rfl ?_
          refine al_M_kind h 23 dX8_scans_23 (by omega) ?_
          refine g_iconst h 24 dX8_scans_24 ?_
          refine g_icmp_ne h 25 65 (gRi (by omega)) (gRi (by omega)) dX8_scans_25 (by decide) (fun h6 => ?_) (fun h6 => ?_)
          · exact J7 (fun q => (fun q => h6 q.1) q.1)
          · refine g_aload_nq h 28 dX8_scans_28 rfl rfl ?_
            refine gf_M_mark h 29 dX8_scans_29 kw_1032 ?_
            refine g_iload_n h 32 dX8_scans_32 rfl ?_
            refine al_M_mark h 33 dX8_scans_33 (by omega) ?_
            refine g_if_eq h 34 65 (gRi (by omega)) dX8_scans_34 (by decide) (fun h7 => ?_) (fun h7 => ?_)
            · exact J7 (fun q => (fun q => (fun q => q h7) q.2) q.1)
            · refine g_aload_nq h 37 dX8_scans_37 rfl rfl ?_
              refine gf_M_value h 38 dX8_scans_38 kw_1028 ?_
              refine g_iload_n h 41 dX8_scans_41 rfl ?_
              refine al_M_value h 42 dX8_scans_42 (by omega) ?_
              refine g_aload_nq h 43 dX8_scans_43 rfl rfl ?_
              refine gf_M_value h 44 dX8_scans_44 kw_1028 ?_
              refine g_aload_nq h 47 dX8_scans_47 rfl rfl ?_
              refine gf_M_page h 48 dX8_scans_48 kw_1023 ?_
              refine g_iload_n h 51 dX8_scans_51 rfl ?_
              refine al_M_page h 52 dX8_scans_52 (by omega) ?_
              refine al_M_value h 53 dX8_scans_53 (by omega) ?_
              refine g_icmp_ne h 54 65 (gRi (by omega)) (gRi (by omega)) dX8_scans_54 (by decide) (fun h8 => ?_) (fun h8 => ?_)
              · exact J7 (fun q => h8 q.2)
              · exact J6 ⟨⟨h6, h7⟩, h8⟩
        have J5 : ¬ (x_f1 < 24) → G X 0 0 71 [(11, 0), (0, a_e), (0, x_f1), (1, 0), (1, 0), (1, 0)] [] (m, s1) := by
          intro h11
          have hF := ite_f h11 hF
          refine g_iconst h 71 dX8_scans_71 ?_
          refine g_istore_n h 72 dX8_scans_72 (Nat.le_of_ble_eq_true rfl) rfl (L' := [(11, 0), (0, a_e), (0, 0), (1, 0), (1, 0), (1, 0)]) rfl ?_
          obtain ⟨f2, ef2, hF⟩ := glx1 hF
          have J20 : ∀ (n2 : Nat) (x_k1 : Int) (s3 : S2), (0 ≤ x_k1 ∧ x_k1 ≤ 192) → gl1 n2 f2 x_k1 s3 = some (r0, s0) → G X 0 0 73 [(11, 0), (0, a_e), (0, x_k1), (1, 0), (1, 0), (1, 0)] [] (m, s3) := by
            intro n2
            induction n2 with
            | zero => intro x_k1 s3 _ hF; exact (gl1_0 hF).elim
            | succ n2 ih2 =>
              intro x_k1 s3 q2 hF
              obtain ⟨k2, ek2, hF⟩ := glu1 hF ef2
              refine G_typ fun hT_s3 => ?_
              have t11 : 0 ≤ s3 105 0 ∧ s3 105 0 ≤ 192 := hT_s3.2 105 0
              have J9 : x_k1 < s3 105 0 → G X 0 0 81 [(11, 0), (0, a_e), (0, x_k1), (1, 0), (1, 0), (1, 0)] [] (m, s3) := by
                intro h13
                have hF := ite_t h13 hF
                have t12 : (-1) ≤ s3 141 x_k1 ∧ s3 141 x_k1 ≤ 191 := hT_s3.2 141 x_k1
                refine g_aload_nq h 81 dX8_scans_81 rfl rfl ?_
                refine gf_M_looks h 82 dX8_scans_82 kw_1050 ?_
                refine g_iload_n h 85 dX8_scans_85 rfl ?_
                refine al_M_looks h 86 dX8_scans_86 (by omega) ?_
                refine g_istore_n h 87 dX8_scans_87 (Nat.le_of_ble_eq_true rfl) rfl (L' := [(11, 0), (0, a_e), (0, x_k1), (0, s3 141 x_k1), (1, 0), (1, 0)]) rfl ?_
                have t13 : 0 ≤ s3 111 (s3 141 x_k1) ∧ s3 111 (s3 141 x_k1) ≤ 3 := hT_s3.2 111 (s3 141 x_k1)
                have t14 : 0 ≤ s3 116 (s3 141 x_k1) ∧ s3 116 (s3 141 x_k1) ≤ 2 := hT_s3.2 116 (s3 141 x_k1)
                have t15 : 0 ≤ s3 117 (s3 141 x_k1) ∧ s3 117 (s3 141 x_k1) ≤ 23 := hT_s3.2 117 (s3 141 x_k1)
                have t16 : 0 ≤ s3 121 (s3 117 (s3 141 x_k1)) ∧ s3 121 (s3 117 (s3 141 x_k1)) ≤ 2 := hT_s3.2 121 (s3 117 (s3 141 x_k1))
                have t17 : 0 ≤ s3 126 (s3 117 (s3 141 x_k1)) ∧ s3 126 (s3 117 (s3 141 x_k1)) ≤ 1 := hT_s3.2 126 (s3 117 (s3 141 x_k1))
                have t18 : 0 ≤ s3 117 a_e ∧ s3 117 a_e ≤ 23 := hT_s3.2 117 a_e
                have t19 : 0 ≤ s3 122 (s3 117 (s3 141 x_k1)) ∧ s3 122 (s3 117 (s3 141 x_k1)) ≤ 99999 := hT_s3.2 122 (s3 117 (s3 141 x_k1))
                have t20 : 0 ≤ s3 122 (s3 117 a_e) ∧ s3 122 (s3 117 a_e) ≤ 99999 := hT_s3.2 122 (s3 117 a_e)
                have J11 : ((((((s3 141 x_k1 ≠ (-1)) ∧ (0 < s3 111 (s3 141 x_k1))) ∧ (s3 116 (s3 141 x_k1) = 1)) ∧ (s3 121 (s3 117 (s3 141 x_k1)) = 1)) ∧ (¬ (s3 126 (s3 117 (s3 141 x_k1)) ≠ 0))) ∧ (s3 117 (s3 141 x_k1) ≠ s3 117 a_e)) ∧ (s3 122 (s3 117 (s3 141 x_k1)) = s3 122 (s3 117 a_e)) → G X 0 0 136 [(11, 0), (0, a_e), (0, x_k1), (0, s3 141 x_k1), (1, 0), (1, 0)] [] (m, s3) := by
                  intro h17
                  have hF := ite_t h17 hF
                  refine g_aload_nq h 136 dX8_scans_136 rfl rfl ?_
                  refine gf_M_page h 137 dX8_scans_137 kw_1023 ?_
                  refine g_iload_n h 140 dX8_scans_140 rfl ?_
                  refine al_M_page h 141 dX8_scans_141 (by omega) ?_
                  refine g_istore h 142 dX8_scans_142 (Nat.le_of_ble_eq_true rfl) rfl (L' := [(11, 0), (0, a_e), (0, x_k1), (0, s3 141 x_k1), (0, s3 117 (s3 141 x_k1)), (1, 0)]) rfl ?_
                  refine g_aload_nq h 144 dX8_scans_144 rfl rfl ?_
                  refine gf_M_mark h 145 dX8_scans_145 kw_1032 ?_
                  refine g_iload h 148 dX8_scans_148 rfl ?_
                  refine g_iconst h 150 dX8_scans_150 ?_
                  obtain ⟨s4, es4, hF⟩ := bn_ex hF
                  refine as_M_mark h 151 dX8_scans_151 (by omega) (by omega) ?_
                  rw [← es4]
                  refine g_aload_nq h 152 dX8_scans_152 rfl rfl ?_
                  refine g_iload_n h 153 dX8_scans_153 rfl ?_
                  obtain ⟨r2, s5, c2, hF⟩ := cb_some hF
                  refine g_callV h hE 154 dX8_scans_154 (ctX8_unwrites hl c2) mwX8_unwrites kw_1224 (by decide) (by decide) rfl (Nat.le_of_ble_eq_true rfl) rfl (Nat.le_of_ble_eq_true rfl) ⟨Nat.le_of_ble_eq_true rfl, Nat.le_of_ble_eq_true rfl⟩ rfl rfl ?_
                  show G X 0 0 157 [(11, 0), (0, a_e), (0, x_k1), (0, s3 141 x_k1), (0, s3 117 (s3 141 x_k1)), (1, 0)] [] (m, s5)
                  refine g_iconst h 157 dX8_scans_157 ?_
                  refine g_istore h 158 dX8_scans_158 (Nat.le_of_ble_eq_true rfl) rfl (L' := [(11, 0), (0, a_e), (0, x_k1), (0, s3 141 x_k1), (0, s3 117 (s3 141 x_k1)), (0, 0)]) rfl ?_
                  obtain ⟨f3, ef3, hF⟩ := glx1 hF
                  have J19 : ∀ (n3 : Nat) (x_each1 : Int) (s6 : S2), (0 ≤ x_each1 ∧ x_each1 ≤ 192) → gl1 n3 f3 x_each1 s6 = some (r0, s0) → G X 0 0 160 [(11, 0), (0, a_e), (0, x_k1), (0, s3 141 x_k1), (0, s3 117 (s3 141 x_k1)), (0, x_each1)] [] (m, s6) := by
                    intro n3
                    induction n3 with
                    | zero => intro x_each1 s6 _ hF; exact (gl1_0 hF).elim
                    | succ n3 ih3 =>
                      intro x_each1 s6 q3 hF
                      obtain ⟨k3, ek3, hF⟩ := glu1 hF ef3
                      have J14 : x_each1 < 192 → G X 0 0 168 [(11, 0), (0, a_e), (0, x_k1), (0, s3 141 x_k1), (0, s3 117 (s3 141 x_k1)), (0, x_each1)] [] (m, s6) := by
                        intro h19
                        have hF := ite_t h19 hF
                        obtain ⟨k4, ek4, hF⟩ := bn_ex hF
                        have J16 : ∀ (s7 : S2), k4 s7 = some (r0, s0) → G X 0 0 185 [(11, 0), (0, a_e), (0, x_k1), (0, s3 141 x_k1), (0, s3 117 (s3 141 x_k1)), (0, x_each1)] [] (m, s7) := by
                          intro s7 hF
                          rw [ek4] at hF
                          refine g_iinc h 185 dX8_scans_185 rfl rfl (L' := [(11, 0), (0, a_e), (0, x_k1), (0, s3 141 x_k1), (0, s3 117 (s3 141 x_k1)), (0, x_each1 + 1)]) rfl ?_
                          refine g_goto h 188 160 dX8_scans_188 (by decide) ?_
                          rw [ek3] at hF
                          exact ih3 _ _ (by omega) hF
                        refine G_typ fun hT_s6 => ?_
                        have t21 : 0 ≤ s6 111 x_each1 ∧ s6 111 x_each1 ≤ 3 := hT_s6.2 111 x_each1
                        have t22 : 0 ≤ s6 116 x_each1 ∧ s6 116 x_each1 ≤ 2 := hT_s6.2 116 x_each1
                        have t23 : 0 ≤ s6 117 x_each1 ∧ s6 117 x_each1 ≤ 23 := hT_s6.2 117 x_each1
                        have J17 : ((0 < s6 111 x_each1) ∧ (s6 116 x_each1 = 1)) ∧ (s6 117 x_each1 = s3 117 (s3 141 x_k1)) → G X 0 0 179 [(11, 0), (0, a_e), (0, x_k1), (0, s3 141 x_k1), (0, s3 117 (s3 141 x_k1)), (0, x_each1)] [] (m, s6) := by
                          intro h21
                          have hF := ite_t h21 hF
                          refine g_aload_nq h 179 dX8_scans_179 rfl rfl ?_
                          refine g_iload h 180 dX8_scans_180 rfl ?_
                          obtain ⟨r3, s8, c3, hF⟩ := cb_some hF
                          refine g_callV h hE 182 dX8_scans_182 (ctX8_unblocks hl c3) mwX8_unblocks kw_1196 (by decide) (by decide) rfl (Nat.le_of_ble_eq_true rfl) rfl (Nat.le_of_ble_eq_true rfl) ⟨Nat.le_of_ble_eq_true rfl, Nat.le_of_ble_eq_true rfl⟩ rfl rfl ?_
                          show G X 0 0 185 [(11, 0), (0, a_e), (0, x_k1), (0, s3 141 x_k1), (0, s3 117 (s3 141 x_k1)), (0, x_each1)] [] (m, s8)
                          exact J16 _ hF
                        have J18 : ¬ (((0 < s6 111 x_each1) ∧ (s6 116 x_each1 = 1)) ∧ (s6 117 x_each1 = s3 117 (s3 141 x_k1))) → G X 0 0 185 [(11, 0), (0, a_e), (0, x_k1), (0, s3 141 x_k1), (0, s3 117 (s3 141 x_k1)), (0, x_each1)] [] (m, s6) := by
                          intro h22
                          have hF := ite_f h22 hF
                          exact J16 _ hF
                        refine g_aload_nq h 168 dX8_scans_168 rfl rfl ?_
                        refine g_iload h 169 dX8_scans_169 rfl ?_
                        refine g_iload h 171 dX8_scans_171 rfl ?_
                        refine g_callV h hE 173 dX8_scans_173 (cpX8_has (a_e := x_each1) (a_f := s3 117 (s3 141 x_k1)) hl (by omega) (by omega)) mwX8_has kw_1208 (by decide) (by decide) rfl (Nat.le_of_ble_eq_true rfl) rfl (Nat.le_of_ble_eq_true rfl) ⟨Nat.le_of_ble_eq_true rfl, Nat.le_of_ble_eq_true rfl⟩ rfl rfl ?_
                        show G X 0 0 176 [(11, 0), (0, a_e), (0, x_k1), (0, s3 141 x_k1), (0, s3 117 (s3 141 x_k1)), (0, x_each1)] [(0, (if ((0 < s6 111 x_each1) ∧ (s6 116 x_each1 = 1)) ∧ (s6 117 x_each1 = s3 117 (s3 141 x_k1)) then 1 else 0 : Int))] (m, s6)
                        refine g_if_eq h 176 185 (gRi gR_ite) dX8_scans_176 (by decide) (fun h20 => ?_) (fun h20 => ?_)
                        · exact J18 (iz_f h20)
                        · exact J17 (iz_t h20)
                      have J15 : ¬ (x_each1 < 192) → G X 0 0 191 [(11, 0), (0, a_e), (0, x_k1), (0, s3 141 x_k1), (0, s3 117 (s3 141 x_k1)), (0, x_each1)] [] (m, s6) := by
                        intro h23
                        have hF := ite_f h23 hF
                        refine g_aload_nq h 191 dX8_scans_191 rfl rfl ?_
                        refine g_iload_n h 192 dX8_scans_192 rfl ?_
                        refine g_iload h 193 dX8_scans_193 rfl ?_
                        obtain ⟨r4, s9, c4, hF⟩ := cb_some hF
                        refine g_callV h hE 195 dX8_scans_195 (ctX8_getsPage hl c4) mwX8_getsPage kw_1440 (by decide) (by decide) rfl (Nat.le_of_ble_eq_true rfl) rfl (Nat.le_of_ble_eq_true rfl) ⟨Nat.le_of_ble_eq_true rfl, Nat.le_of_ble_eq_true rfl⟩ rfl rfl ?_
                        show G X 0 0 198 [(11, 0), (0, a_e), (0, x_k1), (0, s3 141 x_k1), (0, s3 117 (s3 141 x_k1)), (0, x_each1)] [] (m, s9)
                        refine g_iconst h 198 dX8_scans_198 ?_
                        obtain ⟨e1, e2⟩ := some_2 hF
                        rw [← e1, ← e2] at hE
                        exact g_iret h 199 dX8_scans_199 hE rfl rfl ⟨(Nat.le_of_ble_eq_true rfl), (Nat.le_of_ble_eq_true rfl)⟩
                      refine g_iload h 160 dX8_scans_160 rfl ?_
                      refine g_sipush h 162 dX8_scans_162 (by decide) ?_
                      refine g_icmp_ge h 165 191 (gRi (by omega)) (gRi (by omega)) dX8_scans_165 (by decide) (fun h18 => ?_) (fun h18 => ?_)
                      · exact J15 (Int.not_lt.mpr h18)
                      · exact J14 h18
                  exact J19 _ _ _ (by omega) hF
                have J12 : ¬ (((((((s3 141 x_k1 ≠ (-1)) ∧ (0 < s3 111 (s3 141 x_k1))) ∧ (s3 116 (s3 141 x_k1) = 1)) ∧ (s3 121 (s3 117 (s3 141 x_k1)) = 1)) ∧ (¬ (s3 126 (s3 117 (s3 141 x_k1)) ≠ 0))) ∧ (s3 117 (s3 141 x_k1) ≠ s3 117 a_e)) ∧ (s3 122 (s3 117 (s3 141 x_k1)) = s3 122 (s3 117 a_e))) → G X 0 0 200 [(11, 0), (0, a_e), (0, x_k1), (0, s3 141 x_k1), (1, 0), (1, 0)] [] (m, s3) := by
                  intro h24
                  have hF := ite_f h24 hF
                  refine g_iinc h 200 dX8_scans_200 rfl rfl (L' := [(11, 0), (0, a_e), (0, x_k1 + 1), (0, s3 141 x_k1), (1, 0), (1, 0)]) rfl ?_
                  refine g_goto h 203 73 dX8_scans_203 (by decide) ?_
                  refine G_weak (L' := [(11, 0), (0, a_e), (0, x_k1 + 1), (1, 0), (1, 0), (1, 0)]) ⟨Or.inr rfl, Or.inr rfl, Or.inr rfl, Or.inl rfl, Or.inr rfl, Or.inr rfl, trivial⟩ ?_
                  rw [ek2] at hF
                  exact ih2 _ _ (by omega) hF
                refine g_aload_nq h 88 dX8_scans_88 rfl rfl ?_
                refine g_iload_n h 89 dX8_scans_89 rfl ?_
                refine g_callV h hE 90 dX8_scans_90 (cpX8_isLoose (a_e := s3 141 x_k1) hl (by omega)) mwX8_isLoose kw_1436 (by decide) (by decide) rfl (Nat.le_of_ble_eq_true rfl) rfl (Nat.le_of_ble_eq_true rfl) ⟨Nat.le_of_ble_eq_true rfl, Nat.le_of_ble_eq_true rfl⟩ rfl rfl ?_
                show G X 0 0 93 [(11, 0), (0, a_e), (0, x_k1), (0, s3 141 x_k1), (1, 0), (1, 0)] [(0, (if ((((s3 141 x_k1 ≠ (-1)) ∧ (0 < s3 111 (s3 141 x_k1))) ∧ (s3 116 (s3 141 x_k1) = 1)) ∧ (s3 121 (s3 117 (s3 141 x_k1)) = 1)) ∧ (¬ (s3 126 (s3 117 (s3 141 x_k1)) ≠ 0)) then 1 else 0 : Int))] (m, s3)
                refine g_if_eq h 93 200 (gRi gR_ite) dX8_scans_93 (by decide) (fun h14 => ?_) (fun h14 => ?_)
                · exact J12 (fun q => (fun q => (iz_f h14) q.1) q.1)
                · refine g_aload_nq h 96 dX8_scans_96 rfl rfl ?_
                  refine gf_M_page h 97 dX8_scans_97 kw_1023 ?_
                  refine g_iload_n h 100 dX8_scans_100 rfl ?_
                  refine al_M_page h 101 dX8_scans_101 (by omega) ?_
                  refine g_aload_nq h 102 dX8_scans_102 rfl rfl ?_
                  refine gf_M_page h 103 dX8_scans_103 kw_1023 ?_
                  refine g_iload_n h 106 dX8_scans_106 rfl ?_
                  refine al_M_page h 107 dX8_scans_107 (by omega) ?_
                  refine g_icmp_eq h 108 200 (gRi (by omega)) (gRi (by omega)) dX8_scans_108 (by decide) (fun h15 => ?_) (fun h15 => ?_)
                  · exact J12 (fun q => (fun q => (fun q => q h15) q.2) q.1)
                  · refine g_aload_nq h 111 dX8_scans_111 rfl rfl ?_
                    refine gf_M_value h 112 dX8_scans_112 kw_1028 ?_
                    refine g_aload_nq h 115 dX8_scans_115 rfl rfl ?_
                    refine gf_M_page h 116 dX8_scans_116 kw_1023 ?_
                    refine g_iload_n h 119 dX8_scans_119 rfl ?_
                    refine al_M_page h 120 dX8_scans_120 (by omega) ?_
                    refine al_M_value h 121 dX8_scans_121 (by omega) ?_
                    refine g_aload_nq h 122 dX8_scans_122 rfl rfl ?_
                    refine gf_M_value h 123 dX8_scans_123 kw_1028 ?_
                    refine g_aload_nq h 126 dX8_scans_126 rfl rfl ?_
                    refine gf_M_page h 127 dX8_scans_127 kw_1023 ?_
                    refine g_iload_n h 130 dX8_scans_130 rfl ?_
                    refine al_M_page h 131 dX8_scans_131 (by omega) ?_
                    refine al_M_value h 132 dX8_scans_132 (by omega) ?_
                    refine g_icmp_ne h 133 200 (gRi (by omega)) (gRi (by omega)) dX8_scans_133 (by decide) (fun h16 => ?_) (fun h16 => ?_)
                    · exact J12 (fun q => h16 q.2)
                    · exact J11 ⟨⟨(iz_t h14), h15⟩, h16⟩
              have J10 : ¬ (x_k1 < s3 105 0) → G X 0 0 206 [(11, 0), (0, a_e), (0, x_k1), (1, 0), (1, 0), (1, 0)] [] (m, s3) := by
                intro h25
                have hF := ite_f h25 hF
                refine g_aload_nq h 206 dX8_scans_206 rfl rfl ?_
                refine gf_M_looks h 207 dX8_scans_207 kw_1050 ?_
                refine g_aload_nq h 210 dX8_scans_210 rfl rfl ?_
                refine gf_M_looked h 211 dX8_scans_211 kw_1049 ?_
                obtain ⟨q4, hF⟩ := gd_some hF
                refine g_iload_n h 214 dX8_scans_214 rfl ?_
                obtain ⟨s10, es10, hF⟩ := bn_ex hF
                refine as_M_looks h 215 dX8_scans_215 (by omega) (by omega) ?_
                rw [← es10]
                refine g_aload_nq h 216 dX8_scans_216 rfl rfl ?_
                refine G_typ fun hT_s10 => ?_
                have t24 : 0 ≤ s10 105 0 ∧ s10 105 0 ≤ 192 := hT_s10.2 105 0
                refine g_dup h 217 dX8_scans_217 (show (11 : Nat) ≠ 2 by decide) ?_
                refine gf_M_looked h 218 dX8_scans_218 kw_1049 ?_
                refine g_iconst h 221 dX8_scans_221 ?_
                refine g_iadd h 222 dX8_scans_222 ?_
                obtain ⟨q5, hF⟩ := gd_some hF
                obtain ⟨s11, es11, hF⟩ := bn_ex hF
                refine pf_M_looked h 223 dX8_scans_223 kw_1049 (by omega) ?_
                rw [← es11]
                refine g_iconst h 226 dX8_scans_226 ?_
                obtain ⟨e1, e2⟩ := some_2 hF
                rw [← e1, ← e2] at hE
                exact g_iret h 227 dX8_scans_227 hE rfl rfl ⟨(Nat.le_of_ble_eq_true rfl), (Nat.le_of_ble_eq_true rfl)⟩
              refine g_iload_n h 73 dX8_scans_73 rfl ?_
              refine g_aload_nq h 74 dX8_scans_74 rfl rfl ?_
              refine gf_M_looked h 75 dX8_scans_75 kw_1049 ?_
              refine g_icmp_ge h 78 206 (gRi (by omega)) (gRi (by omega)) dX8_scans_78 (by decide) (fun h12 => ?_) (fun h12 => ?_)
              · exact J10 (Int.not_lt.mpr h12)
              · exact J9 h12
          exact J20 _ _ _ (by omega) hF
        refine g_iload_n h 12 dX8_scans_12 rfl ?_
        refine g_bipush h 13 dX8_scans_13 (by decide) ?_
        refine g_icmp_ge h 15 71 (gRi (by omega)) (gRi (by omega)) dX8_scans_15 (by decide) (fun h4 => ?_) (fun h4 => ?_)
        · exact J5 (Int.not_lt.mpr h4)
        · exact J4 h4
    exact J21 _ _ _ (by omega) hF
  refine g_aload_nq h 0 dX8_scans_0 rfl rfl ?_
  refine g_iload_n h 1 dX8_scans_1 rfl ?_
  refine g_callV h hE 2 dX8_scans_2 (cpX8_isLoose (a_e := a_e) hl (by omega)) mwX8_isLoose kw_1436 (by decide) (by decide) rfl (Nat.le_of_ble_eq_true rfl) rfl (Nat.le_of_ble_eq_true rfl) ⟨Nat.le_of_ble_eq_true rfl, Nat.le_of_ble_eq_true rfl⟩ rfl rfl ?_
  show G X 0 0 5 [(11, 0), (0, a_e), (1, 0), (1, 0), (1, 0), (1, 0)] [(0, (if ((((a_e ≠ (-1)) ∧ (0 < s 111 a_e)) ∧ (s 116 a_e = 1)) ∧ (s 121 (s 117 a_e) = 1)) ∧ (¬ (s 126 (s 117 a_e) ≠ 0)) then 1 else 0 : Int))] (m, s)
  refine g_if_ne h 5 10 (gRi gR_ite) dX8_scans_5 (by decide) (fun h1 => ?_) (fun h1 => ?_)
  · exact J2 (fun q => q (iz_t h1))
  · exact J1 (iz_f h1)
-- PagewrightModel.unmap
def FX8_unmap (a_s a_from a_count : Int) (s : S2) : Option (Int × S2) :=
  rgd (-2147483648) 2147483647 <| gd ((-2147483648) ≤ a_s ∧ a_s ≤ 2147483647) <| gd ((-2147483648) ≤ a_from ∧ a_from ≤ 2147483647) <| gd ((-2147483648) ≤ a_count ∧ a_count ≤ 2147483647) <| cb (FX8_asked__ (if (0 ≤ a_s) ∧ (a_s ≤ (s 102 0) - 1) then 1 else 0 : Int) (if (((0 ≤ a_from) ∧ (a_from ≤ 31)) ∧ ((1 ≤ a_count) ∧ (a_count ≤ 32))) ∧ (a_from + a_count ≤ 32) then 1 else 0 : Int) (if ((0 ≤ a_s) ∧ (a_s ≤ (s 102 0) - 1)) ∧ (s 106 a_s ≠ 0) then 1 else 0 : Int) s) fun r1 s1 => if r1 ≠ 0 then gd ((-2147483648) ≤ (32 * a_s) + a_from ∧ (32 * a_s) + a_from ≤ 2147483647) <| gl2 1000 (fun k1 (x_n1 : Int) (x_e1 : Int) (s2 : S2) => gd ((-2147483648) ≤ ((32 * a_s) + a_from) + a_count ∧ ((32 * a_s) + a_from) + a_count ≤ 2147483647) <| if x_e1 < ((32 * a_s) + a_from) + a_count then bn (fun (x_n2 : Int) (s3 : S2) => k1 x_n2 (x_e1 + 1) s3) fun k2 => gd (0 ≤ x_e1 ∧ x_e1 ≤ 191) <| if 0 < s2 111 x_e1 then cb (FX8_unmaps x_e1 s2) fun r2 s4 => gd ((-2147483648) ≤ x_n1 + 1 ∧ x_n1 + 1 ≤ 2147483647) <| k2 (x_n1 + 1) s4 else k2 x_n1 s2 else some (x_n1, s2)) 0 ((32 * a_s) + a_from) s1 else some (0, s1)
theorem rgX8_unmap {a_s a_from a_count : Int} {s s0 : S2} {r0 : Int} (hF : FX8_unmap a_s a_from a_count s = some (r0, s0)) : (-2147483648) ≤ r0 ∧ r0 ≤ 2147483647 := (rgd_some hF).2
set_option maxRecDepth 100000 in
set_option maxHeartbeats 4000000 in
theorem ctX8_unmap {l : Launch} {w : gW} {bs : Nat} (hl : l.stackTraces = false) {a_s a_from a_count : Int} {s m s0 : S2} {r0 : Int} (hF : FX8_unmap a_s a_from a_count s = some (r0, s0)) : gMet l w bs yX8_unmap cX8_unmap 6 (some FieldType.int) 4 0 [(11, 0), (0, a_s), (0, a_from), (0, a_count)] (m, s) 0 (some (0, r0)) (m, s0) := by
  unfold FX8_unmap at hF
  obtain ⟨hF, hr⟩ := rgd_some hF
  obtain ⟨q_a_s, hF⟩ := gd_some hF
  obtain ⟨q_a_from, hF⟩ := gd_some hF
  obtain ⟨q_a_count, hF⟩ := gd_some hF
  refine g_start hl (by decide) (Nat.le_of_ble_eq_true rfl) rfl fun X h hE => ?_
  have h : gOk X "PagewrightModel" cX8_unmap 6 4 0 0 := h
  have hE : gEnd X l w bs 0 (some FieldType.int) 0 (some (0, r0)) (m, s0) := hE
  show G X 0 0 0 [(11, 0), (0, a_s), (0, a_from), (0, a_count), (1, 0), (1, 0)] [] (m, s)
  refine g_aload_nq h 0 dX8_unmap_0 rfl rfl ?_
  refine G_typ fun hT_s => ?_
  have t1 : 0 ≤ s 102 0 ∧ s 102 0 ≤ 6 := hT_s.2 102 0
  refine g_aload_nq h 1 dX8_unmap_1 rfl rfl ?_
  refine g_iload_n h 2 dX8_unmap_2 rfl ?_
  refine g_callV h hE 3 dX8_unmap_3 (cpX8_isSpace (a_s := a_s) hl (by omega)) mwX8_isSpace kw_1156 (by decide) (by decide) rfl (Nat.le_of_ble_eq_true rfl) rfl (Nat.le_of_ble_eq_true rfl) ⟨Nat.le_of_ble_eq_true rfl, Nat.le_of_ble_eq_true rfl⟩ rfl rfl ?_
  show G X 0 0 6 [(11, 0), (0, a_s), (0, a_from), (0, a_count), (1, 0), (1, 0)] [(0, (if (0 ≤ a_s) ∧ (a_s ≤ (s 102 0) - 1) then 1 else 0 : Int)), (11, 0)] (m, s)
  refine g_iload_n h 6 dX8_unmap_6 rfl ?_
  refine g_iload_n h 7 dX8_unmap_7 rfl ?_
  refine g_callS h hE 8 dX8_unmap_8 (cpX8_isRow (a_from := a_from) (a_count := a_count) hl (by omega) (by omega)) mwX8_isRow kw_1153 rfl (Nat.le_of_ble_eq_true rfl) rfl (Nat.le_of_ble_eq_true rfl) ⟨Nat.le_of_ble_eq_true rfl, Nat.le_of_ble_eq_true rfl⟩ rfl rfl ?_
  show G X 0 0 11 [(11, 0), (0, a_s), (0, a_from), (0, a_count), (1, 0), (1, 0)] [(0, (if (((0 ≤ a_from) ∧ (a_from ≤ 31)) ∧ ((1 ≤ a_count) ∧ (a_count ≤ 32))) ∧ (a_from + a_count ≤ 32) then 1 else 0 : Int)), (0, (if (0 ≤ a_s) ∧ (a_s ≤ (s 102 0) - 1) then 1 else 0 : Int)), (11, 0)] (m, s)
  have t2 : 0 ≤ s 106 a_s ∧ s 106 a_s ≤ 1 := hT_s.2 106 a_s
  refine g_aload_nq h 11 dX8_unmap_11 rfl rfl ?_
  refine g_iload_n h 12 dX8_unmap_12 rfl ?_
  refine g_callV h hE 13 dX8_unmap_13 (cpX8_isAlive (a_s := a_s) hl (by omega)) mwX8_isAlive kw_1160 (by decide) (by decide) rfl (Nat.le_of_ble_eq_true rfl) rfl (Nat.le_of_ble_eq_true rfl) ⟨Nat.le_of_ble_eq_true rfl, Nat.le_of_ble_eq_true rfl⟩ rfl rfl ?_
  show G X 0 0 16 [(11, 0), (0, a_s), (0, a_from), (0, a_count), (1, 0), (1, 0)] [(0, (if ((0 ≤ a_s) ∧ (a_s ≤ (s 102 0) - 1)) ∧ (s 106 a_s ≠ 0) then 1 else 0 : Int)), (0, (if (((0 ≤ a_from) ∧ (a_from ≤ 31)) ∧ ((1 ≤ a_count) ∧ (a_count ≤ 32))) ∧ (a_from + a_count ≤ 32) then 1 else 0 : Int)), (0, (if (0 ≤ a_s) ∧ (a_s ≤ (s 102 0) - 1) then 1 else 0 : Int)), (11, 0)] (m, s)
  obtain ⟨r1, s1, c1, hF⟩ := cb_some hF
  have t3 : 0 ≤ r1 ∧ r1 ≤ 1 := rgX8_asked__ c1
  refine g_callV h hE 16 dX8_unmap_16 (ctX8_asked__ hl c1) mwX8_asked__ kw_1168 (by decide) (by decide) rfl (Nat.le_of_ble_eq_true rfl) rfl (Nat.le_of_ble_eq_true rfl) ⟨Nat.le_of_ble_eq_true rfl, Nat.le_of_ble_eq_true rfl⟩ rfl rfl ?_
  show G X 0 0 19 [(11, 0), (0, a_s), (0, a_from), (0, a_count), (1, 0), (1, 0)] [(0, r1)] (m, s1)
  refine g_if_ne h 19 24 (gRi (by omega)) dX8_unmap_19 (by decide) (fun h1 => ?_) (fun h1 => ?_)
  · have hF := ite_t h1 hF
    refine g_iconst h 24 dX8_unmap_24 ?_
    refine g_istore h 25 dX8_unmap_25 (Nat.le_of_ble_eq_true rfl) rfl (L' := [(11, 0), (0, a_s), (0, a_from), (0, a_count), (0, 0), (1, 0)]) rfl ?_
    refine g_bipush h 27 dX8_unmap_27 (by decide) ?_
    refine g_iload_n h 29 dX8_unmap_29 rfl ?_
    refine g_imul h 30 dX8_unmap_30 ?_
    refine g_iload_n h 31 dX8_unmap_31 rfl ?_
    refine g_iadd h 32 dX8_unmap_32 ?_
    refine g_istore h 33 dX8_unmap_33 (Nat.le_of_ble_eq_true rfl) rfl (L' := [(11, 0), (0, a_s), (0, a_from), (0, a_count), (0, 0), (0, (32 * a_s) + a_from)]) rfl ?_
    obtain ⟨q7, hF⟩ := gd_some hF
    obtain ⟨f1, ef1, hF⟩ := glx2 hF
    have J7 : ∀ (n1 : Nat) (x_n1 x_e1 : Int) (s2 : S2), ((-2147483648) ≤ x_n1 ∧ x_n1 ≤ 2147483647) → ((-2147483648) ≤ x_e1 ∧ x_e1 ≤ 2147483647) → gl2 n1 f1 x_n1 x_e1 s2 = some (r0, s0) → G X 0 0 35 [(11, 0), (0, a_s), (0, a_from), (0, a_count), (0, x_n1), (0, x_e1)] [] (m, s2) := by
      intro n1
      induction n1 with
      | zero => intro x_n1 x_e1 s2 _ _ hF; exact (gl2_0 hF).elim
      | succ n1 ih1 =>
        intro x_n1 x_e1 s2 q1 q2 hF
        obtain ⟨k1, ek1, hF⟩ := glu2 hF ef1
        obtain ⟨q3, hF⟩ := gd_some hF
        have J2 : x_e1 < ((32 * a_s) + a_from) + a_count → G X 0 0 48 [(11, 0), (0, a_s), (0, a_from), (0, a_count), (0, x_n1), (0, x_e1)] [] (m, s2) := by
          intro h3
          have hF := ite_t h3 hF
          obtain ⟨k2, ek2, hF⟩ := bn_ex hF
          have J4 : ∀ (x_n2 : Int) (s3 : S2), ((-2147483648) ≤ x_n2 ∧ x_n2 ≤ 2147483647) → k2 x_n2 s3 = some (r0, s0) → G X 0 0 67 [(11, 0), (0, a_s), (0, a_from), (0, a_count), (0, x_n2), (0, x_e1)] [] (m, s3) := by
            intro x_n2 s3 q6 hF
            rw [ek2] at hF
            refine g_iinc h 67 dX8_unmap_67 rfl rfl (L' := [(11, 0), (0, a_s), (0, a_from), (0, a_count), (0, x_n2), (0, x_e1 + 1)]) rfl ?_
            refine g_goto h 70 35 dX8_unmap_70 (by decide) ?_
            rw [ek1] at hF
            exact ih1 _ _ _ (by omega) (by omega) hF
          refine G_typ fun hT_s2 => ?_
          have t4 : 0 ≤ s2 111 x_e1 ∧ s2 111 x_e1 ≤ 3 := hT_s2.2 111 x_e1
          obtain ⟨q4, hF⟩ := gd_some hF
          have J5 : 0 < s2 111 x_e1 → G X 0 0 58 [(11, 0), (0, a_s), (0, a_from), (0, a_count), (0, x_n1), (0, x_e1)] [] (m, s2) := by
            intro h5
            have hF := ite_t h5 hF
            refine g_iinc h 58 dX8_unmap_58 rfl rfl (L' := [(11, 0), (0, a_s), (0, a_from), (0, a_count), (0, x_n1 + 1), (0, x_e1)]) rfl ?_
            refine g_aload_nq h 61 dX8_unmap_61 rfl rfl ?_
            refine g_iload h 62 dX8_unmap_62 rfl ?_
            obtain ⟨r2, s4, c2, hF⟩ := cb_some hF
            refine g_callV h hE 64 dX8_unmap_64 (ctX8_unmaps hl c2) mwX8_unmaps kw_1188 (by decide) (by decide) rfl (Nat.le_of_ble_eq_true rfl) rfl (Nat.le_of_ble_eq_true rfl) ⟨Nat.le_of_ble_eq_true rfl, Nat.le_of_ble_eq_true rfl⟩ rfl rfl ?_
            show G X 0 0 67 [(11, 0), (0, a_s), (0, a_from), (0, a_count), (0, x_n1 + 1), (0, x_e1)] [] (m, s4)
            obtain ⟨q5, hF⟩ := gd_some hF
            exact J4 _ _ (by omega) hF
          have J6 : ¬ (0 < s2 111 x_e1) → G X 0 0 67 [(11, 0), (0, a_s), (0, a_from), (0, a_count), (0, x_n1), (0, x_e1)] [] (m, s2) := by
            intro h6
            have hF := ite_f h6 hF
            exact J4 _ _ (by omega) hF
          refine g_aload_nq h 48 dX8_unmap_48 rfl rfl ?_
          refine gf_M_rights h 49 dX8_unmap_49 kw_1017 ?_
          refine g_iload h 52 dX8_unmap_52 rfl ?_
          refine al_M_rights h 54 dX8_unmap_54 (by omega) ?_
          refine g_if_le h 55 67 (gRi (by omega)) dX8_unmap_55 (by decide) (fun h4 => ?_) (fun h4 => ?_)
          · exact J6 (Int.not_lt.mpr h4)
          · exact J5 h4
        have J3 : ¬ (x_e1 < ((32 * a_s) + a_from) + a_count) → G X 0 0 73 [(11, 0), (0, a_s), (0, a_from), (0, a_count), (0, x_n1), (0, x_e1)] [] (m, s2) := by
          intro h7
          have hF := ite_f h7 hF
          refine g_iload h 73 dX8_unmap_73 rfl ?_
          obtain ⟨e1, e2⟩ := some_2 hF
          rw [← e1, ← e2] at hE
          exact g_iret h 75 dX8_unmap_75 hE rfl rfl ⟨(Nat.le_of_ble_eq_true rfl), (Nat.le_of_ble_eq_true rfl)⟩
        refine g_iload h 35 dX8_unmap_35 rfl ?_
        refine g_bipush h 37 dX8_unmap_37 (by decide) ?_
        refine g_iload_n h 39 dX8_unmap_39 rfl ?_
        refine g_imul h 40 dX8_unmap_40 ?_
        refine g_iload_n h 41 dX8_unmap_41 rfl ?_
        refine g_iadd h 42 dX8_unmap_42 ?_
        refine g_iload_n h 43 dX8_unmap_43 rfl ?_
        refine g_iadd h 44 dX8_unmap_44 ?_
        refine g_icmp_ge h 45 73 (gRi (by omega)) (gRi (by omega)) dX8_unmap_45 (by decide) (fun h2 => ?_) (fun h2 => ?_)
        · exact J3 (Int.not_lt.mpr h2)
        · exact J2 h2
    exact J7 _ _ _ _ (by omega) (by omega) hF
  · have hF := ite_f (fun q => q h1) hF
    refine g_iconst h 22 dX8_unmap_22 ?_
    obtain ⟨e1, e2⟩ := some_2 hF
    rw [← e1, ← e2] at hE
    exact g_iret h 23 dX8_unmap_23 hE rfl rfl ⟨(Nat.le_of_ble_eq_true rfl), (Nat.le_of_ble_eq_true rfl)⟩
-- PagewrightModel.end
def FX8_end (a_s : Int) (s : S2) : Option (Int × S2) :=
  rgd (-2147483648) 2147483647 <| gd ((-2147483648) ≤ a_s ∧ a_s ≤ 2147483647) <| cb (FX8_asked_ (if (0 ≤ a_s) ∧ (a_s ≤ (s 102 0) - 1) then 1 else 0 : Int) (if ((0 ≤ a_s) ∧ (a_s ≤ (s 102 0) - 1)) ∧ (s 106 a_s ≠ 0) then 1 else 0 : Int) s) fun r1 s1 => if r1 ≠ 0 then cb (FX8_scoreOf a_s s1) fun r2 s2 => gd (0 ≤ a_s ∧ a_s ≤ 5) <| cb (FX8_ends a_s s2) fun r3 s3 => some (r2 - (s2 108 a_s), s3) else some (0, s1)
theorem rgX8_end {a_s : Int} {s s0 : S2} {r0 : Int} (hF : FX8_end a_s s = some (r0, s0)) : (-2147483648) ≤ r0 ∧ r0 ≤ 2147483647 := (rgd_some hF).2
set_option maxRecDepth 100000 in
set_option maxHeartbeats 4000000 in
theorem ctX8_end {l : Launch} {w : gW} {bs : Nat} (hl : l.stackTraces = false) {a_s : Int} {s m s0 : S2} {r0 : Int} (hF : FX8_end a_s s = some (r0, s0)) : gMet l w bs yX8_end cX8_end 3 (some FieldType.int) 5 0 [(11, 0), (0, a_s)] (m, s) 0 (some (0, r0)) (m, s0) := by
  unfold FX8_end at hF
  obtain ⟨hF, hr⟩ := rgd_some hF
  obtain ⟨q_a_s, hF⟩ := gd_some hF
  refine g_start hl (by decide) (Nat.le_of_ble_eq_true rfl) rfl fun X h hE => ?_
  have h : gOk X "PagewrightModel" cX8_end 3 5 0 0 := h
  have hE : gEnd X l w bs 0 (some FieldType.int) 0 (some (0, r0)) (m, s0) := hE
  show G X 0 0 0 [(11, 0), (0, a_s), (1, 0)] [] (m, s)
  refine g_aload_nq h 0 dX8_end_0 rfl rfl ?_
  refine G_typ fun hT_s => ?_
  have t1 : 0 ≤ s 102 0 ∧ s 102 0 ≤ 6 := hT_s.2 102 0
  refine g_aload_nq h 1 dX8_end_1 rfl rfl ?_
  refine g_iload_n h 2 dX8_end_2 rfl ?_
  refine g_callV h hE 3 dX8_end_3 (cpX8_isSpace (a_s := a_s) hl (by omega)) mwX8_isSpace kw_1156 (by decide) (by decide) rfl (Nat.le_of_ble_eq_true rfl) rfl (Nat.le_of_ble_eq_true rfl) ⟨Nat.le_of_ble_eq_true rfl, Nat.le_of_ble_eq_true rfl⟩ rfl rfl ?_
  show G X 0 0 6 [(11, 0), (0, a_s), (1, 0)] [(0, (if (0 ≤ a_s) ∧ (a_s ≤ (s 102 0) - 1) then 1 else 0 : Int)), (11, 0)] (m, s)
  have t2 : 0 ≤ s 106 a_s ∧ s 106 a_s ≤ 1 := hT_s.2 106 a_s
  refine g_aload_nq h 6 dX8_end_6 rfl rfl ?_
  refine g_iload_n h 7 dX8_end_7 rfl ?_
  refine g_callV h hE 8 dX8_end_8 (cpX8_isAlive (a_s := a_s) hl (by omega)) mwX8_isAlive kw_1160 (by decide) (by decide) rfl (Nat.le_of_ble_eq_true rfl) rfl (Nat.le_of_ble_eq_true rfl) ⟨Nat.le_of_ble_eq_true rfl, Nat.le_of_ble_eq_true rfl⟩ rfl rfl ?_
  show G X 0 0 11 [(11, 0), (0, a_s), (1, 0)] [(0, (if ((0 ≤ a_s) ∧ (a_s ≤ (s 102 0) - 1)) ∧ (s 106 a_s ≠ 0) then 1 else 0 : Int)), (0, (if (0 ≤ a_s) ∧ (a_s ≤ (s 102 0) - 1) then 1 else 0 : Int)), (11, 0)] (m, s)
  obtain ⟨r1, s1, c1, hF⟩ := cb_some hF
  have t3 : 0 ≤ r1 ∧ r1 ≤ 1 := rgX8_asked_ c1
  refine g_callV h hE 11 dX8_end_11 (ctX8_asked_ hl c1) mwX8_asked_ kw_1145 (by decide) (by decide) rfl (Nat.le_of_ble_eq_true rfl) rfl (Nat.le_of_ble_eq_true rfl) ⟨Nat.le_of_ble_eq_true rfl, Nat.le_of_ble_eq_true rfl⟩ rfl rfl ?_
  show G X 0 0 14 [(11, 0), (0, a_s), (1, 0)] [(0, r1)] (m, s1)
  refine g_if_ne h 14 19 (gRi (by omega)) dX8_end_14 (by decide) (fun h1 => ?_) (fun h1 => ?_)
  · have hF := ite_t h1 hF
    refine g_aload_nq h 19 dX8_end_19 rfl rfl ?_
    refine g_iload_n h 20 dX8_end_20 rfl ?_
    obtain ⟨r2, s2, c2, hF⟩ := cb_some hF
    have t4 : (-50) ≤ r2 ∧ r2 ≤ 82 := rgX8_scoreOf c2
    refine g_callV h hE 21 dX8_end_21 (ctX8_scoreOf hl c2) mwX8_scoreOf kw_1244 (by decide) (by decide) rfl (Nat.le_of_ble_eq_true rfl) rfl (Nat.le_of_ble_eq_true rfl) ⟨Nat.le_of_ble_eq_true rfl, Nat.le_of_ble_eq_true rfl⟩ rfl rfl ?_
    show G X 0 0 24 [(11, 0), (0, a_s), (1, 0)] [(0, r2)] (m, s2)
    refine G_typ fun hT_s2 => ?_
    have t5 : (-50) ≤ s2 108 a_s ∧ s2 108 a_s ≤ 50 := hT_s2.2 108 a_s
    obtain ⟨q1, hF⟩ := gd_some hF
    refine g_aload_nq h 24 dX8_end_24 rfl rfl ?_
    refine gf_M_adjusted h 25 dX8_end_25 kw_1014 ?_
    refine g_iload_n h 28 dX8_end_28 rfl ?_
    refine al_M_adjusted h 29 dX8_end_29 (by omega) ?_
    refine g_isub h 30 dX8_end_30 ?_
    refine g_istore_n h 31 dX8_end_31 (Nat.le_of_ble_eq_true rfl) rfl (L' := [(11, 0), (0, a_s), (0, r2 - (s2 108 a_s))]) rfl ?_
    refine g_aload_nq h 32 dX8_end_32 rfl rfl ?_
    refine g_iload_n h 33 dX8_end_33 rfl ?_
    obtain ⟨r3, s3, c3, hF⟩ := cb_some hF
    refine g_callV h hE 34 dX8_end_34 (ctX8_ends hl c3) mwX8_ends kw_1248 (by decide) (by decide) rfl (Nat.le_of_ble_eq_true rfl) rfl (Nat.le_of_ble_eq_true rfl) ⟨Nat.le_of_ble_eq_true rfl, Nat.le_of_ble_eq_true rfl⟩ rfl rfl ?_
    show G X 0 0 37 [(11, 0), (0, a_s), (0, r2 - (s2 108 a_s))] [] (m, s3)
    refine g_iload_n h 37 dX8_end_37 rfl ?_
    obtain ⟨e1, e2⟩ := some_2 hF
    rw [← e1, ← e2] at hE
    exact g_iret h 38 dX8_end_38 hE rfl rfl ⟨(Nat.le_of_ble_eq_true rfl), (Nat.le_of_ble_eq_true rfl)⟩
  · have hF := ite_f (fun q => q h1) hF
    refine g_iconst h 17 dX8_end_17 ?_
    obtain ⟨e1, e2⟩ := some_2 hF
    rw [← e1, ← e2] at hE
    exact g_iret h 18 dX8_end_18 hE rfl rfl ⟨(Nat.le_of_ble_eq_true rfl), (Nat.le_of_ble_eq_true rfl)⟩
-- PagewrightModel.kills
def FX8_kills (a_g : Int) (s : S2) : Option (Int × S2) :=
  rgd (-1) 5 <| gd ((-1) ≤ a_g ∧ a_g ≤ 2) <| gl2 1000 (fun k1 (x_best1 : Int) (x_s1 : Int) (s1 : S2) => if x_s1 < s1 102 0 then bn (fun (v1 : Int) (s2 : S2) => k1 v1 (x_s1 + 1) s2) fun k2 => bn (fun (s3 : S2) => k2 x_s1 s3) fun k3 => bn (fun (s4 : S2) => k2 x_best1 s4) fun k4 => if (s1 106 x_s1 ≠ 0) ∧ ((a_g = (-1)) ∨ (s1 107 x_s1 = a_g)) then if x_best1 = (-1) then k3 s1 else cb (FX8_scoreOf x_s1 s1) fun r1 s5 => cb (FX8_scoreOf x_best1 s5) fun r2 s6 => if r2 < r1 then k3 s6 else k4 s6 else k4 s1 else bn (fun (s7 : S2) => some (x_best1, s7)) fun k5 => if x_best1 ≠ (-1) then cb (FX8_ends x_best1 s1) fun r3 s8 => bn (upd2 s8 140 7 ((s8 140 7) + 1)) fun s9 => k5 s9 else k5 s1) (-1) 0 s
theorem rgX8_kills {a_g : Int} {s s0 : S2} {r0 : Int} (hF : FX8_kills a_g s = some (r0, s0)) : (-1) ≤ r0 ∧ r0 ≤ 5 := (rgd_some hF).2
set_option maxRecDepth 100000 in
set_option maxHeartbeats 4000000 in
theorem ctX8_kills {l : Launch} {w : gW} {bs : Nat} (hl : l.stackTraces = false) {a_g : Int} {s m s0 : S2} {r0 : Int} (hF : FX8_kills a_g s = some (r0, s0)) : gMet l w bs yX8_kills cX8_kills 4 (some FieldType.int) 5 0 [(11, 0), (0, a_g)] (m, s) 0 (some (0, r0)) (m, s0) := by
  unfold FX8_kills at hF
  obtain ⟨hF, hr⟩ := rgd_some hF
  obtain ⟨q_a_g, hF⟩ := gd_some hF
  refine g_start hl (by decide) (Nat.le_of_ble_eq_true rfl) rfl fun X h hE => ?_
  have h : gOk X "PagewrightModel" cX8_kills 4 5 0 0 := h
  have hE : gEnd X l w bs 0 (some FieldType.int) 0 (some (0, r0)) (m, s0) := hE
  show G X 0 0 0 [(11, 0), (0, a_g), (1, 0), (1, 0)] [] (m, s)
  refine g_iconst h 0 dX8_kills_0 ?_
  refine g_istore_n h 1 dX8_kills_1 (Nat.le_of_ble_eq_true rfl) rfl (L' := [(11, 0), (0, a_g), (0, (-1)), (1, 0)]) rfl ?_
  refine g_iconst h 2 dX8_kills_2 ?_
  refine g_istore_n h 3 dX8_kills_3 (Nat.le_of_ble_eq_true rfl) rfl (L' := [(11, 0), (0, a_g), (0, (-1)), (0, 0)]) rfl ?_
  obtain ⟨f1, ef1, hF⟩ := glx2 hF
  have J14 : ∀ (n1 : Nat) (x_best1 x_s1 : Int) (s1 : S2), ((-2147483648) ≤ x_best1 ∧ x_best1 ≤ 2147483647) → (0 ≤ x_s1 ∧ x_s1 ≤ 6) → gl2 n1 f1 x_best1 x_s1 s1 = some (r0, s0) → G X 0 0 4 [(11, 0), (0, a_g), (0, x_best1), (0, x_s1)] [] (m, s1) := by
    intro n1
    induction n1 with
    | zero => intro x_best1 x_s1 s1 _ _ hF; exact (gl2_0 hF).elim
    | succ n1 ih1 =>
      intro x_best1 x_s1 s1 q1 q2 hF
      obtain ⟨k1, ek1, hF⟩ := glu2 hF ef1
      refine G_typ fun hT_s1 => ?_
      have t1 : 0 ≤ s1 102 0 ∧ s1 102 0 ≤ 6 := hT_s1.2 102 0
      have J2 : x_s1 < s1 102 0 → G X 0 0 12 [(11, 0), (0, a_g), (0, x_best1), (0, x_s1)] [] (m, s1) := by
        intro h2
        have hF := ite_t h2 hF
        obtain ⟨k2, ek2, hF⟩ := bn_ex hF
        have J4 : ∀ (v1 : Int) (s2 : S2), ((-2147483648) ≤ v1 ∧ v1 ≤ 2147483647) → k2 v1 s2 = some (r0, s0) → G X 0 0 59 [(11, 0), (0, a_g), (0, x_best1), (0, x_s1)] [(0, v1)] (m, s2) := by
          intro v1 s2 q3 hF
          rw [ek2] at hF
          refine g_istore_n h 59 dX8_kills_59 (Nat.le_of_ble_eq_true rfl) rfl (L' := [(11, 0), (0, a_g), (0, v1), (0, x_s1)]) rfl ?_
          refine g_iinc h 60 dX8_kills_60 rfl rfl (L' := [(11, 0), (0, a_g), (0, v1), (0, x_s1 + 1)]) rfl ?_
          refine g_goto h 63 4 dX8_kills_63 (by decide) ?_
          rw [ek1] at hF
          exact ih1 _ _ _ (by omega) (by omega) hF
        obtain ⟨k3, ek3, hF⟩ := bn_ex hF
        have J5 : ∀ (s3 : S2), k3 s3 = some (r0, s0) → G X 0 0 54 [(11, 0), (0, a_g), (0, x_best1), (0, x_s1)] [] (m, s3) := by
          intro s3 hF
          rw [ek3] at hF
          refine g_iload_n h 54 dX8_kills_54 rfl ?_
          refine g_goto h 55 59 dX8_kills_55 (by decide) ?_
          exact J4 _ _ (by omega) hF
        obtain ⟨k4, ek4, hF⟩ := bn_ex hF
        have J6 : ∀ (s4 : S2), k4 s4 = some (r0, s0) → G X 0 0 58 [(11, 0), (0, a_g), (0, x_best1), (0, x_s1)] [] (m, s4) := by
          intro s4 hF
          rw [ek4] at hF
          refine g_iload_n h 58 dX8_kills_58 rfl ?_
          exact J4 _ _ (by omega) hF
        have t2 : 0 ≤ s1 106 x_s1 ∧ s1 106 x_s1 ≤ 1 := hT_s1.2 106 x_s1
        have t3 : 0 ≤ s1 107 x_s1 ∧ s1 107 x_s1 ≤ 2 := hT_s1.2 107 x_s1
        have J7 : (s1 106 x_s1 ≠ 0) ∧ ((a_g = (-1)) ∨ (s1 107 x_s1 = a_g)) → G X 0 0 36 [(11, 0), (0, a_g), (0, x_best1), (0, x_s1)] [] (m, s1) := by
          intro h6
          have hF := ite_t h6 hF
          have J9 : x_best1 = (-1) → G X 0 0 54 [(11, 0), (0, a_g), (0, x_best1), (0, x_s1)] [] (m, s1) := by
            intro h8
            have hF := ite_t h8 hF
            exact J5 _ hF
          have J10 : ¬ (x_best1 = (-1)) → G X 0 0 41 [(11, 0), (0, a_g), (0, x_best1), (0, x_s1)] [] (m, s1) := by
            intro h9
            have hF := ite_f h9 hF
            refine g_aload_nq h 41 dX8_kills_41 rfl rfl ?_
            refine g_iload_n h 42 dX8_kills_42 rfl ?_
            obtain ⟨r1, s5, c1, hF⟩ := cb_some hF
            have t4 : (-50) ≤ r1 ∧ r1 ≤ 82 := rgX8_scoreOf c1
            refine g_callV h hE 43 dX8_kills_43 (ctX8_scoreOf hl c1) mwX8_scoreOf kw_1244 (by decide) (by decide) rfl (Nat.le_of_ble_eq_true rfl) rfl (Nat.le_of_ble_eq_true rfl) ⟨Nat.le_of_ble_eq_true rfl, Nat.le_of_ble_eq_true rfl⟩ rfl rfl ?_
            show G X 0 0 46 [(11, 0), (0, a_g), (0, x_best1), (0, x_s1)] [(0, r1)] (m, s5)
            refine g_aload_nq h 46 dX8_kills_46 rfl rfl ?_
            refine g_iload_n h 47 dX8_kills_47 rfl ?_
            obtain ⟨r2, s6, c2, hF⟩ := cb_some hF
            have t5 : (-50) ≤ r2 ∧ r2 ≤ 82 := rgX8_scoreOf c2
            refine g_callV h hE 48 dX8_kills_48 (ctX8_scoreOf hl c2) mwX8_scoreOf kw_1244 (by decide) (by decide) rfl (Nat.le_of_ble_eq_true rfl) rfl (Nat.le_of_ble_eq_true rfl) ⟨Nat.le_of_ble_eq_true rfl, Nat.le_of_ble_eq_true rfl⟩ rfl rfl ?_
            show G X 0 0 51 [(11, 0), (0, a_g), (0, x_best1), (0, x_s1)] [(0, r2), (0, r1)] (m, s6)
            refine g_icmp_le h 51 58 (gRi (by omega)) (gRi (by omega)) dX8_kills_51 (by decide) (fun h10 => ?_) (fun h10 => ?_)
            · have hF := ite_f (Int.not_lt.mpr h10) hF
              exact J6 _ hF
            · have hF := ite_t h10 hF
              exact J5 _ hF
          refine g_iload_n h 36 dX8_kills_36 rfl ?_
          refine g_iconst h 37 dX8_kills_37 ?_
          refine g_icmp_eq h 38 54 (gRi (by omega)) (gRi (by omega)) dX8_kills_38 (by decide) (fun h7 => ?_) (fun h7 => ?_)
          · exact J9 h7
          · exact J10 h7
        have J8 : ¬ ((s1 106 x_s1 ≠ 0) ∧ ((a_g = (-1)) ∨ (s1 107 x_s1 = a_g))) → G X 0 0 58 [(11, 0), (0, a_g), (0, x_best1), (0, x_s1)] [] (m, s1) := by
          intro h11
          have hF := ite_f h11 hF
          exact J6 _ hF
        refine g_aload_nq h 12 dX8_kills_12 rfl rfl ?_
        refine gf_M_lives h 13 dX8_kills_13 kw_1012 ?_
        refine g_iload_n h 16 dX8_kills_16 rfl ?_
        refine al_M_lives h 17 dX8_kills_17 (by omega) ?_
        refine g_if_eq h 18 58 (gRi (by omega)) dX8_kills_18 (by decide) (fun h3 => ?_) (fun h3 => ?_)
        · exact J8 (fun q => (fun q => q h3) q.1)
        · refine g_iload_n h 21 dX8_kills_21 rfl ?_
          refine g_iconst h 22 dX8_kills_22 ?_
          refine g_icmp_eq h 23 36 (gRi (by omega)) (gRi (by omega)) dX8_kills_23 (by decide) (fun h4 => ?_) (fun h4 => ?_)
          · exact J7 ⟨h3, (Or.inl h4)⟩
          · refine g_aload_nq h 26 dX8_kills_26 rfl rfl ?_
            refine gf_M_group h 27 dX8_kills_27 kw_1013 ?_
            refine g_iload_n h 30 dX8_kills_30 rfl ?_
            refine al_M_group h 31 dX8_kills_31 (by omega) ?_
            refine g_iload_n h 32 dX8_kills_32 rfl ?_
            refine g_icmp_ne h 33 58 (gRi (by omega)) (gRi (by omega)) dX8_kills_33 (by decide) (fun h5 => ?_) (fun h5 => ?_)
            · exact J8 (fun q => (fun q => q.elim h4 h5) q.2)
            · exact J7 ⟨h3, (Or.inr h5)⟩
      have J3 : ¬ (x_s1 < s1 102 0) → G X 0 0 66 [(11, 0), (0, a_g), (0, x_best1), (0, x_s1)] [] (m, s1) := by
        intro h12
        have hF := ite_f h12 hF
        obtain ⟨k5, ek5, hF⟩ := bn_ex hF
        have J11 : ∀ (s7 : S2), k5 s7 = some (r0, s0) → G X 0 0 87 [(11, 0), (0, a_g), (0, x_best1), (1, 0)] [] (m, s7) := by
          intro s7 hF
          rw [ek5] at hF
          refine g_iload_n h 87 dX8_kills_87 rfl ?_
          obtain ⟨e1, e2⟩ := some_2 hF
          rw [← e1, ← e2] at hE
          exact g_iret h 88 dX8_kills_88 hE rfl rfl ⟨(Nat.le_of_ble_eq_true rfl), (Nat.le_of_ble_eq_true rfl)⟩
        have J12 : x_best1 ≠ (-1) → G X 0 0 71 [(11, 0), (0, a_g), (0, x_best1), (0, x_s1)] [] (m, s1) := by
          intro h14
          have hF := ite_t h14 hF
          refine g_aload_nq h 71 dX8_kills_71 rfl rfl ?_
          refine g_iload_n h 72 dX8_kills_72 rfl ?_
          obtain ⟨r3, s8, c3, hF⟩ := cb_some hF
          refine g_callV h hE 73 dX8_kills_73 (ctX8_ends hl c3) mwX8_ends kw_1248 (by decide) (by decide) rfl (Nat.le_of_ble_eq_true rfl) rfl (Nat.le_of_ble_eq_true rfl) ⟨Nat.le_of_ble_eq_true rfl, Nat.le_of_ble_eq_true rfl⟩ rfl rfl ?_
          show G X 0 0 76 [(11, 0), (0, a_g), (0, x_best1), (0, x_s1)] [] (m, s8)
          refine g_aload_nq h 76 dX8_kills_76 rfl rfl ?_
          refine gf_M_counts h 77 dX8_kills_77 kw_1047 ?_
          refine g_bipush h 80 dX8_kills_80 (by decide) ?_
          refine g_dup2 h 82 dX8_kills_82 (show (0 : Nat) ≠ 2 by decide) (show (58 : Nat) ≠ 2 by decide) ?_
          refine al_M_counts h 83 dX8_kills_83 (by omega) ?_
          refine g_iconst h 84 dX8_kills_84 ?_
          refine g_iadd h 85 dX8_kills_85 ?_
          obtain ⟨s9, es9, hF⟩ := bn_ex hF
          refine as_M_counts h 86 dX8_kills_86 (by omega) ?_
          rw [← es9]
          refine G_weak (L' := [(11, 0), (0, a_g), (0, x_best1), (1, 0)]) ⟨Or.inr rfl, Or.inr rfl, Or.inr rfl, Or.inl rfl, trivial⟩ ?_
          exact J11 _ hF
        have J13 : ¬ (x_best1 ≠ (-1)) → G X 0 0 87 [(11, 0), (0, a_g), (0, x_best1), (0, x_s1)] [] (m, s1) := by
          intro h15
          have hF := ite_f h15 hF
          refine G_weak (L' := [(11, 0), (0, a_g), (0, x_best1), (1, 0)]) ⟨Or.inr rfl, Or.inr rfl, Or.inr rfl, Or.inl rfl, trivial⟩ ?_
          exact J11 _ hF
        refine g_iload_n h 66 dX8_kills_66 rfl ?_
        refine g_iconst h 67 dX8_kills_67 ?_
        refine g_icmp_eq h 68 87 (gRi (by omega)) (gRi (by omega)) dX8_kills_68 (by decide) (fun h13 => ?_) (fun h13 => ?_)
        · exact J13 (fun q => q h13)
        · exact J12 h13
      refine g_iload_n h 4 dX8_kills_4 rfl ?_
      refine g_aload_nq h 5 dX8_kills_5 rfl rfl ?_
      refine gf_M_spaces h 6 dX8_kills_6 kw_1011 ?_
      refine g_icmp_ge h 9 66 (gRi (by omega)) (gRi (by omega)) dX8_kills_9 (by decide) (fun h1 => ?_) (fun h1 => ?_)
      · exact J3 (Int.not_lt.mpr h1)
      · exact J2 h1
  exact J14 _ _ _ _ (by omega) (by omega) hF
-- PagewrightModel.scan
def FX8_scan (a_addresses : Int) (s : S2) : Option (Int × S2) :=
  rgd (-2147483648) 2147483647 <| gd ((-2147483648) ≤ a_addresses ∧ a_addresses ≤ 2147483647) <| cb (FX8_asked (if (1 ≤ a_addresses) ∧ (a_addresses ≤ 192) then 1 else 0 : Int) s) fun r1 s1 => if r1 ≠ 0 then gl2 1000 (fun k1 (x_some1 : Int) (x_s1 : Int) (s2 : S2) => if x_s1 < s2 102 0 then k1 (gOr x_some1 (if (((0 ≤ x_s1) ∧ (x_s1 ≤ (s2 102 0) - 1)) ∧ (s2 106 x_s1 ≠ 0)) ∧ (s2 109 x_s1 ≠ 0) then 1 else 0 : Int)) (x_s1 + 1) s2 else gl2 1000 (fun k2 (x_n1 : Int) (x_k1 : Int) (s3 : S2) => if (x_k1 < a_addresses) ∧ (x_some1 ≠ 0) then gl0 1000 (fun k3  (s4 : S2) => if ¬ ((((0 ≤ (s4 104 0) / 32) ∧ ((s4 104 0) / 32 ≤ (s4 102 0) - 1)) ∧ (s4 106 ((s4 104 0) / 32) ≠ 0)) ∧ (s4 109 ((s4 104 0) / 32) ≠ 0)) then cb (FX8_passes (32 - ((s4 104 0) % 32)) s4) fun r2 s5 => k3 s5 else cb (FX8_scans (s4 104 0) s4) fun r3 s6 => cb (FX8_passes 1 s6) fun r4 s7 => gd ((-2147483648) ≤ x_n1 + r3 ∧ x_n1 + r3 ≤ 2147483647) <| k2 (x_n1 + r3) (x_k1 + 1) s7) s3 else some (x_n1, s3)) 0 0 s2) 0 0 s1 else some (0, s1)
theorem rgX8_scan {a_addresses : Int} {s s0 : S2} {r0 : Int} (hF : FX8_scan a_addresses s = some (r0, s0)) : (-2147483648) ≤ r0 ∧ r0 ≤ 2147483647 := (rgd_some hF).2
set_option maxRecDepth 100000 in
set_option maxHeartbeats 4000000 in
theorem ctX8_scan {l : Launch} {w : gW} {bs : Nat} (hl : l.stackTraces = false) {a_addresses : Int} {s m s0 : S2} {r0 : Int} (hF : FX8_scan a_addresses s = some (r0, s0)) : gMet l w bs yX8_scan cX8_scan 5 (some FieldType.int) 5 0 [(11, 0), (0, a_addresses)] (m, s) 0 (some (0, r0)) (m, s0) := by
  unfold FX8_scan at hF
  obtain ⟨hF, hr⟩ := rgd_some hF
  obtain ⟨q_a_addresses, hF⟩ := gd_some hF
  refine g_start hl (by decide) (Nat.le_of_ble_eq_true rfl) rfl fun X h hE => ?_
  have h : gOk X "PagewrightModel" cX8_scan 5 5 0 0 := h
  have hE : gEnd X l w bs 0 (some FieldType.int) 0 (some (0, r0)) (m, s0) := hE
  show G X 0 0 0 [(11, 0), (0, a_addresses), (1, 0), (1, 0), (1, 0)] [] (m, s)
  refine g_aload_nq h 0 dX8_scan_0 rfl rfl ?_
  refine g_iload_n h 1 dX8_scan_1 rfl ?_
  refine g_iconst h 2 dX8_scan_2 ?_
  refine g_sipush h 3 dX8_scan_3 (by decide) ?_
  refine g_callS h hE 6 dX8_scan_6 (cpX8_in (a_v := a_addresses) (a_low := 1) (a_high := 192) hl (by omega) (by omega) (by omega)) mwX8_in kw_1142 rfl (Nat.le_of_ble_eq_true rfl) rfl (Nat.le_of_ble_eq_true rfl) ⟨Nat.le_of_ble_eq_true rfl, Nat.le_of_ble_eq_true rfl⟩ rfl rfl ?_
  show G X 0 0 9 [(11, 0), (0, a_addresses), (1, 0), (1, 0), (1, 0)] [(0, (if (1 ≤ a_addresses) ∧ (a_addresses ≤ 192) then 1 else 0 : Int)), (11, 0)] (m, s)
  obtain ⟨r1, s1, c1, hF⟩ := cb_some hF
  have t1 : 0 ≤ r1 ∧ r1 ≤ 1 := rgX8_asked c1
  refine g_callV h hE 9 dX8_scan_9 (ctX8_asked hl c1) mwX8_asked kw_1260 (by decide) (by decide) rfl (Nat.le_of_ble_eq_true rfl) rfl (Nat.le_of_ble_eq_true rfl) ⟨Nat.le_of_ble_eq_true rfl, Nat.le_of_ble_eq_true rfl⟩ rfl rfl ?_
  show G X 0 0 12 [(11, 0), (0, a_addresses), (1, 0), (1, 0), (1, 0)] [(0, r1)] (m, s1)
  refine g_if_ne h 12 17 (gRi (by omega)) dX8_scan_12 (by decide) (fun h1 => ?_) (fun h1 => ?_)
  · have hF := ite_t h1 hF
    refine g_iconst h 17 dX8_scan_17 ?_
    refine g_istore_n h 18 dX8_scan_18 (Nat.le_of_ble_eq_true rfl) rfl (L' := [(11, 0), (0, a_addresses), (0, 0), (1, 0), (1, 0)]) rfl ?_
    refine g_iconst h 19 dX8_scan_19 ?_
    refine g_istore_n h 20 dX8_scan_20 (Nat.le_of_ble_eq_true rfl) rfl (L' := [(11, 0), (0, a_addresses), (0, 0), (0, 0), (1, 0)]) rfl ?_
    obtain ⟨f1, ef1, hF⟩ := glx2 hF
    have J12 : ∀ (n1 : Nat) (x_some1 x_s1 : Int) (s2 : S2), (0 ≤ x_some1 ∧ x_some1 ≤ 1) → (0 ≤ x_s1 ∧ x_s1 ≤ 6) → gl2 n1 f1 x_some1 x_s1 s2 = some (r0, s0) → G X 0 0 21 [(11, 0), (0, a_addresses), (0, x_some1), (0, x_s1), (1, 0)] [] (m, s2) := by
      intro n1
      induction n1 with
      | zero => intro x_some1 x_s1 s2 _ _ hF; exact (gl2_0 hF).elim
      | succ n1 ih1 =>
        intro x_some1 x_s1 s2 q1 q2 hF
        obtain ⟨k1, ek1, hF⟩ := glu2 hF ef1
        refine G_typ fun hT_s2 => ?_
        have t2 : 0 ≤ s2 102 0 ∧ s2 102 0 ≤ 6 := hT_s2.2 102 0
        have J2 : x_s1 < s2 102 0 → G X 0 0 29 [(11, 0), (0, a_addresses), (0, x_some1), (0, x_s1), (1, 0)] [] (m, s2) := by
          intro h3
          have hF := ite_t h3 hF
          have t3 : 0 ≤ s2 106 x_s1 ∧ s2 106 x_s1 ≤ 1 := hT_s2.2 106 x_s1
          have t4 : 0 ≤ s2 109 x_s1 ∧ s2 109 x_s1 ≤ 1 := hT_s2.2 109 x_s1
          have t5 : 0 ≤ gOr x_some1 (if (((0 ≤ x_s1) ∧ (x_s1 ≤ (s2 102 0) - 1)) ∧ (s2 106 x_s1 ≠ 0)) ∧ (s2 109 x_s1 ≠ 0) then 1 else 0 : Int) ∧ gOr x_some1 (if (((0 ≤ x_s1) ∧ (x_s1 ≤ (s2 102 0) - 1)) ∧ (s2 106 x_s1 ≠ 0)) ∧ (s2 109 x_s1 ≠ 0) then 1 else 0 : Int) ≤ 1 := gOr_01 (by omega) (by omega)
          refine g_iload_n h 29 dX8_scan_29 rfl ?_
          refine g_aload_nq h 30 dX8_scan_30 rfl rfl ?_
          refine g_iload_n h 31 dX8_scan_31 rfl ?_
          refine g_callV h hE 32 dX8_scan_32 (cpX8_isMerging (a_s := x_s1) hl (by omega)) mwX8_isMerging kw_1424 (by decide) (by decide) rfl (Nat.le_of_ble_eq_true rfl) rfl (Nat.le_of_ble_eq_true rfl) ⟨Nat.le_of_ble_eq_true rfl, Nat.le_of_ble_eq_true rfl⟩ rfl rfl ?_
          show G X 0 0 35 [(11, 0), (0, a_addresses), (0, x_some1), (0, x_s1), (1, 0)] [(0, (if (((0 ≤ x_s1) ∧ (x_s1 ≤ (s2 102 0) - 1)) ∧ (s2 106 x_s1 ≠ 0)) ∧ (s2 109 x_s1 ≠ 0) then 1 else 0 : Int)), (0, x_some1)] (m, s2)
          refine g_ior h 35 dX8_scan_35 ?_
          refine g_istore_n h 36 dX8_scan_36 (Nat.le_of_ble_eq_true rfl) rfl (L' := [(11, 0), (0, a_addresses), (0, gOr x_some1 (if (((0 ≤ x_s1) ∧ (x_s1 ≤ (s2 102 0) - 1)) ∧ (s2 106 x_s1 ≠ 0)) ∧ (s2 109 x_s1 ≠ 0) then 1 else 0 : Int)), (0, x_s1), (1, 0)]) rfl ?_
          refine g_iinc h 37 dX8_scan_37 rfl rfl (L' := [(11, 0), (0, a_addresses), (0, gOr x_some1 (if (((0 ≤ x_s1) ∧ (x_s1 ≤ (s2 102 0) - 1)) ∧ (s2 106 x_s1 ≠ 0)) ∧ (s2 109 x_s1 ≠ 0) then 1 else 0 : Int)), (0, x_s1 + 1), (1, 0)]) rfl ?_
          refine g_goto h 40 21 dX8_scan_40 (by decide) ?_
          rw [ek1] at hF
          exact ih1 _ _ _ (by omega) (by omega) hF
        have J3 : ¬ (x_s1 < s2 102 0) → G X 0 0 43 [(11, 0), (0, a_addresses), (0, x_some1), (0, x_s1), (1, 0)] [] (m, s2) := by
          intro h4
          have hF := ite_f h4 hF
          refine g_iconst h 43 dX8_scan_43 ?_
          refine g_istore_n h 44 dX8_scan_44 (Nat.le_of_ble_eq_true rfl) rfl (L' := [(11, 0), (0, a_addresses), (0, x_some1), (0, 0), (1, 0)]) rfl ?_
          refine g_iconst h 45 dX8_scan_45 ?_
          refine g_istore h 46 dX8_scan_46 (Nat.le_of_ble_eq_true rfl) rfl (L' := [(11, 0), (0, a_addresses), (0, x_some1), (0, 0), (0, 0)]) rfl ?_
          obtain ⟨f2, ef2, hF⟩ := glx2 hF
          have J11 : ∀ (n2 : Nat) (x_n1 x_k1 : Int) (s3 : S2), ((-2147483648) ≤ x_n1 ∧ x_n1 ≤ 2147483647) → (0 ≤ x_k1 ∧ x_k1 ≤ 2147483647) → gl2 n2 f2 x_n1 x_k1 s3 = some (r0, s0) → G X 0 0 48 [(11, 0), (0, a_addresses), (0, x_some1), (0, x_n1), (0, x_k1)] [] (m, s3) := by
            intro n2
            induction n2 with
            | zero => intro x_n1 x_k1 s3 _ _ hF; exact (gl2_0 hF).elim
            | succ n2 ih2 =>
              intro x_n1 x_k1 s3 q3 q4 hF
              obtain ⟨k2, ek2, hF⟩ := glu2 hF ef2
              have J5 : (x_k1 < a_addresses) ∧ (x_some1 ≠ 0) → G X 0 0 58 [(11, 0), (0, a_addresses), (0, x_some1), (0, x_n1), (0, x_k1)] [] (m, s3) := by
                intro h7
                have hF := ite_t h7 hF
                obtain ⟨f3, ef3, hF⟩ := glx0 hF
                have J10 : ∀ (n3 : Nat) (s4 : S2), gl0 n3 f3 s4 = some (r0, s0) → G X 0 0 58 [(11, 0), (0, a_addresses), (0, x_some1), (0, x_n1), (0, x_k1)] [] (m, s4) := by
                  intro n3
                  induction n3 with
                  | zero => intro s4 hF; exact (gl0_0 hF).elim
                  | succ n3 ih3 =>
                    intro s4 hF
                    obtain ⟨k3, ek3, hF⟩ := glu0 hF ef3
                    refine G_typ fun hT_s4 => ?_
                    have t6 : 0 ≤ s4 104 0 ∧ s4 104 0 ≤ 192 := hT_s4.2 104 0
                    have t7 : 0 ≤ s4 102 0 ∧ s4 102 0 ≤ 6 := hT_s4.2 102 0
                    have t8 : 0 ≤ s4 106 ((s4 104 0) / 32) ∧ s4 106 ((s4 104 0) / 32) ≤ 1 := hT_s4.2 106 ((s4 104 0) / 32)
                    have t9 : 0 ≤ s4 109 ((s4 104 0) / 32) ∧ s4 109 ((s4 104 0) / 32) ≤ 1 := hT_s4.2 109 ((s4 104 0) / 32)
                    have J8 : ¬ ((((0 ≤ (s4 104 0) / 32) ∧ ((s4 104 0) / 32 ≤ (s4 102 0) - 1)) ∧ (s4 106 ((s4 104 0) / 32) ≠ 0)) ∧ (s4 109 ((s4 104 0) / 32) ≠ 0)) → G X 0 0 72 [(11, 0), (0, a_addresses), (0, x_some1), (0, x_n1), (0, x_k1)] [] (m, s4) := by
                      intro h9
                      have hF := ite_t h9 hF
                      refine g_aload_nq h 72 dX8_scan_72 rfl rfl ?_
                      refine g_bipush h 73 dX8_scan_73 (by decide) ?_
                      refine g_aload_nq h 75 dX8_scan_75 rfl rfl ?_
                      refine gf_M_next h 76 dX8_scan_76 kw_1048 ?_
                      refine g_bipush h 79 dX8_scan_79 (by decide) ?_
                      refine g_irem h 81 dX8_scan_81 (by omega) (by omega) ?_
                      refine g_isub h 82 dX8_scan_82 ?_
                      obtain ⟨r2, s5, c2, hF⟩ := cb_some hF
                      refine g_callV h hE 83 dX8_scan_83 (ctX8_passes hl c2) mwX8_passes kw_1428 (by decide) (by decide) rfl (Nat.le_of_ble_eq_true rfl) rfl (Nat.le_of_ble_eq_true rfl) ⟨Nat.le_of_ble_eq_true rfl, Nat.le_of_ble_eq_true rfl⟩ rfl rfl ?_
                      show G X 0 0 86 [(11, 0), (0, a_addresses), (0, x_some1), (0, x_n1), (0, x_k1)] [] (m, s5)
                      refine g_goto h 86 58 dX8_scan_86 (by decide) ?_
                      rw [ek3] at hF
                      exact ih3 _ hF
                    have J9 : ¬ (¬ ((((0 ≤ (s4 104 0) / 32) ∧ ((s4 104 0) / 32 ≤ (s4 102 0) - 1)) ∧ (s4 106 ((s4 104 0) / 32) ≠ 0)) ∧ (s4 109 ((s4 104 0) / 32) ≠ 0))) → G X 0 0 89 [(11, 0), (0, a_addresses), (0, x_some1), (0, x_n1), (0, x_k1)] [] (m, s4) := by
                      intro h10
                      have hF := ite_f h10 hF
                      refine g_iload_n h 89 dX8_scan_89 rfl ?_
                      refine g_aload_nq h 90 dX8_scan_90 rfl rfl ?_
                      refine g_aload_nq h 91 dX8_scan_91 rfl rfl ?_
                      refine gf_M_next h 92 dX8_scan_92 kw_1048 ?_
                      obtain ⟨r3, s6, c3, hF⟩ := cb_some hF
                      have t10 : 0 ≤ r3 ∧ r3 ≤ 1 := rgX8_scans c3
                      refine g_callV h hE 95 dX8_scan_95 (ctX8_scans hl c3) mwX8_scans kw_1432 (by decide) (by decide) rfl (Nat.le_of_ble_eq_true rfl) rfl (Nat.le_of_ble_eq_true rfl) ⟨Nat.le_of_ble_eq_true rfl, Nat.le_of_ble_eq_true rfl⟩ rfl rfl ?_
                      show G X 0 0 98 [(11, 0), (0, a_addresses), (0, x_some1), (0, x_n1), (0, x_k1)] [(0, r3), (0, x_n1)] (m, s6)
                      refine g_iadd h 98 dX8_scan_98 ?_
                      refine g_istore_n h 99 dX8_scan_99 (Nat.le_of_ble_eq_true rfl) rfl (L' := [(11, 0), (0, a_addresses), (0, x_some1), (0, x_n1 + r3), (0, x_k1)]) rfl ?_
                      refine g_aload_nq h 100 dX8_scan_100 rfl rfl ?_
                      refine g_iconst h 101 dX8_scan_101 ?_
                      obtain ⟨r4, s7, c4, hF⟩ := cb_some hF
                      refine g_callV h hE 102 dX8_scan_102 (ctX8_passes hl c4) mwX8_passes kw_1428 (by decide) (by decide) rfl (Nat.le_of_ble_eq_true rfl) rfl (Nat.le_of_ble_eq_true rfl) ⟨Nat.le_of_ble_eq_true rfl, Nat.le_of_ble_eq_true rfl⟩ rfl rfl ?_
                      show G X 0 0 105 [(11, 0), (0, a_addresses), (0, x_some1), (0, x_n1 + r3), (0, x_k1)] [] (m, s7)
                      refine g_iinc h 105 dX8_scan_105 rfl rfl (L' := [(11, 0), (0, a_addresses), (0, x_some1), (0, x_n1 + r3), (0, x_k1 + 1)]) rfl ?_
                      refine g_goto h 108 48 dX8_scan_108 (by decide) ?_
                      obtain ⟨q5, hF⟩ := gd_some hF
                      rw [ek2] at hF
                      exact ih2 _ _ _ (by omega) (by omega) hF
                    refine g_aload_nq h 58 dX8_scan_58 rfl rfl ?_
                    refine g_aload_nq h 59 dX8_scan_59 rfl rfl ?_
                    refine gf_M_next h 60 dX8_scan_60 kw_1048 ?_
                    refine g_bipush h 63 dX8_scan_63 (by decide) ?_
                    refine g_idiv h 65 dX8_scan_65 (by omega) (by omega) ?_
                    refine g_callV h hE 66 dX8_scan_66 (cpX8_isMerging (a_s := (s4 104 0) / 32) hl (by omega)) mwX8_isMerging kw_1424 (by decide) (by decide) rfl (Nat.le_of_ble_eq_true rfl) rfl (Nat.le_of_ble_eq_true rfl) ⟨Nat.le_of_ble_eq_true rfl, Nat.le_of_ble_eq_true rfl⟩ rfl rfl ?_
                    show G X 0 0 69 [(11, 0), (0, a_addresses), (0, x_some1), (0, x_n1), (0, x_k1)] [(0, (if (((0 ≤ (s4 104 0) / 32) ∧ ((s4 104 0) / 32 ≤ (s4 102 0) - 1)) ∧ (s4 106 ((s4 104 0) / 32) ≠ 0)) ∧ (s4 109 ((s4 104 0) / 32) ≠ 0) then 1 else 0 : Int))] (m, s4)
                    refine g_if_ne h 69 89 (gRi gR_ite) dX8_scan_69 (by decide) (fun h8 => ?_) (fun h8 => ?_)
                    · exact J9 (fun q => q (iz_t h8))
                    · exact J8 (iz_f h8)
                exact J10 _ _ hF
              have J6 : ¬ ((x_k1 < a_addresses) ∧ (x_some1 ≠ 0)) → G X 0 0 111 [(11, 0), (0, a_addresses), (0, x_some1), (0, x_n1), (0, x_k1)] [] (m, s3) := by
                intro h11
                have hF := ite_f h11 hF
                refine g_iload_n h 111 dX8_scan_111 rfl ?_
                obtain ⟨e1, e2⟩ := some_2 hF
                rw [← e1, ← e2] at hE
                exact g_iret h 112 dX8_scan_112 hE rfl rfl ⟨(Nat.le_of_ble_eq_true rfl), (Nat.le_of_ble_eq_true rfl)⟩
              refine g_iload h 48 dX8_scan_48 rfl ?_
              refine g_iload_n h 50 dX8_scan_50 rfl ?_
              refine g_icmp_ge h 51 111 (gRi (by omega)) (gRi (by omega)) dX8_scan_51 (by decide) (fun h5 => ?_) (fun h5 => ?_)
              · exact J6 (fun q => (Int.not_lt.mpr h5) q.1)
              · refine g_iload_n h 54 dX8_scan_54 rfl ?_
                refine g_if_eq h 55 111 (gRi (by omega)) dX8_scan_55 (by decide) (fun h6 => ?_) (fun h6 => ?_)
                · exact J6 (fun q => (fun q => q h6) q.2)
                · exact J5 ⟨h5, h6⟩
          exact J11 _ _ _ _ (by omega) (by omega) hF
        refine g_iload_n h 21 dX8_scan_21 rfl ?_
        refine g_aload_nq h 22 dX8_scan_22 rfl rfl ?_
        refine gf_M_spaces h 23 dX8_scan_23 kw_1011 ?_
        refine g_icmp_ge h 26 43 (gRi (by omega)) (gRi (by omega)) dX8_scan_26 (by decide) (fun h2 => ?_) (fun h2 => ?_)
        · exact J3 (Int.not_lt.mpr h2)
        · exact J2 h2
    exact J12 _ _ _ _ (by omega) (by omega) hF
  · have hF := ite_f (fun q => q h1) hF
    refine g_iconst h 15 dX8_scan_15 ?_
    obtain ⟨e1, e2⟩ := some_2 hF
    rw [← e1, ← e2] at hE
    exact g_iret h 16 dX8_scan_16 hE rfl rfl ⟨(Nat.le_of_ble_eq_true rfl), (Nat.le_of_ble_eq_true rfl)⟩
-- PagewrightModel.takes
def FX8_takes (a_g a_s : Int) (s : S2) : Option (Int × S2) :=
  rgd (-5) 23 <| gd (0 ≤ a_g ∧ a_g ≤ 2) <| gd ((-1) ≤ a_s ∧ a_s ≤ 5) <| gd (0 ≤ (if s 110 a_g ≠ (-1) then 1 else 0 : Int) ∧ (if s 110 a_g ≠ (-1) then 1 else 0 : Int) ≤ 1) <| gl1 1000 (fun k1 (x_limited1 : Int) (s1 : S2) => bn (fun (s2 : S2) => bn (fun (x_limited2 : Int) (s16 : S2) => k1 x_limited2 s16) fun k10 => cb (FX8_evicts a_g s2) fun r7 s17 => if r7 ≠ 0 then k10 x_limited1 s17 else cb (FX8_kills a_g s17) fun r8 s18 => if (r8 = a_s) ∧ (a_s ≠ (-1)) then some ((-4), s18) else gd (0 ≤ (if r8 ≠ (-1) then 1 else 0 : Int) ∧ (if r8 ≠ (-1) then 1 else 0 : Int) ≤ 1) <| k10 (if r8 ≠ (-1) then 1 else 0 : Int) s18) fun k2 => bn (fun (s3 : S2) => gl0 1000 (fun k4  (s5 : S2) => gl2 1000 (fun k5 (x_some1 : Int) (x_f1 : Int) (s6 : S2) => if x_f1 < 24 then bn (fun (s7 : S2) => some (x_f1, s7)) fun k6 => bn (fun (s8 : S2) => k5 (gOr x_some1 (if s8 121 x_f1 = 0 then 1 else 0 : Int)) (x_f1 + 1) s8) fun k7 => if s6 121 x_f1 = 0 then cb (FX8_lingers x_f1 s6) fun r2 s9 => if r2 ≠ 0 then k7 s9 else k6 s9 else k7 s6 else bn (fun (s10 : S2) => k4 s10) fun k8 => if x_some1 ≠ 0 then cb (FX8_handles 0 s6) fun r3 s11 => cb (FX8_handles 1 s11) fun r4 s12 => k8 s12 else bn (fun (s13 : S2) => k8 s13) fun k9 => cb (FX8_evicts (-1) s6) fun r5 s14 => if r5 ≠ 0 then k9 s14 else cb (FX8_kills (-1) s14) fun r6 s15 => if r6 = (-1) then some ((-5), s15) else if r6 = a_s then some ((-4), s15) else k9 s15) 0 0 s5) s3) fun k3 => if x_limited1 ≠ 0 then cb (FX8_pagesOf a_g s1) fun r1 s4 => if s4 110 a_g ≤ r1 then k2 s4 else k3 s4 else k3 s1) (if s 110 a_g ≠ (-1) then 1 else 0 : Int) s
theorem rgX8_takes {a_g a_s : Int} {s s0 : S2} {r0 : Int} (hF : FX8_takes a_g a_s s = some (r0, s0)) : (-5) ≤ r0 ∧ r0 ≤ 23 := (rgd_some hF).2
set_option maxRecDepth 100000 in
set_option maxHeartbeats 4000000 in
theorem ctX8_takes {l : Launch} {w : gW} {bs : Nat} (hl : l.stackTraces = false) {a_g a_s : Int} {s m s0 : S2} {r0 : Int} (hF : FX8_takes a_g a_s s = some (r0, s0)) : gMet l w bs yX8_takes cX8_takes 6 (some FieldType.int) 6 0 [(11, 0), (0, a_g), (0, a_s)] (m, s) 0 (some (0, r0)) (m, s0) := by
  unfold FX8_takes at hF
  obtain ⟨hF, hr⟩ := rgd_some hF
  obtain ⟨q_a_g, hF⟩ := gd_some hF
  obtain ⟨q_a_s, hF⟩ := gd_some hF
  refine g_start hl (by decide) (Nat.le_of_ble_eq_true rfl) rfl fun X h hE => ?_
  have h : gOk X "PagewrightModel" cX8_takes 6 6 0 0 := h
  have hE : gEnd X l w bs 0 (some FieldType.int) 0 (some (0, r0)) (m, s0) := hE
  show G X 0 0 0 [(11, 0), (0, a_g), (0, a_s), (1, 0), (1, 0), (1, 0)] [] (m, s)
  refine G_typ fun hT_s => ?_
  have t1 : (-1) ≤ s 110 a_g ∧ s 110 a_g ≤ 24 := hT_s.2 110 a_g
  suffices J1 : ∀ v1 : Int, v1 = (if s 110 a_g ≠ (-1) then 1 else 0 : Int) → G X 0 0 15 [(11, 0), (0, a_g), (0, a_s), (1, 0), (1, 0), (1, 0)] [(0, v1)] (m, s) by
    have J2 : s 110 a_g ≠ (-1) → G X 0 0 10 [(11, 0), (0, a_g), (0, a_s), (1, 0), (1, 0), (1, 0)] [] (m, s) := by
      intro h2
      refine g_iconst h 10 dX8_takes_10 ?_
      refine g_goto h 11 15 dX8_takes_11 (by decide) ?_
      exact J1 _ (if_pos h2).symm
    have J3 : ¬ (s 110 a_g ≠ (-1)) → G X 0 0 14 [(11, 0), (0, a_g), (0, a_s), (1, 0), (1, 0), (1, 0)] [] (m, s) := by
      intro h3
      refine g_iconst h 14 dX8_takes_14 ?_
      exact J1 _ (if_neg h3).symm
    refine g_aload_nq h 0 dX8_takes_0 rfl rfl ?_
    refine gf_M_limit h 1 dX8_takes_1 kw_1016 ?_
    refine g_iload_n h 4 dX8_takes_4 rfl ?_
    refine al_M_limit h 5 dX8_takes_5 (by omega) ?_
    refine g_iconst h 6 dX8_takes_6 ?_
    refine g_icmp_eq h 7 14 (gRi (by omega)) (gRi (by omega)) dX8_takes_7 (by decide) (fun h1 => ?_) (fun h1 => ?_)
    · exact J3 (fun q => q h1)
    · exact J2 h1
  intro v1 e1
  subst e1
  refine g_istore_n h 15 dX8_takes_15 (Nat.le_of_ble_eq_true rfl) rfl (L' := [(11, 0), (0, a_g), (0, a_s), (0, (if s 110 a_g ≠ (-1) then 1 else 0 : Int)), (1, 0), (1, 0)]) rfl ?_
  obtain ⟨q6, hF⟩ := gd_some hF
  obtain ⟨f1, ef1, hF⟩ := glx1 hF
  have J36 : ∀ (n1 : Nat) (x_limited1 : Int) (s1 : S2), (0 ≤ x_limited1 ∧ x_limited1 ≤ 1) → gl1 n1 f1 x_limited1 s1 = some (r0, s0) → G X 0 0 16 [(11, 0), (0, a_g), (0, a_s), (0, x_limited1), (1, 0), (1, 0)] [] (m, s1) := by
    intro n1
    induction n1 with
    | zero => intro x_limited1 s1 _ hF; exact (gl1_0 hF).elim
    | succ n1 ih1 =>
      intro x_limited1 s1 q1 hF
      obtain ⟨k1, ek1, hF⟩ := glu1 hF ef1
      obtain ⟨k2, ek2, hF⟩ := bn_ex hF
      have J5 : ∀ (s2 : S2), k2 s2 = some (r0, s0) → G X 0 0 34 [(11, 0), (0, a_g), (0, a_s), (0, x_limited1), (1, 0), (1, 0)] [] (m, s2) := by
        intro s2 hF
        rw [ek2] at hF
        obtain ⟨k10, ek10, hF⟩ := bn_ex hF
        have J30 : ∀ (x_limited2 : Int) (s16 : S2), (0 ≤ x_limited2 ∧ x_limited2 ≤ 1) → k10 x_limited2 s16 = some (r0, s0) → G X 0 0 16 [(11, 0), (0, a_g), (0, a_s), (0, x_limited2), (1, 0), (1, 0)] [] (m, s16) := by
          intro x_limited2 s16 q5 hF
          rw [ek10] at hF
          rw [ek1] at hF
          exact ih1 _ _ (by omega) hF
        refine g_aload_nq h 34 dX8_takes_34 rfl rfl ?_
        refine g_iload_n h 35 dX8_takes_35 rfl ?_
        obtain ⟨r7, s17, c7, hF⟩ := cb_some hF
        have t12 : 0 ≤ r7 ∧ r7 ≤ 1 := rgX8_evicts c7
        refine g_callV h hE 36 dX8_takes_36 (ctX8_evicts hl c7) mwX8_evicts kw_1308 (by decide) (by decide) rfl (Nat.le_of_ble_eq_true rfl) rfl (Nat.le_of_ble_eq_true rfl) ⟨Nat.le_of_ble_eq_true rfl, Nat.le_of_ble_eq_true rfl⟩ rfl rfl ?_
        show G X 0 0 39 [(11, 0), (0, a_g), (0, a_s), (0, x_limited1), (1, 0), (1, 0)] [(0, r7)] (m, s17)
        refine g_if_ne h 39 16 (gRi (by omega)) dX8_takes_39 (by decide) (fun h28 => ?_) (fun h28 => ?_)
        · have hF := ite_t h28 hF
          exact J30 _ _ (by omega) hF
        · have hF := ite_f (fun q => q h28) hF
          refine g_aload_nq h 42 dX8_takes_42 rfl rfl ?_
          refine g_iload_n h 43 dX8_takes_43 rfl ?_
          obtain ⟨r8, s18, c8, hF⟩ := cb_some hF
          have t13 : (-1) ≤ r8 ∧ r8 ≤ 5 := rgX8_kills c8
          refine g_callV h hE 44 dX8_takes_44 (ctX8_kills hl c8) mwX8_kills kw_1348 (by decide) (by decide) rfl (Nat.le_of_ble_eq_true rfl) rfl (Nat.le_of_ble_eq_true rfl) ⟨Nat.le_of_ble_eq_true rfl, Nat.le_of_ble_eq_true rfl⟩ rfl rfl ?_
          show G X 0 0 47 [(11, 0), (0, a_g), (0, a_s), (0, x_limited1), (1, 0), (1, 0)] [(0, r8)] (m, s18)
          refine g_istore h 47 dX8_takes_47 (Nat.le_of_ble_eq_true rfl) rfl (L' := [(11, 0), (0, a_g), (0, a_s), (0, x_limited1), (0, r8), (1, 0)]) rfl ?_
          have J31 : (r8 = a_s) ∧ (a_s ≠ (-1)) → G X 0 0 60 [(11, 0), (0, a_g), (0, a_s), (0, x_limited1), (0, r8), (1, 0)] [] (m, s18) := by
            intro h31
            have hF := ite_t h31 hF
            refine g_bipush h 60 dX8_takes_60 (by decide) ?_
            obtain ⟨e1, e2⟩ := some_2 hF
            rw [← e1, ← e2] at hE
            exact g_iret h 62 dX8_takes_62 hE rfl rfl ⟨(Nat.le_of_ble_eq_true rfl), (Nat.le_of_ble_eq_true rfl)⟩
          have J32 : ¬ ((r8 = a_s) ∧ (a_s ≠ (-1))) → G X 0 0 63 [(11, 0), (0, a_g), (0, a_s), (0, x_limited1), (0, r8), (1, 0)] [] (m, s18) := by
            intro h32
            have hF := ite_f h32 hF
            suffices J33 : ∀ v3 : Int, v3 = (if r8 ≠ (-1) then 1 else 0 : Int) → G X 0 0 74 [(11, 0), (0, a_g), (0, a_s), (0, x_limited1), (0, r8), (1, 0)] [(0, v3)] (m, s18) by
              have J34 : r8 ≠ (-1) → G X 0 0 69 [(11, 0), (0, a_g), (0, a_s), (0, x_limited1), (0, r8), (1, 0)] [] (m, s18) := by
                intro h34
                refine g_iconst h 69 dX8_takes_69 ?_
                refine g_goto h 70 74 dX8_takes_70 (by decide) ?_
                exact J33 _ (if_pos h34).symm
              have J35 : ¬ (r8 ≠ (-1)) → G X 0 0 73 [(11, 0), (0, a_g), (0, a_s), (0, x_limited1), (0, r8), (1, 0)] [] (m, s18) := by
                intro h35
                refine g_iconst h 73 dX8_takes_73 ?_
                exact J33 _ (if_neg h35).symm
              refine g_iload h 63 dX8_takes_63 rfl ?_
              refine g_iconst h 65 dX8_takes_65 ?_
              refine g_icmp_eq h 66 73 (gRi (by omega)) (gRi (by omega)) dX8_takes_66 (by decide) (fun h33 => ?_) (fun h33 => ?_)
              · exact J35 (fun q => q h33)
              · exact J34 h33
            intro v3 e3
            subst e3
            refine g_istore_n h 74 dX8_takes_74 (Nat.le_of_ble_eq_true rfl) rfl (L' := [(11, 0), (0, a_g), (0, a_s), (0, (if r8 ≠ (-1) then 1 else 0 : Int)), (0, r8), (1, 0)]) rfl ?_
            refine g_goto h 75 16 dX8_takes_75 (by decide) ?_
            obtain ⟨q4, hF⟩ := gd_some hF
            refine G_weak (L' := [(11, 0), (0, a_g), (0, a_s), (0, (if r8 ≠ (-1) then 1 else 0 : Int)), (1, 0), (1, 0)]) ⟨Or.inr rfl, Or.inr rfl, Or.inr rfl, Or.inr rfl, Or.inl rfl, Or.inr rfl, trivial⟩ ?_
            exact J30 _ _ (by omega) hF
          refine g_iload h 49 dX8_takes_49 rfl ?_
          refine g_iload_n h 51 dX8_takes_51 rfl ?_
          refine g_icmp_ne h 52 63 (gRi (by omega)) (gRi (by omega)) dX8_takes_52 (by decide) (fun h29 => ?_) (fun h29 => ?_)
          · exact J32 (fun q => h29 q.1)
          · refine g_iload_n h 55 dX8_takes_55 rfl ?_
            refine g_iconst h 56 dX8_takes_56 ?_
            refine g_icmp_eq h 57 63 (gRi (by omega)) (gRi (by omega)) dX8_takes_57 (by decide) (fun h30 => ?_) (fun h30 => ?_)
            · exact J32 (fun q => (fun q => q h30) q.2)
            · exact J31 ⟨h29, h30⟩
      obtain ⟨k3, ek3, hF⟩ := bn_ex hF
      have J6 : ∀ (s3 : S2), k3 s3 = some (r0, s0) → G X 0 0 78 [(11, 0), (0, a_g), (0, a_s), (0, x_limited1), (1, 0), (1, 0)] [] (m, s3) := by
        intro s3 hF
        rw [ek3] at hF
        obtain ⟨f2, ef2, hF⟩ := glx0 hF
        have J29 : ∀ (n2 : Nat) (s5 : S2), gl0 n2 f2 s5 = some (r0, s0) → G X 0 0 78 [(11, 0), (0, a_g), (0, a_s), (0, x_limited1), (1, 0), (1, 0)] [] (m, s5) := by
          intro n2
          induction n2 with
          | zero => intro s5 hF; exact (gl0_0 hF).elim
          | succ n2 ih2 =>
            intro s5 hF
            obtain ⟨k4, ek4, hF⟩ := glu0 hF ef2
            refine g_iconst h 78 dX8_takes_78 ?_
            refine g_istore h 79 dX8_takes_79 (Nat.le_of_ble_eq_true rfl) rfl (L' := [(11, 0), (0, a_g), (0, a_s), (0, x_limited1), (0, 0), (1, 0)]) rfl ?_
            refine g_iconst h 81 dX8_takes_81 ?_
            refine g_istore h 82 dX8_takes_82 (Nat.le_of_ble_eq_true rfl) rfl (L' := [(11, 0), (0, a_g), (0, a_s), (0, x_limited1), (0, 0), (0, 0)]) rfl ?_
            obtain ⟨f3, ef3, hF⟩ := glx2 hF
            have J28 : ∀ (n3 : Nat) (x_some1 x_f1 : Int) (s6 : S2), (0 ≤ x_some1 ∧ x_some1 ≤ 1) → (0 ≤ x_f1 ∧ x_f1 ≤ 24) → gl2 n3 f3 x_some1 x_f1 s6 = some (r0, s0) → G X 0 0 84 [(11, 0), (0, a_g), (0, a_s), (0, x_limited1), (0, x_some1), (0, x_f1)] [] (m, s6) := by
              intro n3
              induction n3 with
              | zero => intro x_some1 x_f1 s6 _ _ hF; exact (gl2_0 hF).elim
              | succ n3 ih3 =>
                intro x_some1 x_f1 s6 q2 q3 hF
                obtain ⟨k5, ek5, hF⟩ := glu2 hF ef3
                have J11 : x_f1 < 24 → G X 0 0 91 [(11, 0), (0, a_g), (0, a_s), (0, x_limited1), (0, x_some1), (0, x_f1)] [] (m, s6) := by
                  intro h9
                  have hF := ite_t h9 hF
                  obtain ⟨k6, ek6, hF⟩ := bn_ex hF
                  have J13 : ∀ (s7 : S2), k6 s7 = some (r0, s0) → G X 0 0 110 [(11, 0), (0, a_g), (0, a_s), (0, x_limited1), (0, x_some1), (0, x_f1)] [] (m, s7) := by
                    intro s7 hF
                    rw [ek6] at hF
                    refine g_iload h 110 dX8_takes_110 rfl ?_
                    obtain ⟨e1, e2⟩ := some_2 hF
                    rw [← e1, ← e2] at hE
                    exact g_iret h 112 dX8_takes_112 hE rfl rfl ⟨(Nat.le_of_ble_eq_true rfl), (Nat.le_of_ble_eq_true rfl)⟩
                  obtain ⟨k7, ek7, hF⟩ := bn_ex hF
                  have J14 : ∀ (s8 : S2), k7 s8 = some (r0, s0) → G X 0 0 113 [(11, 0), (0, a_g), (0, a_s), (0, x_limited1), (0, x_some1), (0, x_f1)] [] (m, s8) := by
                    intro s8 hF
                    rw [ek7] at hF
                    refine G_typ fun hT_s8 => ?_
                    have t6 : 0 ≤ s8 121 x_f1 ∧ s8 121 x_f1 ≤ 2 := hT_s8.2 121 x_f1
                    have t7 : 0 ≤ gOr x_some1 (if s8 121 x_f1 = 0 then 1 else 0 : Int) ∧ gOr x_some1 (if s8 121 x_f1 = 0 then 1 else 0 : Int) ≤ 1 := gOr_01 (by omega) (by omega)
                    refine g_iload h 113 dX8_takes_113 rfl ?_
                    suffices J17 : ∀ v2 : Int, v2 = (if s8 121 x_f1 = 0 then 1 else 0 : Int) → G X 0 0 130 [(11, 0), (0, a_g), (0, a_s), (0, x_limited1), (0, x_some1), (0, x_f1)] [(0, v2), (0, x_some1)] (m, s8) by
                      have J18 : s8 121 x_f1 = 0 → G X 0 0 125 [(11, 0), (0, a_g), (0, a_s), (0, x_limited1), (0, x_some1), (0, x_f1)] [(0, x_some1)] (m, s8) := by
                        intro h15
                        refine g_iconst h 125 dX8_takes_125 ?_
                        refine g_goto h 126 130 dX8_takes_126 (by decide) ?_
                        exact J17 _ (if_pos h15).symm
                      have J19 : ¬ (s8 121 x_f1 = 0) → G X 0 0 129 [(11, 0), (0, a_g), (0, a_s), (0, x_limited1), (0, x_some1), (0, x_f1)] [(0, x_some1)] (m, s8) := by
                        intro h16
                        refine g_iconst h 129 dX8_takes_129 ?_
                        exact J17 _ (if_neg h16).symm
                      refine g_aload_nq h 115 dX8_takes_115 rfl rfl ?_
                      refine gf_M_kind h 116 dX8_takes_116 kw_1027 ?_
                      refine g_iload h 119 dX8_takes_119 rfl ?_
                      refine al_M_kind h 121 dX8_takes_121 (by omega) ?_
                      refine g_if_ne h 122 129 (gRi (by omega)) dX8_takes_122 (by decide) (fun h14 => ?_) (fun h14 => ?_)
                      · exact J19 h14
                      · exact J18 h14
                    intro v2 e2
                    subst e2
                    refine g_ior h 130 dX8_takes_130 ?_
                    refine g_istore h 131 dX8_takes_131 (Nat.le_of_ble_eq_true rfl) rfl (L' := [(11, 0), (0, a_g), (0, a_s), (0, x_limited1), (0, gOr x_some1 (if s8 121 x_f1 = 0 then 1 else 0 : Int)), (0, x_f1)]) rfl ?_
                    refine g_iinc h 133 dX8_takes_133 rfl rfl (L' := [(11, 0), (0, a_g), (0, a_s), (0, x_limited1), (0, gOr x_some1 (if s8 121 x_f1 = 0 then 1 else 0 : Int)), (0, x_f1 + 1)]) rfl ?_
                    refine g_goto h 136 84 dX8_takes_136 (by decide) ?_
                    rw [ek5] at hF
                    exact ih3 _ _ _ (by omega) (by omega) hF
                  refine G_typ fun hT_s6 => ?_
                  have t4 : 0 ≤ s6 121 x_f1 ∧ s6 121 x_f1 ≤ 2 := hT_s6.2 121 x_f1
                  have J15 : s6 121 x_f1 = 0 → G X 0 0 101 [(11, 0), (0, a_g), (0, a_s), (0, x_limited1), (0, x_some1), (0, x_f1)] [] (m, s6) := by
                    intro h11
                    have hF := ite_t h11 hF
                    refine g_aload_nq h 101 dX8_takes_101 rfl rfl ?_
                    refine g_iload h 102 dX8_takes_102 rfl ?_
                    obtain ⟨r2, s9, c2, hF⟩ := cb_some hF
                    have t5 : 0 ≤ r2 ∧ r2 ≤ 1 := rgX8_lingers c2
                    refine g_callV h hE 104 dX8_takes_104 (ctX8_lingers hl c2) mwX8_lingers kw_1352 (by decide) (by decide) rfl (Nat.le_of_ble_eq_true rfl) rfl (Nat.le_of_ble_eq_true rfl) ⟨Nat.le_of_ble_eq_true rfl, Nat.le_of_ble_eq_true rfl⟩ rfl rfl ?_
                    show G X 0 0 107 [(11, 0), (0, a_g), (0, a_s), (0, x_limited1), (0, x_some1), (0, x_f1)] [(0, r2)] (m, s9)
                    refine g_if_ne h 107 113 (gRi (by omega)) dX8_takes_107 (by decide) (fun h12 => ?_) (fun h12 => ?_)
                    · have hF := ite_t h12 hF
                      exact J14 _ hF
                    · have hF := ite_f (fun q => q h12) hF
                      exact J13 _ hF
                  have J16 : ¬ (s6 121 x_f1 = 0) → G X 0 0 113 [(11, 0), (0, a_g), (0, a_s), (0, x_limited1), (0, x_some1), (0, x_f1)] [] (m, s6) := by
                    intro h13
                    have hF := ite_f h13 hF
                    exact J14 _ hF
                  refine g_aload_nq h 91 dX8_takes_91 rfl rfl ?_
                  refine gf_M_kind h 92 dX8_takes_92 kw_1027 ?_
                  refine g_iload h 95 dX8_takes_95 rfl ?_
                  refine al_M_kind h 97 dX8_takes_97 (by omega) ?_
                  refine g_if_ne h 98 113 (gRi (by omega)) dX8_takes_98 (by decide) (fun h10 => ?_) (fun h10 => ?_)
                  · exact J16 h10
                  · exact J15 h10
                have J12 : ¬ (x_f1 < 24) → G X 0 0 139 [(11, 0), (0, a_g), (0, a_s), (0, x_limited1), (0, x_some1), (0, x_f1)] [] (m, s6) := by
                  intro h17
                  have hF := ite_f h17 hF
                  obtain ⟨k8, ek8, hF⟩ := bn_ex hF
                  have J20 : ∀ (s10 : S2), k8 s10 = some (r0, s0) → G X 0 0 78 [(11, 0), (0, a_g), (0, a_s), (0, x_limited1), (0, x_some1), (1, 0)] [] (m, s10) := by
                    intro s10 hF
                    rw [ek8] at hF
                    refine G_weak (L' := [(11, 0), (0, a_g), (0, a_s), (0, x_limited1), (1, 0), (1, 0)]) ⟨Or.inr rfl, Or.inr rfl, Or.inr rfl, Or.inr rfl, Or.inl rfl, Or.inr rfl, trivial⟩ ?_
                    rw [ek4] at hF
                    exact ih2 _ hF
                  have J21 : x_some1 ≠ 0 → G X 0 0 144 [(11, 0), (0, a_g), (0, a_s), (0, x_limited1), (0, x_some1), (0, x_f1)] [] (m, s6) := by
                    intro h19
                    have hF := ite_t h19 hF
                    refine g_aload_nq h 144 dX8_takes_144 rfl rfl ?_
                    refine g_iconst h 145 dX8_takes_145 ?_
                    obtain ⟨r3, s11, c3, hF⟩ := cb_some hF
                    have t8 : 0 ≤ r3 ∧ r3 ≤ 4 := rgX8_handles c3
                    refine g_callV h hE 146 dX8_takes_146 (ctX8_handles hl c3) mwX8_handles kw_1280 (by decide) (by decide) rfl (Nat.le_of_ble_eq_true rfl) rfl (Nat.le_of_ble_eq_true rfl) ⟨Nat.le_of_ble_eq_true rfl, Nat.le_of_ble_eq_true rfl⟩ rfl rfl ?_
                    show G X 0 0 149 [(11, 0), (0, a_g), (0, a_s), (0, x_limited1), (0, x_some1), (0, x_f1)] [(0, r3)] (m, s11)
                    refine g_pop h 149 dX8_takes_149 (show (0 : Nat) ≠ 2 by decide) ?_
                    refine g_aload_nq h 150 dX8_takes_150 rfl rfl ?_
                    refine g_iconst h 151 dX8_takes_151 ?_
                    obtain ⟨r4, s12, c4, hF⟩ := cb_some hF
                    have t9 : 0 ≤ r4 ∧ r4 ≤ 4 := rgX8_handles c4
                    refine g_callV h hE 152 dX8_takes_152 (ctX8_handles hl c4) mwX8_handles kw_1280 (by decide) (by decide) rfl (Nat.le_of_ble_eq_true rfl) rfl (Nat.le_of_ble_eq_true rfl) ⟨Nat.le_of_ble_eq_true rfl, Nat.le_of_ble_eq_true rfl⟩ rfl rfl ?_
                    show G X 0 0 155 [(11, 0), (0, a_g), (0, a_s), (0, x_limited1), (0, x_some1), (0, x_f1)] [(0, r4)] (m, s12)
                    refine g_pop h 155 dX8_takes_155 (show (0 : Nat) ≠ 2 by decide) ?_
                    refine g_goto h 156 192 dX8_takes_156 (by decide) ?_
                    refine g_goto h 192 78 dX8_takes_192 (by decide) ?_
                    refine G_weak (L' := [(11, 0), (0, a_g), (0, a_s), (0, x_limited1), (0, x_some1), (1, 0)]) ⟨Or.inr rfl, Or.inr rfl, Or.inr rfl, Or.inr rfl, Or.inr rfl, Or.inl rfl, trivial⟩ ?_
                    exact J20 _ hF
                  have J22 : ¬ (x_some1 ≠ 0) → G X 0 0 159 [(11, 0), (0, a_g), (0, a_s), (0, x_limited1), (0, x_some1), (0, x_f1)] [] (m, s6) := by
                    intro h20
                    have hF := ite_f h20 hF
                    obtain ⟨k9, ek9, hF⟩ := bn_ex hF
                    have J23 : ∀ (s13 : S2), k9 s13 = some (r0, s0) → G X 0 0 78 [(11, 0), (0, a_g), (0, a_s), (0, x_limited1), (0, x_some1), (1, 0)] [] (m, s13) := by
                      intro s13 hF
                      rw [ek9] at hF
                      exact J20 _ hF
                    refine g_aload_nq h 159 dX8_takes_159 rfl rfl ?_
                    refine g_iconst h 160 dX8_takes_160 ?_
                    obtain ⟨r5, s14, c5, hF⟩ := cb_some hF
                    have t10 : 0 ≤ r5 ∧ r5 ≤ 1 := rgX8_evicts c5
                    refine g_callV h hE 161 dX8_takes_161 (ctX8_evicts hl c5) mwX8_evicts kw_1308 (by decide) (by decide) rfl (Nat.le_of_ble_eq_true rfl) rfl (Nat.le_of_ble_eq_true rfl) ⟨Nat.le_of_ble_eq_true rfl, Nat.le_of_ble_eq_true rfl⟩ rfl rfl ?_
                    show G X 0 0 164 [(11, 0), (0, a_g), (0, a_s), (0, x_limited1), (0, x_some1), (0, x_f1)] [(0, r5)] (m, s14)
                    refine g_if_ne h 164 192 (gRi (by omega)) dX8_takes_164 (by decide) (fun h21 => ?_) (fun h21 => ?_)
                    · have hF := ite_t h21 hF
                      refine g_goto h 192 78 dX8_takes_192 (by decide) ?_
                      refine G_weak (L' := [(11, 0), (0, a_g), (0, a_s), (0, x_limited1), (0, x_some1), (1, 0)]) ⟨Or.inr rfl, Or.inr rfl, Or.inr rfl, Or.inr rfl, Or.inr rfl, Or.inl rfl, trivial⟩ ?_
                      exact J23 _ hF
                    · have hF := ite_f (fun q => q h21) hF
                      refine g_aload_nq h 167 dX8_takes_167 rfl rfl ?_
                      refine g_iconst h 168 dX8_takes_168 ?_
                      obtain ⟨r6, s15, c6, hF⟩ := cb_some hF
                      have t11 : (-1) ≤ r6 ∧ r6 ≤ 5 := rgX8_kills c6
                      refine g_callV h hE 169 dX8_takes_169 (ctX8_kills hl c6) mwX8_kills kw_1348 (by decide) (by decide) rfl (Nat.le_of_ble_eq_true rfl) rfl (Nat.le_of_ble_eq_true rfl) ⟨Nat.le_of_ble_eq_true rfl, Nat.le_of_ble_eq_true rfl⟩ rfl rfl ?_
                      show G X 0 0 172 [(11, 0), (0, a_g), (0, a_s), (0, x_limited1), (0, x_some1), (0, x_f1)] [(0, r6)] (m, s15)
                      refine g_istore h 172 dX8_takes_172 (Nat.le_of_ble_eq_true rfl) rfl (L' := [(11, 0), (0, a_g), (0, a_s), (0, x_limited1), (0, x_some1), (0, r6)]) rfl ?_
                      have J24 : r6 = (-1) → G X 0 0 180 [(11, 0), (0, a_g), (0, a_s), (0, x_limited1), (0, x_some1), (0, r6)] [] (m, s15) := by
                        intro h23
                        have hF := ite_t h23 hF
                        refine g_bipush h 180 dX8_takes_180 (by decide) ?_
                        obtain ⟨e1, e2⟩ := some_2 hF
                        rw [← e1, ← e2] at hE
                        exact g_iret h 182 dX8_takes_182 hE rfl rfl ⟨(Nat.le_of_ble_eq_true rfl), (Nat.le_of_ble_eq_true rfl)⟩
                      have J25 : ¬ (r6 = (-1)) → G X 0 0 183 [(11, 0), (0, a_g), (0, a_s), (0, x_limited1), (0, x_some1), (0, r6)] [] (m, s15) := by
                        intro h24
                        have hF := ite_f h24 hF
                        have J26 : r6 = a_s → G X 0 0 189 [(11, 0), (0, a_g), (0, a_s), (0, x_limited1), (0, x_some1), (0, r6)] [] (m, s15) := by
                          intro h26
                          have hF := ite_t h26 hF
                          refine g_bipush h 189 dX8_takes_189 (by decide) ?_
                          obtain ⟨e1, e2⟩ := some_2 hF
                          rw [← e1, ← e2] at hE
                          exact g_iret h 191 dX8_takes_191 hE rfl rfl ⟨(Nat.le_of_ble_eq_true rfl), (Nat.le_of_ble_eq_true rfl)⟩
                        have J27 : ¬ (r6 = a_s) → G X 0 0 78 [(11, 0), (0, a_g), (0, a_s), (0, x_limited1), (0, x_some1), (0, r6)] [] (m, s15) := by
                          intro h27
                          have hF := ite_f h27 hF
                          refine G_weak (L' := [(11, 0), (0, a_g), (0, a_s), (0, x_limited1), (0, x_some1), (1, 0)]) ⟨Or.inr rfl, Or.inr rfl, Or.inr rfl, Or.inr rfl, Or.inr rfl, Or.inl rfl, trivial⟩ ?_
                          exact J23 _ hF
                        refine g_iload h 183 dX8_takes_183 rfl ?_
                        refine g_iload_n h 185 dX8_takes_185 rfl ?_
                        refine g_icmp_ne h 186 192 (gRi (by omega)) (gRi (by omega)) dX8_takes_186 (by decide) (fun h25 => ?_) (fun h25 => ?_)
                        · refine g_goto h 192 78 dX8_takes_192 (by decide) ?_
                          exact J27 h25
                        · exact J26 h25
                      refine g_iload h 174 dX8_takes_174 rfl ?_
                      refine g_iconst h 176 dX8_takes_176 ?_
                      refine g_icmp_ne h 177 183 (gRi (by omega)) (gRi (by omega)) dX8_takes_177 (by decide) (fun h22 => ?_) (fun h22 => ?_)
                      · exact J25 h22
                      · exact J24 h22
                  refine g_iload h 139 dX8_takes_139 rfl ?_
                  refine g_if_eq h 141 159 (gRi (by omega)) dX8_takes_141 (by decide) (fun h18 => ?_) (fun h18 => ?_)
                  · exact J22 (fun q => q h18)
                  · exact J21 h18
                refine g_iload h 84 dX8_takes_84 rfl ?_
                refine g_bipush h 86 dX8_takes_86 (by decide) ?_
                refine g_icmp_ge h 88 139 (gRi (by omega)) (gRi (by omega)) dX8_takes_88 (by decide) (fun h8 => ?_) (fun h8 => ?_)
                · exact J12 (Int.not_lt.mpr h8)
                · exact J11 h8
            exact J28 _ _ _ _ (by omega) (by omega) hF
        exact J29 _ _ hF
      have J7 : x_limited1 ≠ 0 → G X 0 0 20 [(11, 0), (0, a_g), (0, a_s), (0, x_limited1), (1, 0), (1, 0)] [] (m, s1) := by
        intro h5
        have hF := ite_t h5 hF
        refine g_aload_nq h 20 dX8_takes_20 rfl rfl ?_
        refine g_iload_n h 21 dX8_takes_21 rfl ?_
        obtain ⟨r1, s4, c1, hF⟩ := cb_some hF
        have t2 : 0 ≤ r1 ∧ r1 ≤ 24 := rgX8_pagesOf c1
        refine g_callV h hE 22 dX8_takes_22 (ctX8_pagesOf hl c1) mwX8_pagesOf kw_1264 (by decide) (by decide) rfl (Nat.le_of_ble_eq_true rfl) rfl (Nat.le_of_ble_eq_true rfl) ⟨Nat.le_of_ble_eq_true rfl, Nat.le_of_ble_eq_true rfl⟩ rfl rfl ?_
        show G X 0 0 25 [(11, 0), (0, a_g), (0, a_s), (0, x_limited1), (1, 0), (1, 0)] [(0, r1)] (m, s4)
        refine G_typ fun hT_s4 => ?_
        have t3 : (-1) ≤ s4 110 a_g ∧ s4 110 a_g ≤ 24 := hT_s4.2 110 a_g
        refine g_aload_nq h 25 dX8_takes_25 rfl rfl ?_
        refine gf_M_limit h 26 dX8_takes_26 kw_1016 ?_
        refine g_iload_n h 29 dX8_takes_29 rfl ?_
        refine al_M_limit h 30 dX8_takes_30 (by omega) ?_
        refine g_icmp_lt h 31 78 (gRi (by omega)) (gRi (by omega)) dX8_takes_31 (by decide) (fun h6 => ?_) (fun h6 => ?_)
        · have hF := ite_f (Int.not_le.mpr h6) hF
          exact J6 _ hF
        · have hF := ite_t h6 hF
          exact J5 _ hF
      have J8 : ¬ (x_limited1 ≠ 0) → G X 0 0 78 [(11, 0), (0, a_g), (0, a_s), (0, x_limited1), (1, 0), (1, 0)] [] (m, s1) := by
        intro h7
        have hF := ite_f h7 hF
        exact J6 _ hF
      refine g_iload_n h 16 dX8_takes_16 rfl ?_
      refine g_if_eq h 17 78 (gRi (by omega)) dX8_takes_17 (by decide) (fun h4 => ?_) (fun h4 => ?_)
      · exact J8 (fun q => q h4)
      · exact J7 h4
  exact J36 _ _ _ (by omega) hF
-- PagewrightModel.caches
def FX8_caches (a_its a_g a_s : Int) (s : S2) : Option (Int × S2) :=
  rgd (-5) 23 <| gd (0 ≤ a_its ∧ a_its ≤ 23) <| gd (0 ≤ a_g ∧ a_g ≤ 2) <| gd ((-1) ≤ a_s ∧ a_s ≤ 5) <| gl1 1000 (fun k1 (x_f1 : Int) (s1 : S2) => if x_f1 < 24 then if (s1 121 x_f1 = 2) ∧ (s1 127 x_f1 = a_its) then some (x_f1, s1) else k1 (x_f1 + 1) s1 else cb (FX8_takes a_g a_s s1) fun r1 s2 => bn (fun (s3 : S2) => some (r1, s3)) fun k2 => if 0 ≤ r1 then gd ((-2147483648) ≤ s2 131 a_its ∧ s2 131 a_its ≤ 2147483647) <| gd ((0 < s2 131 a_its) → (-2147483648) ≤ (s2 140 2) - (s2 131 a_its) ∧ (s2 140 2) - (s2 131 a_its) ≤ 2147483647) <| bn (upd2 s2 140 3 ((s2 140 3) + (if (0 < s2 131 a_its) ∧ ((s2 140 2) - (s2 131 a_its) ≤ s2 129 1) then 1 else 0 : Int))) fun s4 => bn (upd2 s4 140 4 ((s4 140 4) + 1)) fun s5 => cb (FX8_puts r1 2 (s5 130 a_its) a_g (if (0 < s2 131 a_its) ∧ ((s2 140 2) - (s2 131 a_its) ≤ s2 129 1) then 1 else 0 : Int) s5) fun r2 s6 => bn (upd2 s6 127 r1 a_its) fun s7 => k2 s7 else k2 s2) 0 s
theorem rgX8_caches {a_its a_g a_s : Int} {s s0 : S2} {r0 : Int} (hF : FX8_caches a_its a_g a_s s = some (r0, s0)) : (-5) ≤ r0 ∧ r0 ≤ 23 := (rgd_some hF).2
set_option maxRecDepth 100000 in
set_option maxHeartbeats 4000000 in
theorem ctX8_caches {l : Launch} {w : gW} {bs : Nat} (hl : l.stackTraces = false) {a_its a_g a_s : Int} {s m s0 : S2} {r0 : Int} (hF : FX8_caches a_its a_g a_s s = some (r0, s0)) : gMet l w bs yX8_caches cX8_caches 6 (some FieldType.int) 7 0 [(11, 0), (0, a_its), (0, a_g), (0, a_s)] (m, s) 0 (some (0, r0)) (m, s0) := by
  unfold FX8_caches at hF
  obtain ⟨hF, hr⟩ := rgd_some hF
  obtain ⟨q_a_its, hF⟩ := gd_some hF
  obtain ⟨q_a_g, hF⟩ := gd_some hF
  obtain ⟨q_a_s, hF⟩ := gd_some hF
  refine g_start hl (by decide) (Nat.le_of_ble_eq_true rfl) rfl fun X h hE => ?_
  have h : gOk X "PagewrightModel" cX8_caches 6 7 0 0 := h
  have hE : gEnd X l w bs 0 (some FieldType.int) 0 (some (0, r0)) (m, s0) := hE
  show G X 0 0 0 [(11, 0), (0, a_its), (0, a_g), (0, a_s), (1, 0), (1, 0)] [] (m, s)
  refine g_iconst h 0 dX8_caches_0 ?_
  refine g_istore h 1 dX8_caches_1 (Nat.le_of_ble_eq_true rfl) rfl (L' := [(11, 0), (0, a_its), (0, a_g), (0, a_s), (0, 0), (1, 0)]) rfl ?_
  obtain ⟨f1, ef1, hF⟩ := glx1 hF
  have J18 : ∀ (n1 : Nat) (x_f1 : Int) (s1 : S2), (0 ≤ x_f1 ∧ x_f1 ≤ 24) → gl1 n1 f1 x_f1 s1 = some (r0, s0) → G X 0 0 3 [(11, 0), (0, a_its), (0, a_g), (0, a_s), (0, x_f1), (1, 0)] [] (m, s1) := by
    intro n1
    induction n1 with
    | zero => intro x_f1 s1 _ hF; exact (gl1_0 hF).elim
    | succ n1 ih1 =>
      intro x_f1 s1 q1 hF
      obtain ⟨k1, ek1, hF⟩ := glu1 hF ef1
      have J2 : x_f1 < 24 → G X 0 0 10 [(11, 0), (0, a_its), (0, a_g), (0, a_s), (0, x_f1), (1, 0)] [] (m, s1) := by
        intro h2
        have hF := ite_t h2 hF
        refine G_typ fun hT_s1 => ?_
        have t1 : 0 ≤ s1 121 x_f1 ∧ s1 121 x_f1 ≤ 2 := hT_s1.2 121 x_f1
        have t2 : (-1) ≤ s1 127 x_f1 ∧ s1 127 x_f1 ≤ 23 := hT_s1.2 127 x_f1
        have J4 : (s1 121 x_f1 = 2) ∧ (s1 127 x_f1 = a_its) → G X 0 0 32 [(11, 0), (0, a_its), (0, a_g), (0, a_s), (0, x_f1), (1, 0)] [] (m, s1) := by
          intro h5
          have hF := ite_t h5 hF
          refine g_iload h 32 dX8_caches_32 rfl ?_
          obtain ⟨e1, e2⟩ := some_2 hF
          rw [← e1, ← e2] at hE
          exact g_iret h 34 dX8_caches_34 hE rfl rfl ⟨(Nat.le_of_ble_eq_true rfl), (Nat.le_of_ble_eq_true rfl)⟩
        have J5 : ¬ ((s1 121 x_f1 = 2) ∧ (s1 127 x_f1 = a_its)) → G X 0 0 35 [(11, 0), (0, a_its), (0, a_g), (0, a_s), (0, x_f1), (1, 0)] [] (m, s1) := by
          intro h6
          have hF := ite_f h6 hF
          refine g_iinc h 35 dX8_caches_35 rfl rfl (L' := [(11, 0), (0, a_its), (0, a_g), (0, a_s), (0, x_f1 + 1), (1, 0)]) rfl ?_
          refine g_goto h 38 3 dX8_caches_38 (by decide) ?_
          rw [ek1] at hF
          exact ih1 _ _ (by omega) hF
        refine g_aload_nq h 10 dX8_caches_10 rfl rfl ?_
        refine gf_M_kind h 11 dX8_caches_11 kw_1027 ?_
        refine g_iload h 14 dX8_caches_14 rfl ?_
        refine al_M_kind h 16 dX8_caches_16 (by omega) ?_
        refine g_iconst h 17 dX8_caches_17 ?_
        refine g_icmp_ne h 18 35 (gRi (by omega)) (gRi (by omega)) dX8_caches_18 (by decide) (fun h3 => ?_) (fun h3 => ?_)
        · exact J5 (fun q => h3 q.1)
        · refine g_aload_nq h 21 dX8_caches_21 rfl rfl ?_
          refine gf_M_key h 22 dX8_caches_22 kw_1033 ?_
          refine g_iload h 25 dX8_caches_25 rfl ?_
          refine al_M_key h 27 dX8_caches_27 (by omega) ?_
          refine g_iload_n h 28 dX8_caches_28 rfl ?_
          refine g_icmp_ne h 29 35 (gRi (by omega)) (gRi (by omega)) dX8_caches_29 (by decide) (fun h4 => ?_) (fun h4 => ?_)
          · exact J5 (fun q => h4 q.2)
          · exact J4 ⟨h3, h4⟩
      have J3 : ¬ (x_f1 < 24) → G X 0 0 41 [(11, 0), (0, a_its), (0, a_g), (0, a_s), (0, x_f1), (1, 0)] [] (m, s1) := by
        intro h7
        have hF := ite_f h7 hF
        refine g_aload_nq h 41 dX8_caches_41 rfl rfl ?_
        refine g_iload_n h 42 dX8_caches_42 rfl ?_
        refine g_iload_n h 43 dX8_caches_43 rfl ?_
        obtain ⟨r1, s2, c1, hF⟩ := cb_some hF
        have t3 : (-5) ≤ r1 ∧ r1 ≤ 23 := rgX8_takes c1
        refine g_callV h hE 44 dX8_caches_44 (ctX8_takes hl c1) mwX8_takes kw_1304 (by decide) (by decide) rfl (Nat.le_of_ble_eq_true rfl) rfl (Nat.le_of_ble_eq_true rfl) ⟨Nat.le_of_ble_eq_true rfl, Nat.le_of_ble_eq_true rfl⟩ rfl rfl ?_
        show G X 0 0 47 [(11, 0), (0, a_its), (0, a_g), (0, a_s), (0, x_f1), (1, 0)] [(0, r1)] (m, s2)
        refine g_istore h 47 dX8_caches_47 (Nat.le_of_ble_eq_true rfl) rfl (L' := [(11, 0), (0, a_its), (0, a_g), (0, a_s), (0, r1), (1, 0)]) rfl ?_
        obtain ⟨k2, ek2, hF⟩ := bn_ex hF
        have J6 : ∀ (s3 : S2), k2 s3 = some (r0, s0) → G X 0 0 153 [(11, 0), (0, a_its), (0, a_g), (0, a_s), (0, r1), (1, 0)] [] (m, s3) := by
          intro s3 hF
          rw [ek2] at hF
          refine g_iload h 153 dX8_caches_153 rfl ?_
          obtain ⟨e1, e2⟩ := some_2 hF
          rw [← e1, ← e2] at hE
          exact g_iret h 155 dX8_caches_155 hE rfl rfl ⟨(Nat.le_of_ble_eq_true rfl), (Nat.le_of_ble_eq_true rfl)⟩
        have J7 : 0 ≤ r1 → G X 0 0 54 [(11, 0), (0, a_its), (0, a_g), (0, a_s), (0, r1), (1, 0)] [] (m, s2) := by
          intro h9
          have hF := ite_t h9 hF
          refine G_typ fun hT_s2 => ?_
          have t4 : 0 ≤ s2 129 1 ∧ s2 129 1 ≤ 24 := hT_s2.2 129 1
          obtain ⟨q2, hF⟩ := gd_some hF
          obtain ⟨q3, hF⟩ := gd_some hF
          suffices J9 : ∀ v1 : Int, v1 = (if (0 < s2 131 a_its) ∧ ((s2 140 2) - (s2 131 a_its) ≤ s2 129 1) then 1 else 0 : Int) → G X 0 0 90 [(11, 0), (0, a_its), (0, a_g), (0, a_s), (0, r1), (1, 0)] [(0, v1)] (m, s2) by
            have J10 : (0 < s2 131 a_its) ∧ ((s2 140 2) - (s2 131 a_its) ≤ s2 129 1) → G X 0 0 85 [(11, 0), (0, a_its), (0, a_g), (0, a_s), (0, r1), (1, 0)] [] (m, s2) := by
              intro h12
              refine g_iconst h 85 dX8_caches_85 ?_
              refine g_goto h 86 90 dX8_caches_86 (by decide) ?_
              exact J9 _ (if_pos h12).symm
            have J11 : ¬ ((0 < s2 131 a_its) ∧ ((s2 140 2) - (s2 131 a_its) ≤ s2 129 1)) → G X 0 0 89 [(11, 0), (0, a_its), (0, a_g), (0, a_s), (0, r1), (1, 0)] [] (m, s2) := by
              intro h13
              refine g_iconst h 89 dX8_caches_89 ?_
              exact J9 _ (if_neg h13).symm
            refine g_aload_nq h 54 dX8_caches_54 rfl rfl ?_
            refine gf_M_stamp h 55 dX8_caches_55 kw_1037 ?_
            refine g_iload_n h 58 dX8_caches_58 rfl ?_
            refine al_M_stamp h 59 dX8_caches_59 (by omega) ?_
            refine g_if_le h 60 89 (gRi (by omega)) dX8_caches_60 (by decide) (fun h10 => ?_) (fun h10 => ?_)
            · exact J11 (fun q => (Int.not_lt.mpr h10) q.1)
            · refine g_aload_nq h 63 dX8_caches_63 rfl rfl ?_
              refine gf_M_counts h 64 dX8_caches_64 kw_1047 ?_
              refine g_iconst h 67 dX8_caches_67 ?_
              refine al_M_counts h 68 dX8_caches_68 (by omega) ?_
              refine g_aload_nq h 69 dX8_caches_69 rfl rfl ?_
              refine gf_M_stamp h 70 dX8_caches_70 kw_1037 ?_
              refine g_iload_n h 73 dX8_caches_73 rfl ?_
              refine al_M_stamp h 74 dX8_caches_74 (by omega) ?_
              refine g_isub h 75 dX8_caches_75 ?_
              refine g_aload_nq h 76 dX8_caches_76 rfl rfl ?_
              refine gf_M_many h 77 dX8_caches_77 kw_1035 ?_
              refine g_iconst h 80 dX8_caches_80 ?_
              refine al_M_many h 81 dX8_caches_81 (by omega) ?_
              refine g_icmp_gt h 82 89 (gRi (by omega)) (gRi (by omega)) dX8_caches_82 (by decide) (fun h11 => ?_) (fun h11 => ?_)
              · exact J11 (fun q => (Int.not_le.mpr h11) q.2)
              · exact J10 ⟨h10, h11⟩
          intro v1 e1
          subst e1
          refine g_istore h 90 dX8_caches_90 (Nat.le_of_ble_eq_true rfl) rfl (L' := [(11, 0), (0, a_its), (0, a_g), (0, a_s), (0, r1), (0, (if (0 < s2 131 a_its) ∧ ((s2 140 2) - (s2 131 a_its) ≤ s2 129 1) then 1 else 0 : Int))]) rfl ?_
          refine g_aload_nq h 92 dX8_caches_92 rfl rfl ?_
          refine gf_M_counts h 93 dX8_caches_93 kw_1047 ?_
          refine g_iconst h 96 dX8_caches_96 ?_
          refine g_dup2 h 97 dX8_caches_97 (show (0 : Nat) ≠ 2 by decide) (show (58 : Nat) ≠ 2 by decide) ?_
          refine al_M_counts h 98 dX8_caches_98 (by omega) ?_
          suffices J12 : ∀ v2 : Int, v2 = (if (0 < s2 131 a_its) ∧ ((s2 140 2) - (s2 131 a_its) ≤ s2 129 1) then 1 else 0 : Int) → G X 0 0 109 [(11, 0), (0, a_its), (0, a_g), (0, a_s), (0, r1), (0, (if (0 < s2 131 a_its) ∧ ((s2 140 2) - (s2 131 a_its) ≤ s2 129 1) then 1 else 0 : Int))] [(0, v2), (0, s2 140 3), (0, 3), (58, 0)] (m, s2) by
            have J13 : (0 < s2 131 a_its) ∧ ((s2 140 2) - (s2 131 a_its) ≤ s2 129 1) → G X 0 0 104 [(11, 0), (0, a_its), (0, a_g), (0, a_s), (0, r1), (0, (if (0 < s2 131 a_its) ∧ ((s2 140 2) - (s2 131 a_its) ≤ s2 129 1) then 1 else 0 : Int))] [(0, s2 140 3), (0, 3), (58, 0)] (m, s2) := by
              intro h15
              refine g_iconst h 104 dX8_caches_104 ?_
              refine g_goto h 105 109 dX8_caches_105 (by decide) ?_
              exact J12 _ (if_pos h15).symm
            have J14 : ¬ ((0 < s2 131 a_its) ∧ ((s2 140 2) - (s2 131 a_its) ≤ s2 129 1)) → G X 0 0 108 [(11, 0), (0, a_its), (0, a_g), (0, a_s), (0, r1), (0, (if (0 < s2 131 a_its) ∧ ((s2 140 2) - (s2 131 a_its) ≤ s2 129 1) then 1 else 0 : Int))] [(0, s2 140 3), (0, 3), (58, 0)] (m, s2) := by
              intro h16
              refine g_iconst h 108 dX8_caches_108 ?_
              exact J12 _ (if_neg h16).symm
            refine g_iload h 99 dX8_caches_99 rfl ?_
            refine g_if_eq h 101 108 (gRi gR_ite) dX8_caches_101 (by decide) (fun h14 => ?_) (fun h14 => ?_)
            · exact J14 (iz_f h14)
            · exact J13 (iz_t h14)
          intro v2 e2
          subst e2
          refine g_iadd h 109 dX8_caches_109 ?_
          obtain ⟨s4, es4, hF⟩ := bn_ex hF
          refine as_M_counts h 110 dX8_caches_110 (by omega) ?_
          rw [← es4]
          refine g_aload_nq h 111 dX8_caches_111 rfl rfl ?_
          refine gf_M_counts h 112 dX8_caches_112 kw_1047 ?_
          refine g_iconst h 115 dX8_caches_115 ?_
          refine g_dup2 h 116 dX8_caches_116 (show (0 : Nat) ≠ 2 by decide) (show (58 : Nat) ≠ 2 by decide) ?_
          refine al_M_counts h 117 dX8_caches_117 (by omega) ?_
          refine g_iconst h 118 dX8_caches_118 ?_
          refine g_iadd h 119 dX8_caches_119 ?_
          obtain ⟨s5, es5, hF⟩ := bn_ex hF
          refine as_M_counts h 120 dX8_caches_120 (by omega) ?_
          rw [← es5]
          refine g_aload_nq h 121 dX8_caches_121 rfl rfl ?_
          refine g_iload h 122 dX8_caches_122 rfl ?_
          refine g_iconst h 124 dX8_caches_124 ?_
          refine G_typ fun hT_s5 => ?_
          have t5 : 0 ≤ s5 130 a_its ∧ s5 130 a_its ≤ 99999 := hT_s5.2 130 a_its
          refine g_aload_nq h 125 dX8_caches_125 rfl rfl ?_
          refine gf_M_disk h 126 dX8_caches_126 kw_1036 ?_
          refine g_iload_n h 129 dX8_caches_129 rfl ?_
          refine al_M_disk h 130 dX8_caches_130 (by omega) ?_
          refine g_iload_n h 131 dX8_caches_131 rfl ?_
          suffices J15 : ∀ v3 : Int, v3 = (if (0 < s2 131 a_its) ∧ ((s2 140 2) - (s2 131 a_its) ≤ s2 129 1) then 1 else 0 : Int) → G X 0 0 142 [(11, 0), (0, a_its), (0, a_g), (0, a_s), (0, r1), (0, (if (0 < s2 131 a_its) ∧ ((s2 140 2) - (s2 131 a_its) ≤ s2 129 1) then 1 else 0 : Int))] [(0, v3), (0, a_g), (0, s5 130 a_its), (0, 2), (0, r1), (11, 0)] (m, s5) by
            have J16 : (0 < s2 131 a_its) ∧ ((s2 140 2) - (s2 131 a_its) ≤ s2 129 1) → G X 0 0 137 [(11, 0), (0, a_its), (0, a_g), (0, a_s), (0, r1), (0, (if (0 < s2 131 a_its) ∧ ((s2 140 2) - (s2 131 a_its) ≤ s2 129 1) then 1 else 0 : Int))] [(0, a_g), (0, s5 130 a_its), (0, 2), (0, r1), (11, 0)] (m, s5) := by
              intro h18
              refine g_iconst h 137 dX8_caches_137 ?_
              refine g_goto h 138 142 dX8_caches_138 (by decide) ?_
              exact J15 _ (if_pos h18).symm
            have J17 : ¬ ((0 < s2 131 a_its) ∧ ((s2 140 2) - (s2 131 a_its) ≤ s2 129 1)) → G X 0 0 141 [(11, 0), (0, a_its), (0, a_g), (0, a_s), (0, r1), (0, (if (0 < s2 131 a_its) ∧ ((s2 140 2) - (s2 131 a_its) ≤ s2 129 1) then 1 else 0 : Int))] [(0, a_g), (0, s5 130 a_its), (0, 2), (0, r1), (11, 0)] (m, s5) := by
              intro h19
              refine g_iconst h 141 dX8_caches_141 ?_
              exact J15 _ (if_neg h19).symm
            refine g_iload h 132 dX8_caches_132 rfl ?_
            refine g_if_eq h 134 141 (gRi gR_ite) dX8_caches_134 (by decide) (fun h17 => ?_) (fun h17 => ?_)
            · exact J17 (iz_f h17)
            · exact J16 (iz_t h17)
          intro v3 e3
          subst e3
          obtain ⟨r2, s6, c2, hF⟩ := cb_some hF
          refine g_callV h hE 142 dX8_caches_142 (ctX8_puts hl c2) mwX8_puts kw_1356 (by decide) (by decide) rfl (Nat.le_of_ble_eq_true rfl) rfl (Nat.le_of_ble_eq_true rfl) ⟨Nat.le_of_ble_eq_true rfl, Nat.le_of_ble_eq_true rfl⟩ rfl rfl ?_
          show G X 0 0 145 [(11, 0), (0, a_its), (0, a_g), (0, a_s), (0, r1), (0, (if (0 < s2 131 a_its) ∧ ((s2 140 2) - (s2 131 a_its) ≤ s2 129 1) then 1 else 0 : Int))] [] (m, s6)
          refine g_aload_nq h 145 dX8_caches_145 rfl rfl ?_
          refine gf_M_key h 146 dX8_caches_146 kw_1033 ?_
          refine g_iload h 149 dX8_caches_149 rfl ?_
          refine g_iload_n h 151 dX8_caches_151 rfl ?_
          obtain ⟨s7, es7, hF⟩ := bn_ex hF
          refine as_M_key h 152 dX8_caches_152 (by omega) (by omega) ?_
          rw [← es7]
          refine G_weak (L' := [(11, 0), (0, a_its), (0, a_g), (0, a_s), (0, r1), (1, 0)]) ⟨Or.inr rfl, Or.inr rfl, Or.inr rfl, Or.inr rfl, Or.inr rfl, Or.inl rfl, trivial⟩ ?_
          exact J6 _ hF
        have J8 : ¬ (0 ≤ r1) → G X 0 0 153 [(11, 0), (0, a_its), (0, a_g), (0, a_s), (0, r1), (1, 0)] [] (m, s2) := by
          intro h20
          have hF := ite_f h20 hF
          exact J6 _ hF
        refine g_iload h 49 dX8_caches_49 rfl ?_
        refine g_if_lt h 51 153 (gRi (by omega)) dX8_caches_51 (by decide) (fun h8 => ?_) (fun h8 => ?_)
        · exact J8 (Int.not_le.mpr h8)
        · exact J7 h8
      refine g_iload h 3 dX8_caches_3 rfl ?_
      refine g_bipush h 5 dX8_caches_5 (by decide) ?_
      refine g_icmp_ge h 7 41 (gRi (by omega)) (gRi (by omega)) dX8_caches_7 (by decide) (fun h1 => ?_) (fun h1 => ?_)
      · exact J3 (Int.not_lt.mpr h1)
      · exact J2 h1
  exact J18 _ _ _ (by omega) hF
-- PagewrightModel.renews
def FX8_renews (a_s a_e a_v : Int) (s : S2) : Option (Int × S2) :=
  rgd (-5) 23 <| gd (0 ≤ a_s ∧ a_s ≤ 5) <| gd (0 ≤ a_e ∧ a_e ≤ 191) <| gd (0 ≤ a_v ∧ a_v ≤ 99999) <| cb (FX8_takes (s 107 a_s) a_s s) fun r1 s1 => bn (fun (s2 : S2) => some (r1, s2)) fun k1 => if 0 ≤ r1 then cb (FX8_leaves a_e s1) fun r2 s3 => cb (FX8_puts r1 1 a_v (s3 107 a_s) 0 s3) fun r3 s4 => bn (upd2 s4 117 a_e r1) fun s5 => bn (upd2 s5 116 a_e 1) fun s6 => k1 s6 else k1 s1
theorem rgX8_renews {a_s a_e a_v : Int} {s s0 : S2} {r0 : Int} (hF : FX8_renews a_s a_e a_v s = some (r0, s0)) : (-5) ≤ r0 ∧ r0 ≤ 23 := (rgd_some hF).2
set_option maxRecDepth 100000 in
set_option maxHeartbeats 4000000 in
theorem ctX8_renews {l : Launch} {w : gW} {bs : Nat} (hl : l.stackTraces = false) {a_s a_e a_v : Int} {s m s0 : S2} {r0 : Int} (hF : FX8_renews a_s a_e a_v s = some (r0, s0)) : gMet l w bs yX8_renews cX8_renews 5 (some FieldType.int) 7 0 [(11, 0), (0, a_s), (0, a_e), (0, a_v)] (m, s) 0 (some (0, r0)) (m, s0) := by
  unfold FX8_renews at hF
  obtain ⟨hF, hr⟩ := rgd_some hF
  obtain ⟨q_a_s, hF⟩ := gd_some hF
  obtain ⟨q_a_e, hF⟩ := gd_some hF
  obtain ⟨q_a_v, hF⟩ := gd_some hF
  refine g_start hl (by decide) (Nat.le_of_ble_eq_true rfl) rfl fun X h hE => ?_
  have h : gOk X "PagewrightModel" cX8_renews 5 7 0 0 := h
  have hE : gEnd X l w bs 0 (some FieldType.int) 0 (some (0, r0)) (m, s0) := hE
  show G X 0 0 0 [(11, 0), (0, a_s), (0, a_e), (0, a_v), (1, 0)] [] (m, s)
  refine g_aload_nq h 0 dX8_renews_0 rfl rfl ?_
  refine G_typ fun hT_s => ?_
  have t1 : 0 ≤ s 107 a_s ∧ s 107 a_s ≤ 2 := hT_s.2 107 a_s
  refine g_aload_nq h 1 dX8_renews_1 rfl rfl ?_
  refine gf_M_group h 2 dX8_renews_2 kw_1013 ?_
  refine g_iload_n h 5 dX8_renews_5 rfl ?_
  refine al_M_group h 6 dX8_renews_6 (by omega) ?_
  refine g_iload_n h 7 dX8_renews_7 rfl ?_
  obtain ⟨r1, s1, c1, hF⟩ := cb_some hF
  have t2 : (-5) ≤ r1 ∧ r1 ≤ 23 := rgX8_takes c1
  refine g_callV h hE 8 dX8_renews_8 (ctX8_takes hl c1) mwX8_takes kw_1304 (by decide) (by decide) rfl (Nat.le_of_ble_eq_true rfl) rfl (Nat.le_of_ble_eq_true rfl) ⟨Nat.le_of_ble_eq_true rfl, Nat.le_of_ble_eq_true rfl⟩ rfl rfl ?_
  show G X 0 0 11 [(11, 0), (0, a_s), (0, a_e), (0, a_v), (1, 0)] [(0, r1)] (m, s1)
  refine g_istore h 11 dX8_renews_11 (Nat.le_of_ble_eq_true rfl) rfl (L' := [(11, 0), (0, a_s), (0, a_e), (0, a_v), (0, r1)]) rfl ?_
  obtain ⟨k1, ek1, hF⟩ := bn_ex hF
  have J1 : ∀ (s2 : S2), k1 s2 = some (r0, s0) → G X 0 0 53 [(11, 0), (0, a_s), (0, a_e), (0, a_v), (0, r1)] [] (m, s2) := by
    intro s2 hF
    rw [ek1] at hF
    refine g_iload h 53 dX8_renews_53 rfl ?_
    obtain ⟨e1, e2⟩ := some_2 hF
    rw [← e1, ← e2] at hE
    exact g_iret h 55 dX8_renews_55 hE rfl rfl ⟨(Nat.le_of_ble_eq_true rfl), (Nat.le_of_ble_eq_true rfl)⟩
  have J2 : 0 ≤ r1 → G X 0 0 18 [(11, 0), (0, a_s), (0, a_e), (0, a_v), (0, r1)] [] (m, s1) := by
    intro h2
    have hF := ite_t h2 hF
    refine g_aload_nq h 18 dX8_renews_18 rfl rfl ?_
    refine g_iload_n h 19 dX8_renews_19 rfl ?_
    obtain ⟨r2, s3, c2, hF⟩ := cb_some hF
    refine g_callV h hE 20 dX8_renews_20 (ctX8_leaves hl c2) mwX8_leaves kw_1192 (by decide) (by decide) rfl (Nat.le_of_ble_eq_true rfl) rfl (Nat.le_of_ble_eq_true rfl) ⟨Nat.le_of_ble_eq_true rfl, Nat.le_of_ble_eq_true rfl⟩ rfl rfl ?_
    show G X 0 0 23 [(11, 0), (0, a_s), (0, a_e), (0, a_v), (0, r1)] [] (m, s3)
    refine g_aload_nq h 23 dX8_renews_23 rfl rfl ?_
    refine g_iload h 24 dX8_renews_24 rfl ?_
    refine g_iconst h 26 dX8_renews_26 ?_
    refine g_iload_n h 27 dX8_renews_27 rfl ?_
    refine G_typ fun hT_s3 => ?_
    have t3 : 0 ≤ s3 107 a_s ∧ s3 107 a_s ≤ 2 := hT_s3.2 107 a_s
    refine g_aload_nq h 28 dX8_renews_28 rfl rfl ?_
    refine gf_M_group h 29 dX8_renews_29 kw_1013 ?_
    refine g_iload_n h 32 dX8_renews_32 rfl ?_
    refine al_M_group h 33 dX8_renews_33 (by omega) ?_
    refine g_iconst h 34 dX8_renews_34 ?_
    obtain ⟨r3, s4, c3, hF⟩ := cb_some hF
    refine g_callV h hE 35 dX8_renews_35 (ctX8_puts hl c3) mwX8_puts kw_1356 (by decide) (by decide) rfl (Nat.le_of_ble_eq_true rfl) rfl (Nat.le_of_ble_eq_true rfl) ⟨Nat.le_of_ble_eq_true rfl, Nat.le_of_ble_eq_true rfl⟩ rfl rfl ?_
    show G X 0 0 38 [(11, 0), (0, a_s), (0, a_e), (0, a_v), (0, r1)] [] (m, s4)
    refine g_aload_nq h 38 dX8_renews_38 rfl rfl ?_
    refine gf_M_page h 39 dX8_renews_39 kw_1023 ?_
    refine g_iload_n h 42 dX8_renews_42 rfl ?_
    refine g_iload h 43 dX8_renews_43 rfl ?_
    obtain ⟨s5, es5, hF⟩ := bn_ex hF
    refine as_M_page h 45 dX8_renews_45 (by omega) (by omega) ?_
    rw [← es5]
    refine g_aload_nq h 46 dX8_renews_46 rfl rfl ?_
    refine gf_M_state h 47 dX8_renews_47 kw_1022 ?_
    refine g_iload_n h 50 dX8_renews_50 rfl ?_
    refine g_iconst h 51 dX8_renews_51 ?_
    obtain ⟨s6, es6, hF⟩ := bn_ex hF
    refine as_M_state h 52 dX8_renews_52 (by omega) (by omega) ?_
    rw [← es6]
    exact J1 _ hF
  have J3 : ¬ (0 ≤ r1) → G X 0 0 53 [(11, 0), (0, a_s), (0, a_e), (0, a_v), (0, r1)] [] (m, s1) := by
    intro h3
    have hF := ite_f h3 hF
    exact J1 _ hF
  refine g_iload h 13 dX8_renews_13 rfl ?_
  refine g_if_lt h 15 53 (gRi (by omega)) dX8_renews_15 (by decide) (fun h1 => ?_) (fun h1 => ?_)
  · exact J3 (Int.not_le.mpr h1)
  · exact J2 h1
-- PagewrightModel.comesIn
def FX8_comesIn (a_s a_e a_stores : Int) (s : S2) : Option (Int × S2) :=
  rgd (-5) 23 <| gd (0 ≤ a_s ∧ a_s ≤ 5) <| gd (0 ≤ a_e ∧ a_e ≤ 191) <| gd (0 ≤ a_stores ∧ a_stores ≤ 1) <| if s 116 a_e = 2 then gd (0 ≤ s 119 a_e ∧ s 119 a_e ≤ 17) <| cb (FX8_renews a_s a_e (s 133 (s 119 a_e)) s) fun r1 s1 => some (r1, s1) else if s 112 a_e = (-1) then cb (FX8_renews a_s a_e 0 s) fun r2 s2 => some (r2, s2) else cb (FX8_caches ((8 * (s 112 a_e)) + (s 113 a_e)) (s 107 a_s) a_s s) fun r3 s3 => if (r3 < 0) ∨ ((a_stores ≠ 0) ∧ (¬ (s3 114 a_e ≠ 0))) then bn (fun (v1 : Int) (s4 : S2) => bn (upd2 s4 140 6 ((s4 140 6) + (if v1 < 0 then 0 else 1 : Int))) fun s6 => some (v1, s6)) fun k1 => if r3 < 0 then k1 r3 s3 else cb (FX8_renews a_s a_e (s3 122 r3) s3) fun r4 s5 => k1 r4 s5 else bn (upd2 s3 117 a_e r3) fun s7 => bn (upd2 s7 116 a_e 1) fun s8 => some (r3, s8)
theorem rgX8_comesIn {a_s a_e a_stores : Int} {s s0 : S2} {r0 : Int} (hF : FX8_comesIn a_s a_e a_stores s = some (r0, s0)) : (-5) ≤ r0 ∧ r0 ≤ 23 := (rgd_some hF).2
set_option maxRecDepth 100000 in
set_option maxHeartbeats 4000000 in
theorem ctX8_comesIn {l : Launch} {w : gW} {bs : Nat} (hl : l.stackTraces = false) {a_s a_e a_stores : Int} {s m s0 : S2} {r0 : Int} (hF : FX8_comesIn a_s a_e a_stores s = some (r0, s0)) : gMet l w bs yX8_comesIn cX8_comesIn 6 (some FieldType.int) 8 0 [(11, 0), (0, a_s), (0, a_e), (0, a_stores)] (m, s) 0 (some (0, r0)) (m, s0) := by
  unfold FX8_comesIn at hF
  obtain ⟨hF, hr⟩ := rgd_some hF
  obtain ⟨q_a_s, hF⟩ := gd_some hF
  obtain ⟨q_a_e, hF⟩ := gd_some hF
  obtain ⟨q_a_stores, hF⟩ := gd_some hF
  refine g_start hl (by decide) (Nat.le_of_ble_eq_true rfl) rfl fun X h hE => ?_
  have h : gOk X "PagewrightModel" cX8_comesIn 6 8 0 0 := h
  have hE : gEnd X l w bs 0 (some FieldType.int) 0 (some (0, r0)) (m, s0) := hE
  show G X 0 0 0 [(11, 0), (0, a_s), (0, a_e), (0, a_stores), (1, 0), (1, 0)] [] (m, s)
  refine G_typ fun hT_s => ?_
  have t1 : 0 ≤ s 116 a_e ∧ s 116 a_e ≤ 2 := hT_s.2 116 a_e
  have J1 : s 116 a_e = 2 → G X 0 0 10 [(11, 0), (0, a_s), (0, a_e), (0, a_stores), (1, 0), (1, 0)] [] (m, s) := by
    intro h2
    have hF := ite_t h2 hF
    refine g_aload_nq h 10 dX8_comesIn_10 rfl rfl ?_
    refine g_iload_n h 11 dX8_comesIn_11 rfl ?_
    refine g_iload_n h 12 dX8_comesIn_12 rfl ?_
    have t2 : (-1) ≤ s 119 a_e ∧ s 119 a_e ≤ 17 := hT_s.2 119 a_e
    have t3 : 0 ≤ s 133 (s 119 a_e) ∧ s 133 (s 119 a_e) ≤ 99999 := hT_s.2 133 (s 119 a_e)
    obtain ⟨q1, hF⟩ := gd_some hF
    refine g_aload_nq h 13 dX8_comesIn_13 rfl rfl ?_
    refine gf_M_kept h 14 dX8_comesIn_14 kw_1039 ?_
    refine g_aload_nq h 17 dX8_comesIn_17 rfl rfl ?_
    refine gf_M_record h 18 dX8_comesIn_18 kw_1025 ?_
    refine g_iload_n h 21 dX8_comesIn_21 rfl ?_
    refine al_M_record h 22 dX8_comesIn_22 (by omega) ?_
    refine al_M_kept h 23 dX8_comesIn_23 (by omega) ?_
    obtain ⟨r1, s1, c1, hF⟩ := cb_some hF
    have t4 : (-5) ≤ r1 ∧ r1 ≤ 23 := rgX8_renews c1
    refine g_callV h hE 24 dX8_comesIn_24 (ctX8_renews hl c1) mwX8_renews kw_1300 (by decide) (by decide) rfl (Nat.le_of_ble_eq_true rfl) rfl (Nat.le_of_ble_eq_true rfl) ⟨Nat.le_of_ble_eq_true rfl, Nat.le_of_ble_eq_true rfl⟩ rfl rfl ?_
    show G X 0 0 27 [(11, 0), (0, a_s), (0, a_e), (0, a_stores), (1, 0), (1, 0)] [(0, r1)] (m, s1)
    obtain ⟨e1, e2⟩ := some_2 hF
    rw [← e1, ← e2] at hE
    exact g_iret h 27 dX8_comesIn_27 hE rfl rfl ⟨(Nat.le_of_ble_eq_true rfl), (Nat.le_of_ble_eq_true rfl)⟩
  have J2 : ¬ (s 116 a_e = 2) → G X 0 0 28 [(11, 0), (0, a_s), (0, a_e), (0, a_stores), (1, 0), (1, 0)] [] (m, s) := by
    intro h3
    have hF := ite_f h3 hF
    have t5 : (-1) ≤ s 112 a_e ∧ s 112 a_e ≤ 2 := hT_s.2 112 a_e
    have J3 : s 112 a_e = (-1) → G X 0 0 38 [(11, 0), (0, a_s), (0, a_e), (0, a_stores), (1, 0), (1, 0)] [] (m, s) := by
      intro h5
      have hF := ite_t h5 hF
      refine g_aload_nq h 38 dX8_comesIn_38 rfl rfl ?_
      refine g_iload_n h 39 dX8_comesIn_39 rfl ?_
      refine g_iload_n h 40 dX8_comesIn_40 rfl ?_
      refine g_iconst h 41 dX8_comesIn_41 ?_
      obtain ⟨r2, s2, c2, hF⟩ := cb_some hF
      have t6 : (-5) ≤ r2 ∧ r2 ≤ 23 := rgX8_renews c2
      refine g_callV h hE 42 dX8_comesIn_42 (ctX8_renews hl c2) mwX8_renews kw_1300 (by decide) (by decide) rfl (Nat.le_of_ble_eq_true rfl) rfl (Nat.le_of_ble_eq_true rfl) ⟨Nat.le_of_ble_eq_true rfl, Nat.le_of_ble_eq_true rfl⟩ rfl rfl ?_
      show G X 0 0 45 [(11, 0), (0, a_s), (0, a_e), (0, a_stores), (1, 0), (1, 0)] [(0, r2)] (m, s2)
      obtain ⟨e1, e2⟩ := some_2 hF
      rw [← e1, ← e2] at hE
      exact g_iret h 45 dX8_comesIn_45 hE rfl rfl ⟨(Nat.le_of_ble_eq_true rfl), (Nat.le_of_ble_eq_true rfl)⟩
    have J4 : ¬ (s 112 a_e = (-1)) → G X 0 0 46 [(11, 0), (0, a_s), (0, a_e), (0, a_stores), (1, 0), (1, 0)] [] (m, s) := by
      intro h6
      have hF := ite_f h6 hF
      refine g_aload_nq h 46 dX8_comesIn_46 rfl rfl ?_
      have t7 : 0 ≤ s 113 a_e ∧ s 113 a_e ≤ 7 := hT_s.2 113 a_e
      refine g_bipush h 47 dX8_comesIn_47 (by decide) ?_
      refine g_aload_nq h 49 dX8_comesIn_49 rfl rfl ?_
      refine gf_M_file h 50 dX8_comesIn_50 kw_1018 ?_
      refine g_iload_n h 53 dX8_comesIn_53 rfl ?_
      refine al_M_file h 54 dX8_comesIn_54 (by omega) ?_
      refine g_imul h 55 dX8_comesIn_55 ?_
      refine g_aload_nq h 56 dX8_comesIn_56 rfl rfl ?_
      refine gf_M_index h 57 dX8_comesIn_57 kw_1019 ?_
      refine g_iload_n h 60 dX8_comesIn_60 rfl ?_
      refine al_M_index h 61 dX8_comesIn_61 (by omega) ?_
      refine g_iadd h 62 dX8_comesIn_62 ?_
      have t8 : 0 ≤ s 107 a_s ∧ s 107 a_s ≤ 2 := hT_s.2 107 a_s
      refine g_aload_nq h 63 dX8_comesIn_63 rfl rfl ?_
      refine gf_M_group h 64 dX8_comesIn_64 kw_1013 ?_
      refine g_iload_n h 67 dX8_comesIn_67 rfl ?_
      refine al_M_group h 68 dX8_comesIn_68 (by omega) ?_
      refine g_iload_n h 69 dX8_comesIn_69 rfl ?_
      obtain ⟨r3, s3, c3, hF⟩ := cb_some hF
      have t9 : (-5) ≤ r3 ∧ r3 ≤ 23 := rgX8_caches c3
      refine g_callV h hE 70 dX8_comesIn_70 (ctX8_caches hl c3) mwX8_caches kw_1360 (by decide) (by decide) rfl (Nat.le_of_ble_eq_true rfl) rfl (Nat.le_of_ble_eq_true rfl) ⟨Nat.le_of_ble_eq_true rfl, Nat.le_of_ble_eq_true rfl⟩ rfl rfl ?_
      show G X 0 0 73 [(11, 0), (0, a_s), (0, a_e), (0, a_stores), (1, 0), (1, 0)] [(0, r3)] (m, s3)
      refine g_istore h 73 dX8_comesIn_73 (Nat.le_of_ble_eq_true rfl) rfl (L' := [(11, 0), (0, a_s), (0, a_e), (0, a_stores), (0, r3), (1, 0)]) rfl ?_
      refine G_typ fun hT_s3 => ?_
      have t10 : 0 ≤ s3 114 a_e ∧ s3 114 a_e ≤ 1 := hT_s3.2 114 a_e
      have J5 : (r3 < 0) ∨ ((a_stores ≠ 0) ∧ (¬ (s3 114 a_e ≠ 0))) → G X 0 0 93 [(11, 0), (0, a_s), (0, a_e), (0, a_stores), (0, r3), (1, 0)] [] (m, s3) := by
        intro h10
        have hF := ite_t h10 hF
        obtain ⟨k1, ek1, hF⟩ := bn_ex hF
        have J7 : ∀ (v1 : Int) (s4 : S2), ((-2147483648) ≤ v1 ∧ v1 ≤ 2147483647) → k1 v1 s4 = some (r0, s0) → G X 0 0 116 [(11, 0), (0, a_s), (0, a_e), (0, a_stores), (0, r3), (1, 0)] [(0, v1)] (m, s4) := by
          intro v1 s4 q2 hF
          rw [ek1] at hF
          refine g_istore h 116 dX8_comesIn_116 (Nat.le_of_ble_eq_true rfl) rfl (L' := [(11, 0), (0, a_s), (0, a_e), (0, a_stores), (0, r3), (0, v1)]) rfl ?_
          refine g_aload_nq h 118 dX8_comesIn_118 rfl rfl ?_
          refine gf_M_counts h 119 dX8_comesIn_119 kw_1047 ?_
          refine g_bipush h 122 dX8_comesIn_122 (by decide) ?_
          refine g_dup2 h 124 dX8_comesIn_124 (show (0 : Nat) ≠ 2 by decide) (show (58 : Nat) ≠ 2 by decide) ?_
          refine al_M_counts h 125 dX8_comesIn_125 (by omega) ?_
          suffices J10 : ∀ v2 : Int, v2 = (if v1 < 0 then 0 else 1 : Int) → G X 0 0 136 [(11, 0), (0, a_s), (0, a_e), (0, a_stores), (0, r3), (0, v1)] [(0, v2), (0, s4 140 6), (0, 6), (58, 0)] (m, s4) by
            have J11 : v1 < 0 → G X 0 0 131 [(11, 0), (0, a_s), (0, a_e), (0, a_stores), (0, r3), (0, v1)] [(0, s4 140 6), (0, 6), (58, 0)] (m, s4) := by
              intro h15
              refine g_iconst h 131 dX8_comesIn_131 ?_
              refine g_goto h 132 136 dX8_comesIn_132 (by decide) ?_
              exact J10 _ (if_pos h15).symm
            have J12 : ¬ (v1 < 0) → G X 0 0 135 [(11, 0), (0, a_s), (0, a_e), (0, a_stores), (0, r3), (0, v1)] [(0, s4 140 6), (0, 6), (58, 0)] (m, s4) := by
              intro h16
              refine g_iconst h 135 dX8_comesIn_135 ?_
              exact J10 _ (if_neg h16).symm
            refine g_iload h 126 dX8_comesIn_126 rfl ?_
            refine g_if_ge h 128 135 (gRi (by omega)) dX8_comesIn_128 (by decide) (fun h14 => ?_) (fun h14 => ?_)
            · exact J12 (Int.not_lt.mpr h14)
            · exact J11 h14
          intro v2 e1
          subst e1
          refine g_iadd h 136 dX8_comesIn_136 ?_
          obtain ⟨s6, es6, hF⟩ := bn_ex hF
          refine as_M_counts h 137 dX8_comesIn_137 (by omega) ?_
          rw [← es6]
          refine g_iload h 138 dX8_comesIn_138 rfl ?_
          obtain ⟨e1, e2⟩ := some_2 hF
          rw [← e1, ← e2] at hE
          exact g_iret h 140 dX8_comesIn_140 hE rfl rfl ⟨(Nat.le_of_ble_eq_true rfl), (Nat.le_of_ble_eq_true rfl)⟩
        have J8 : r3 < 0 → G X 0 0 98 [(11, 0), (0, a_s), (0, a_e), (0, a_stores), (0, r3), (1, 0)] [] (m, s3) := by
          intro h12
          have hF := ite_t h12 hF
          refine g_iload h 98 dX8_comesIn_98 rfl ?_
          refine g_goto h 100 116 dX8_comesIn_100 (by decide) ?_
          exact J7 _ _ (by omega) hF
        have J9 : ¬ (r3 < 0) → G X 0 0 103 [(11, 0), (0, a_s), (0, a_e), (0, a_stores), (0, r3), (1, 0)] [] (m, s3) := by
          intro h13
          have hF := ite_f h13 hF
          refine g_aload_nq h 103 dX8_comesIn_103 rfl rfl ?_
          refine g_iload_n h 104 dX8_comesIn_104 rfl ?_
          refine g_iload_n h 105 dX8_comesIn_105 rfl ?_
          have t11 : 0 ≤ s3 122 r3 ∧ s3 122 r3 ≤ 99999 := hT_s3.2 122 r3
          refine g_aload_nq h 106 dX8_comesIn_106 rfl rfl ?_
          refine gf_M_value h 107 dX8_comesIn_107 kw_1028 ?_
          refine g_iload h 110 dX8_comesIn_110 rfl ?_
          refine al_M_value h 112 dX8_comesIn_112 (by omega) ?_
          obtain ⟨r4, s5, c4, hF⟩ := cb_some hF
          have t12 : (-5) ≤ r4 ∧ r4 ≤ 23 := rgX8_renews c4
          refine g_callV h hE 113 dX8_comesIn_113 (ctX8_renews hl c4) mwX8_renews kw_1300 (by decide) (by decide) rfl (Nat.le_of_ble_eq_true rfl) rfl (Nat.le_of_ble_eq_true rfl) ⟨Nat.le_of_ble_eq_true rfl, Nat.le_of_ble_eq_true rfl⟩ rfl rfl ?_
          show G X 0 0 116 [(11, 0), (0, a_s), (0, a_e), (0, a_stores), (0, r3), (1, 0)] [(0, r4)] (m, s5)
          exact J7 _ _ (by omega) hF
        refine g_iload h 93 dX8_comesIn_93 rfl ?_
        refine g_if_ge h 95 103 (gRi (by omega)) dX8_comesIn_95 (by decide) (fun h11 => ?_) (fun h11 => ?_)
        · exact J9 (Int.not_lt.mpr h11)
        · exact J8 h11
      have J6 : ¬ ((r3 < 0) ∨ ((a_stores ≠ 0) ∧ (¬ (s3 114 a_e ≠ 0)))) → G X 0 0 141 [(11, 0), (0, a_s), (0, a_e), (0, a_stores), (0, r3), (1, 0)] [] (m, s3) := by
        intro h17
        have hF := ite_f h17 hF
        refine g_aload_nq h 141 dX8_comesIn_141 rfl rfl ?_
        refine gf_M_page h 142 dX8_comesIn_142 kw_1023 ?_
        refine g_iload_n h 145 dX8_comesIn_145 rfl ?_
        refine g_iload h 146 dX8_comesIn_146 rfl ?_
        obtain ⟨s7, es7, hF⟩ := bn_ex hF
        refine as_M_page h 148 dX8_comesIn_148 (by omega) (by omega) ?_
        rw [← es7]
        refine g_aload_nq h 149 dX8_comesIn_149 rfl rfl ?_
        refine gf_M_state h 150 dX8_comesIn_150 kw_1022 ?_
        refine g_iload_n h 153 dX8_comesIn_153 rfl ?_
        refine g_iconst h 154 dX8_comesIn_154 ?_
        obtain ⟨s8, es8, hF⟩ := bn_ex hF
        refine as_M_state h 155 dX8_comesIn_155 (by omega) (by omega) ?_
        rw [← es8]
        refine g_iload h 156 dX8_comesIn_156 rfl ?_
        obtain ⟨e1, e2⟩ := some_2 hF
        rw [← e1, ← e2] at hE
        exact g_iret h 158 dX8_comesIn_158 hE rfl rfl ⟨(Nat.le_of_ble_eq_true rfl), (Nat.le_of_ble_eq_true rfl)⟩
      refine g_iload h 75 dX8_comesIn_75 rfl ?_
      refine g_if_lt h 77 93 (gRi (by omega)) dX8_comesIn_77 (by decide) (fun h7 => ?_) (fun h7 => ?_)
      · exact J5 (Or.inl h7)
      · refine g_iload_n h 80 dX8_comesIn_80 rfl ?_
        refine g_if_eq h 81 141 (gRi (by omega)) dX8_comesIn_81 (by decide) (fun h8 => ?_) (fun h8 => ?_)
        · exact J6 (fun q => q.elim (Int.not_lt.mpr h7) (fun q => (fun q => q h8) q.1))
        · refine g_aload_nq h 84 dX8_comesIn_84 rfl rfl ?_
          refine gf_M_shared h 85 dX8_comesIn_85 kw_1020 ?_
          refine g_iload_n h 88 dX8_comesIn_88 rfl ?_
          refine al_M_shared h 89 dX8_comesIn_89 (by omega) ?_
          refine g_if_ne h 90 141 (gRi (by omega)) dX8_comesIn_90 (by decide) (fun h9 => ?_) (fun h9 => ?_)
          · exact J6 (fun q => q.elim (Int.not_lt.mpr h7) (fun q => (fun q => q h9) q.2))
          · exact J5 (Or.inr ⟨h8, (fun q => q h9)⟩)
    refine g_aload_nq h 28 dX8_comesIn_28 rfl rfl ?_
    refine gf_M_file h 29 dX8_comesIn_29 kw_1018 ?_
    refine g_iload_n h 32 dX8_comesIn_32 rfl ?_
    refine al_M_file h 33 dX8_comesIn_33 (by omega) ?_
    refine g_iconst h 34 dX8_comesIn_34 ?_
    refine g_icmp_ne h 35 46 (gRi (by omega)) (gRi (by omega)) dX8_comesIn_35 (by decide) (fun h4 => ?_) (fun h4 => ?_)
    · exact J4 h4
    · exact J3 h4
  refine g_aload_nq h 0 dX8_comesIn_0 rfl rfl ?_
  refine gf_M_state h 1 dX8_comesIn_1 kw_1022 ?_
  refine g_iload_n h 4 dX8_comesIn_4 rfl ?_
  refine al_M_state h 5 dX8_comesIn_5 (by omega) ?_
  refine g_iconst h 6 dX8_comesIn_6 ?_
  refine g_icmp_ne h 7 28 (gRi (by omega)) (gRi (by omega)) dX8_comesIn_7 (by decide) (fun h1 => ?_) (fun h1 => ?_)
  · exact J2 h1
  · exact J1 h1
-- PagewrightModel.read
def FX8_read (a_its a_i : Int) (s : S2) : Option (Int × S2) :=
  rgd (-2147483648) 2147483647 <| gd ((-2147483648) ≤ a_its ∧ a_its ≤ 2147483647) <| gd ((-2147483648) ≤ a_i ∧ a_i ≤ 2147483647) <| cb (FX8_asked (if ((0 ≤ a_its) ∧ (a_its ≤ 2)) ∧ ((0 ≤ a_i) ∧ (a_i ≤ 7)) then 1 else 0 : Int) s) fun r1 s1 => if r1 ≠ 0 then cb (FX8_caches ((8 * a_its) + a_i) 0 (-1) s1) fun r2 s2 => bn (fun (v1 : Int) (s3 : S2) => some (v1, s3)) fun k1 => if r2 < 0 then k1 (-5) s2 else cb (FX8_takesValue r2 0 0 s2) fun r3 s4 => k1 r3 s4 else some (0, s1)
theorem rgX8_read {a_its a_i : Int} {s s0 : S2} {r0 : Int} (hF : FX8_read a_its a_i s = some (r0, s0)) : (-2147483648) ≤ r0 ∧ r0 ≤ 2147483647 := (rgd_some hF).2
set_option maxRecDepth 100000 in
set_option maxHeartbeats 4000000 in
theorem ctX8_read {l : Launch} {w : gW} {bs : Nat} (hl : l.stackTraces = false) {a_its a_i : Int} {s m s0 : S2} {r0 : Int} (hF : FX8_read a_its a_i s = some (r0, s0)) : gMet l w bs yX8_read cX8_read 4 (some FieldType.int) 8 0 [(11, 0), (0, a_its), (0, a_i)] (m, s) 0 (some (0, r0)) (m, s0) := by
  unfold FX8_read at hF
  obtain ⟨hF, hr⟩ := rgd_some hF
  obtain ⟨q_a_its, hF⟩ := gd_some hF
  obtain ⟨q_a_i, hF⟩ := gd_some hF
  refine g_start hl (by decide) (Nat.le_of_ble_eq_true rfl) rfl fun X h hE => ?_
  have h : gOk X "PagewrightModel" cX8_read 4 8 0 0 := h
  have hE : gEnd X l w bs 0 (some FieldType.int) 0 (some (0, r0)) (m, s0) := hE
  show G X 0 0 0 [(11, 0), (0, a_its), (0, a_i), (1, 0)] [] (m, s)
  refine g_aload_nq h 0 dX8_read_0 rfl rfl ?_
  refine g_iload_n h 1 dX8_read_1 rfl ?_
  refine g_iload_n h 2 dX8_read_2 rfl ?_
  refine g_callS h hE 3 dX8_read_3 (cpX8_isFile (a_its := a_its) (a_i := a_i) hl (by omega) (by omega)) mwX8_isFile kw_1381 rfl (Nat.le_of_ble_eq_true rfl) rfl (Nat.le_of_ble_eq_true rfl) ⟨Nat.le_of_ble_eq_true rfl, Nat.le_of_ble_eq_true rfl⟩ rfl rfl ?_
  show G X 0 0 6 [(11, 0), (0, a_its), (0, a_i), (1, 0)] [(0, (if ((0 ≤ a_its) ∧ (a_its ≤ 2)) ∧ ((0 ≤ a_i) ∧ (a_i ≤ 7)) then 1 else 0 : Int)), (11, 0)] (m, s)
  obtain ⟨r1, s1, c1, hF⟩ := cb_some hF
  have t1 : 0 ≤ r1 ∧ r1 ≤ 1 := rgX8_asked c1
  refine g_callV h hE 6 dX8_read_6 (ctX8_asked hl c1) mwX8_asked kw_1260 (by decide) (by decide) rfl (Nat.le_of_ble_eq_true rfl) rfl (Nat.le_of_ble_eq_true rfl) ⟨Nat.le_of_ble_eq_true rfl, Nat.le_of_ble_eq_true rfl⟩ rfl rfl ?_
  show G X 0 0 9 [(11, 0), (0, a_its), (0, a_i), (1, 0)] [(0, r1)] (m, s1)
  refine g_if_ne h 9 14 (gRi (by omega)) dX8_read_9 (by decide) (fun h1 => ?_) (fun h1 => ?_)
  · have hF := ite_t h1 hF
    refine g_aload_nq h 14 dX8_read_14 rfl rfl ?_
    refine g_bipush h 15 dX8_read_15 (by decide) ?_
    refine g_iload_n h 17 dX8_read_17 rfl ?_
    refine g_imul h 18 dX8_read_18 ?_
    refine g_iload_n h 19 dX8_read_19 rfl ?_
    refine g_iadd h 20 dX8_read_20 ?_
    refine g_iconst h 21 dX8_read_21 ?_
    refine g_iconst h 22 dX8_read_22 ?_
    obtain ⟨r2, s2, c2, hF⟩ := cb_some hF
    have t2 : (-5) ≤ r2 ∧ r2 ≤ 23 := rgX8_caches c2
    refine g_callV h hE 23 dX8_read_23 (ctX8_caches hl c2) mwX8_caches kw_1360 (by decide) (by decide) rfl (Nat.le_of_ble_eq_true rfl) rfl (Nat.le_of_ble_eq_true rfl) ⟨Nat.le_of_ble_eq_true rfl, Nat.le_of_ble_eq_true rfl⟩ rfl rfl ?_
    show G X 0 0 26 [(11, 0), (0, a_its), (0, a_i), (1, 0)] [(0, r2)] (m, s2)
    refine g_istore_n h 26 dX8_read_26 (Nat.le_of_ble_eq_true rfl) rfl (L' := [(11, 0), (0, a_its), (0, a_i), (0, r2)]) rfl ?_
    obtain ⟨k1, ek1, hF⟩ := bn_ex hF
    have J1 : ∀ (v1 : Int) (s3 : S2), ((-2147483648) ≤ v1 ∧ v1 ≤ 2147483647) → k1 v1 s3 = some (r0, s0) → G X 0 0 43 [(11, 0), (0, a_its), (0, a_i), (0, r2)] [(0, v1)] (m, s3) := by
      intro v1 s3 q1 hF
      rw [ek1] at hF
      obtain ⟨e1, e2⟩ := some_2 hF
      rw [← e1, ← e2] at hE
      exact g_iret h 43 dX8_read_43 hE rfl rfl ⟨(Nat.le_of_ble_eq_true rfl), (Nat.le_of_ble_eq_true rfl)⟩
    have J2 : r2 < 0 → G X 0 0 31 [(11, 0), (0, a_its), (0, a_i), (0, r2)] [] (m, s2) := by
      intro h3
      have hF := ite_t h3 hF
      refine g_bipush h 31 dX8_read_31 (by decide) ?_
      refine g_goto h 33 43 dX8_read_33 (by decide) ?_
      exact J1 _ _ (by omega) hF
    have J3 : ¬ (r2 < 0) → G X 0 0 36 [(11, 0), (0, a_its), (0, a_i), (0, r2)] [] (m, s2) := by
      intro h4
      have hF := ite_f h4 hF
      refine g_aload_nq h 36 dX8_read_36 rfl rfl ?_
      refine g_iload_n h 37 dX8_read_37 rfl ?_
      refine g_iconst h 38 dX8_read_38 ?_
      refine g_iconst h 39 dX8_read_39 ?_
      obtain ⟨r3, s4, c3, hF⟩ := cb_some hF
      have t3 : (-2147483648) ≤ r3 ∧ r3 ≤ 2147483647 := rgX8_takesValue c3
      refine g_callV h hE 40 dX8_read_40 (ctX8_takesValue hl c3) mwX8_takesValue kw_1368 (by decide) (by decide) rfl (Nat.le_of_ble_eq_true rfl) rfl (Nat.le_of_ble_eq_true rfl) ⟨Nat.le_of_ble_eq_true rfl, Nat.le_of_ble_eq_true rfl⟩ rfl rfl ?_
      show G X 0 0 43 [(11, 0), (0, a_its), (0, a_i), (0, r2)] [(0, r3)] (m, s4)
      exact J1 _ _ (by omega) hF
    refine g_iload_n h 27 dX8_read_27 rfl ?_
    refine g_if_ge h 28 36 (gRi (by omega)) dX8_read_28 (by decide) (fun h2 => ?_) (fun h2 => ?_)
    · exact J3 (Int.not_lt.mpr h2)
    · exact J2 h2
  · have hF := ite_f (fun q => q h1) hF
    refine g_iconst h 12 dX8_read_12 ?_
    obtain ⟨e1, e2⟩ := some_2 hF
    rw [← e1, ← e2] at hE
    exact g_iret h 13 dX8_read_13 hE rfl rfl ⟨(Nat.le_of_ble_eq_true rfl), (Nat.le_of_ble_eq_true rfl)⟩
-- PagewrightModel.write
def FX8_write (a_its a_i a_v : Int) (s : S2) : Option (Int × S2) :=
  rgd (-2147483648) 2147483647 <| gd ((-2147483648) ≤ a_its ∧ a_its ≤ 2147483647) <| gd ((-2147483648) ≤ a_i ∧ a_i ≤ 2147483647) <| gd ((-2147483648) ≤ a_v ∧ a_v ≤ 2147483647) <| cb (FX8_asked (if (((0 ≤ a_its) ∧ (a_its ≤ 2)) ∧ ((0 ≤ a_i) ∧ (a_i ≤ 7))) ∧ ((0 ≤ a_v) ∧ (a_v ≤ 99999)) then 1 else 0 : Int) s) fun r1 s1 => if r1 ≠ 0 then cb (FX8_caches ((8 * a_its) + a_i) 0 (-1) s1) fun r2 s2 => bn (fun (v2 : Int) (s3 : S2) => some (v2, s3)) fun k1 => if r2 < 0 then k1 (-5) s2 else cb (FX8_takesValue r2 1 a_v s2) fun r3 s4 => k1 r3 s4 else some (0, s1)
theorem rgX8_write {a_its a_i a_v : Int} {s s0 : S2} {r0 : Int} (hF : FX8_write a_its a_i a_v s = some (r0, s0)) : (-2147483648) ≤ r0 ∧ r0 ≤ 2147483647 := (rgd_some hF).2
set_option maxRecDepth 100000 in
set_option maxHeartbeats 4000000 in
theorem ctX8_write {l : Launch} {w : gW} {bs : Nat} (hl : l.stackTraces = false) {a_its a_i a_v : Int} {s m s0 : S2} {r0 : Int} (hF : FX8_write a_its a_i a_v s = some (r0, s0)) : gMet l w bs yX8_write cX8_write 5 (some FieldType.int) 8 0 [(11, 0), (0, a_its), (0, a_i), (0, a_v)] (m, s) 0 (some (0, r0)) (m, s0) := by
  unfold FX8_write at hF
  obtain ⟨hF, hr⟩ := rgd_some hF
  obtain ⟨q_a_its, hF⟩ := gd_some hF
  obtain ⟨q_a_i, hF⟩ := gd_some hF
  obtain ⟨q_a_v, hF⟩ := gd_some hF
  refine g_start hl (by decide) (Nat.le_of_ble_eq_true rfl) rfl fun X h hE => ?_
  have h : gOk X "PagewrightModel" cX8_write 5 8 0 0 := h
  have hE : gEnd X l w bs 0 (some FieldType.int) 0 (some (0, r0)) (m, s0) := hE
  show G X 0 0 0 [(11, 0), (0, a_its), (0, a_i), (0, a_v), (1, 0)] [] (m, s)
  refine g_aload_nq h 0 dX8_write_0 rfl rfl ?_
  suffices J1 : ∀ v1 : Int, v1 = (if (((0 ≤ a_its) ∧ (a_its ≤ 2)) ∧ ((0 ≤ a_i) ∧ (a_i ≤ 7))) ∧ ((0 ≤ a_v) ∧ (a_v ≤ 99999)) then 1 else 0 : Int) → G X 0 0 25 [(11, 0), (0, a_its), (0, a_i), (0, a_v), (1, 0)] [(0, v1), (11, 0)] (m, s) by
    have J2 : (((0 ≤ a_its) ∧ (a_its ≤ 2)) ∧ ((0 ≤ a_i) ∧ (a_i ≤ 7))) ∧ ((0 ≤ a_v) ∧ (a_v ≤ 99999)) → G X 0 0 20 [(11, 0), (0, a_its), (0, a_i), (0, a_v), (1, 0)] [(11, 0)] (m, s) := by
      intro h3
      refine g_iconst h 20 dX8_write_20 ?_
      refine g_goto h 21 25 dX8_write_21 (by decide) ?_
      exact J1 _ (if_pos h3).symm
    have J3 : ¬ ((((0 ≤ a_its) ∧ (a_its ≤ 2)) ∧ ((0 ≤ a_i) ∧ (a_i ≤ 7))) ∧ ((0 ≤ a_v) ∧ (a_v ≤ 99999))) → G X 0 0 24 [(11, 0), (0, a_its), (0, a_i), (0, a_v), (1, 0)] [(11, 0)] (m, s) := by
      intro h4
      refine g_iconst h 24 dX8_write_24 ?_
      exact J1 _ (if_neg h4).symm
    refine g_iload_n h 1 dX8_write_1 rfl ?_
    refine g_iload_n h 2 dX8_write_2 rfl ?_
    refine g_callS h hE 3 dX8_write_3 (cpX8_isFile (a_its := a_its) (a_i := a_i) hl (by omega) (by omega)) mwX8_isFile kw_1381 rfl (Nat.le_of_ble_eq_true rfl) rfl (Nat.le_of_ble_eq_true rfl) ⟨Nat.le_of_ble_eq_true rfl, Nat.le_of_ble_eq_true rfl⟩ rfl rfl ?_
    show G X 0 0 6 [(11, 0), (0, a_its), (0, a_i), (0, a_v), (1, 0)] [(0, (if ((0 ≤ a_its) ∧ (a_its ≤ 2)) ∧ ((0 ≤ a_i) ∧ (a_i ≤ 7)) then 1 else 0 : Int)), (11, 0)] (m, s)
    refine g_if_eq h 6 24 (gRi gR_ite) dX8_write_6 (by decide) (fun h1 => ?_) (fun h1 => ?_)
    · exact J3 (fun q => (iz_f h1) q.1)
    · refine g_iload_n h 9 dX8_write_9 rfl ?_
      refine g_iconst h 10 dX8_write_10 ?_
      refine g_ldcw h 11 (n := 99999) dX8_write_11 kw_1376 (by decide) ?_
      refine g_callS h hE 14 dX8_write_14 (cpX8_in (a_v := a_v) (a_low := 0) (a_high := 99999) hl (by omega) (by omega) (by omega)) mwX8_in kw_1142 rfl (Nat.le_of_ble_eq_true rfl) rfl (Nat.le_of_ble_eq_true rfl) ⟨Nat.le_of_ble_eq_true rfl, Nat.le_of_ble_eq_true rfl⟩ rfl rfl ?_
      show G X 0 0 17 [(11, 0), (0, a_its), (0, a_i), (0, a_v), (1, 0)] [(0, (if (0 ≤ a_v) ∧ (a_v ≤ 99999) then 1 else 0 : Int)), (11, 0)] (m, s)
      refine g_if_eq h 17 24 (gRi gR_ite) dX8_write_17 (by decide) (fun h2 => ?_) (fun h2 => ?_)
      · exact J3 (fun q => (iz_f h2) q.2)
      · exact J2 ⟨(iz_t h1), (iz_t h2)⟩
  intro v1 e1
  subst e1
  obtain ⟨r1, s1, c1, hF⟩ := cb_some hF
  have t1 : 0 ≤ r1 ∧ r1 ≤ 1 := rgX8_asked c1
  refine g_callV h hE 25 dX8_write_25 (ctX8_asked hl c1) mwX8_asked kw_1260 (by decide) (by decide) rfl (Nat.le_of_ble_eq_true rfl) rfl (Nat.le_of_ble_eq_true rfl) ⟨Nat.le_of_ble_eq_true rfl, Nat.le_of_ble_eq_true rfl⟩ rfl rfl ?_
  show G X 0 0 28 [(11, 0), (0, a_its), (0, a_i), (0, a_v), (1, 0)] [(0, r1)] (m, s1)
  refine g_if_ne h 28 33 (gRi (by omega)) dX8_write_28 (by decide) (fun h5 => ?_) (fun h5 => ?_)
  · have hF := ite_t h5 hF
    refine g_aload_nq h 33 dX8_write_33 rfl rfl ?_
    refine g_bipush h 34 dX8_write_34 (by decide) ?_
    refine g_iload_n h 36 dX8_write_36 rfl ?_
    refine g_imul h 37 dX8_write_37 ?_
    refine g_iload_n h 38 dX8_write_38 rfl ?_
    refine g_iadd h 39 dX8_write_39 ?_
    refine g_iconst h 40 dX8_write_40 ?_
    refine g_iconst h 41 dX8_write_41 ?_
    obtain ⟨r2, s2, c2, hF⟩ := cb_some hF
    have t2 : (-5) ≤ r2 ∧ r2 ≤ 23 := rgX8_caches c2
    refine g_callV h hE 42 dX8_write_42 (ctX8_caches hl c2) mwX8_caches kw_1360 (by decide) (by decide) rfl (Nat.le_of_ble_eq_true rfl) rfl (Nat.le_of_ble_eq_true rfl) ⟨Nat.le_of_ble_eq_true rfl, Nat.le_of_ble_eq_true rfl⟩ rfl rfl ?_
    show G X 0 0 45 [(11, 0), (0, a_its), (0, a_i), (0, a_v), (1, 0)] [(0, r2)] (m, s2)
    refine g_istore h 45 dX8_write_45 (Nat.le_of_ble_eq_true rfl) rfl (L' := [(11, 0), (0, a_its), (0, a_i), (0, a_v), (0, r2)]) rfl ?_
    obtain ⟨k1, ek1, hF⟩ := bn_ex hF
    have J4 : ∀ (v2 : Int) (s3 : S2), ((-2147483648) ≤ v2 ∧ v2 ≤ 2147483647) → k1 v2 s3 = some (r0, s0) → G X 0 0 65 [(11, 0), (0, a_its), (0, a_i), (0, a_v), (0, r2)] [(0, v2)] (m, s3) := by
      intro v2 s3 q1 hF
      rw [ek1] at hF
      obtain ⟨e1, e2⟩ := some_2 hF
      rw [← e1, ← e2] at hE
      exact g_iret h 65 dX8_write_65 hE rfl rfl ⟨(Nat.le_of_ble_eq_true rfl), (Nat.le_of_ble_eq_true rfl)⟩
    have J5 : r2 < 0 → G X 0 0 52 [(11, 0), (0, a_its), (0, a_i), (0, a_v), (0, r2)] [] (m, s2) := by
      intro h7
      have hF := ite_t h7 hF
      refine g_bipush h 52 dX8_write_52 (by decide) ?_
      refine g_goto h 54 65 dX8_write_54 (by decide) ?_
      exact J4 _ _ (by omega) hF
    have J6 : ¬ (r2 < 0) → G X 0 0 57 [(11, 0), (0, a_its), (0, a_i), (0, a_v), (0, r2)] [] (m, s2) := by
      intro h8
      have hF := ite_f h8 hF
      refine g_aload_nq h 57 dX8_write_57 rfl rfl ?_
      refine g_iload h 58 dX8_write_58 rfl ?_
      refine g_iconst h 60 dX8_write_60 ?_
      refine g_iload_n h 61 dX8_write_61 rfl ?_
      obtain ⟨r3, s4, c3, hF⟩ := cb_some hF
      have t3 : (-2147483648) ≤ r3 ∧ r3 ≤ 2147483647 := rgX8_takesValue c3
      refine g_callV h hE 62 dX8_write_62 (ctX8_takesValue hl c3) mwX8_takesValue kw_1368 (by decide) (by decide) rfl (Nat.le_of_ble_eq_true rfl) rfl (Nat.le_of_ble_eq_true rfl) ⟨Nat.le_of_ble_eq_true rfl, Nat.le_of_ble_eq_true rfl⟩ rfl rfl ?_
      show G X 0 0 65 [(11, 0), (0, a_its), (0, a_i), (0, a_v), (0, r2)] [(0, r3)] (m, s4)
      exact J4 _ _ (by omega) hF
    refine g_iload h 47 dX8_write_47 rfl ?_
    refine g_if_ge h 49 57 (gRi (by omega)) dX8_write_49 (by decide) (fun h6 => ?_) (fun h6 => ?_)
    · exact J6 (Int.not_lt.mpr h6)
    · exact J5 h6
  · have hF := ite_f (fun q => q h5) hF
    refine g_iconst h 31 dX8_write_31 ?_
    obtain ⟨e1, e2⟩ := some_2 hF
    rw [← e1, ← e2] at hE
    exact g_iret h 32 dX8_write_32 hE rfl rfl ⟨(Nat.le_of_ble_eq_true rfl), (Nat.le_of_ble_eq_true rfl)⟩
-- PagewrightModel.looksAt
def FX8_looksAt (a_s a_e a_stores : Int) (s : S2) : Option (Int × S2) :=
  rgd (-5) 23 <| gd (0 ≤ a_s ∧ a_s ≤ 5) <| gd (0 ≤ a_e ∧ a_e ≤ 191) <| gd (0 ≤ a_stores ∧ a_stores ≤ 1) <| if s 116 a_e ≠ 1 then cb (FX8_comesIn a_s a_e a_stores s) fun r1 s1 => bn (upd2 s1 118 a_e a_stores) fun s2 => some (r1, s2) else bn (fun (x_f1 : Int) (s3 : S2) => some (x_f1, s3)) fun k1 => if (a_stores ≠ 0) ∧ (¬ (s 118 a_e ≠ 0)) then bn (fun (v1 : Int) (s4 : S2) => bn (fun (x_f2 : Int) (s8 : S2) => bn (upd2 s8 118 a_e (if 0 ≤ x_f2 then 1 else 0 : Int)) fun s13 => k1 x_f2 s13) fun k5 => if v1 ≠ 0 then bn (upd2 s4 126 (s 117 a_e) 0) fun s9 => k5 (s 117 a_e) s9 else bn (fun (x_f3 : Int) (s10 : S2) => k5 x_f3 s10) fun k6 => if (s4 121 (s 117 a_e) = 1) ∨ (¬ (s4 114 a_e ≠ 0)) then cb (FX8_renews a_s a_e (s4 122 (s 117 a_e)) s4) fun r3 s11 => bn (upd2 s11 140 6 ((s11 140 6) + (if r3 < 0 then 0 else 1 : Int))) fun s12 => k6 r3 s12 else k6 (s 117 a_e) s4) fun k2 => bn (fun (s5 : S2) => k2 1 s5) fun k3 => bn (fun (s6 : S2) => k2 0 s6) fun k4 => if s 121 (s 117 a_e) = 1 then cb (FX8_entriesOf (s 117 a_e) s) fun r2 s7 => if r2 = 1 then k3 s7 else k4 s7 else k4 s else k1 (s 117 a_e) s
theorem rgX8_looksAt {a_s a_e a_stores : Int} {s s0 : S2} {r0 : Int} (hF : FX8_looksAt a_s a_e a_stores s = some (r0, s0)) : (-5) ≤ r0 ∧ r0 ≤ 23 := (rgd_some hF).2
set_option maxRecDepth 100000 in
set_option maxHeartbeats 4000000 in
theorem ctX8_looksAt {l : Launch} {w : gW} {bs : Nat} (hl : l.stackTraces = false) {a_s a_e a_stores : Int} {s m s0 : S2} {r0 : Int} (hF : FX8_looksAt a_s a_e a_stores s = some (r0, s0)) : gMet l w bs yX8_looksAt cX8_looksAt 6 (some FieldType.int) 9 0 [(11, 0), (0, a_s), (0, a_e), (0, a_stores)] (m, s) 0 (some (0, r0)) (m, s0) := by
  unfold FX8_looksAt at hF
  obtain ⟨hF, hr⟩ := rgd_some hF
  obtain ⟨q_a_s, hF⟩ := gd_some hF
  obtain ⟨q_a_e, hF⟩ := gd_some hF
  obtain ⟨q_a_stores, hF⟩ := gd_some hF
  refine g_start hl (by decide) (Nat.le_of_ble_eq_true rfl) rfl fun X h hE => ?_
  have h : gOk X "PagewrightModel" cX8_looksAt 6 9 0 0 := h
  have hE : gEnd X l w bs 0 (some FieldType.int) 0 (some (0, r0)) (m, s0) := hE
  show G X 0 0 0 [(11, 0), (0, a_s), (0, a_e), (0, a_stores), (1, 0), (1, 0)] [] (m, s)
  refine G_typ fun hT_s => ?_
  have t1 : 0 ≤ s 116 a_e ∧ s 116 a_e ≤ 2 := hT_s.2 116 a_e
  have J1 : s 116 a_e ≠ 1 → G X 0 0 10 [(11, 0), (0, a_s), (0, a_e), (0, a_stores), (1, 0), (1, 0)] [] (m, s) := by
    intro h2
    have hF := ite_t h2 hF
    refine g_aload_nq h 10 dX8_looksAt_10 rfl rfl ?_
    refine g_iload_n h 11 dX8_looksAt_11 rfl ?_
    refine g_iload_n h 12 dX8_looksAt_12 rfl ?_
    refine g_iload_n h 13 dX8_looksAt_13 rfl ?_
    obtain ⟨r1, s1, c1, hF⟩ := cb_some hF
    have t2 : (-5) ≤ r1 ∧ r1 ≤ 23 := rgX8_comesIn c1
    refine g_callV h hE 14 dX8_looksAt_14 (ctX8_comesIn hl c1) mwX8_comesIn kw_1296 (by decide) (by decide) rfl (Nat.le_of_ble_eq_true rfl) rfl (Nat.le_of_ble_eq_true rfl) ⟨Nat.le_of_ble_eq_true rfl, Nat.le_of_ble_eq_true rfl⟩ rfl rfl ?_
    show G X 0 0 17 [(11, 0), (0, a_s), (0, a_e), (0, a_stores), (1, 0), (1, 0)] [(0, r1)] (m, s1)
    refine g_istore h 17 dX8_looksAt_17 (Nat.le_of_ble_eq_true rfl) rfl (L' := [(11, 0), (0, a_s), (0, a_e), (0, a_stores), (0, r1), (1, 0)]) rfl ?_
    refine g_aload_nq h 19 dX8_looksAt_19 rfl rfl ?_
    refine gf_M_writable h 20 dX8_looksAt_20 kw_1024 ?_
    refine g_iload_n h 23 dX8_looksAt_23 rfl ?_
    refine g_iload_n h 24 dX8_looksAt_24 rfl ?_
    obtain ⟨s2, es2, hF⟩ := bn_ex hF
    refine as_M_writable h 25 dX8_looksAt_25 (by omega) (by omega) ?_
    rw [← es2]
    refine g_iload h 26 dX8_looksAt_26 rfl ?_
    obtain ⟨e1, e2⟩ := some_2 hF
    rw [← e1, ← e2] at hE
    exact g_iret h 28 dX8_looksAt_28 hE rfl rfl ⟨(Nat.le_of_ble_eq_true rfl), (Nat.le_of_ble_eq_true rfl)⟩
  have J2 : ¬ (s 116 a_e ≠ 1) → G X 0 0 29 [(11, 0), (0, a_s), (0, a_e), (0, a_stores), (1, 0), (1, 0)] [] (m, s) := by
    intro h3
    have hF := ite_f h3 hF
    have t3 : 0 ≤ s 117 a_e ∧ s 117 a_e ≤ 23 := hT_s.2 117 a_e
    refine g_aload_nq h 29 dX8_looksAt_29 rfl rfl ?_
    refine gf_M_page h 30 dX8_looksAt_30 kw_1023 ?_
    refine g_iload_n h 33 dX8_looksAt_33 rfl ?_
    refine al_M_page h 34 dX8_looksAt_34 (by omega) ?_
    refine g_istore h 35 dX8_looksAt_35 (Nat.le_of_ble_eq_true rfl) rfl (L' := [(11, 0), (0, a_s), (0, a_e), (0, a_stores), (0, s 117 a_e), (1, 0)]) rfl ?_
    obtain ⟨k1, ek1, hF⟩ := bn_ex hF
    have J3 : ∀ (x_f1 : Int) (s3 : S2), ((-2147483648) ≤ x_f1 ∧ x_f1 ≤ 2147483647) → k1 x_f1 s3 = some (r0, s0) → G X 0 0 165 [(11, 0), (0, a_s), (0, a_e), (0, a_stores), (0, x_f1), (1, 0)] [] (m, s3) := by
      intro x_f1 s3 q4 hF
      rw [ek1] at hF
      refine g_iload h 165 dX8_looksAt_165 rfl ?_
      obtain ⟨e1, e2⟩ := some_2 hF
      rw [← e1, ← e2] at hE
      exact g_iret h 167 dX8_looksAt_167 hE rfl rfl ⟨(Nat.le_of_ble_eq_true rfl), (Nat.le_of_ble_eq_true rfl)⟩
    have t4 : 0 ≤ s 118 a_e ∧ s 118 a_e ≤ 1 := hT_s.2 118 a_e
    have J4 : (a_stores ≠ 0) ∧ (¬ (s 118 a_e ≠ 0)) → G X 0 0 50 [(11, 0), (0, a_s), (0, a_e), (0, a_stores), (0, s 117 a_e), (1, 0)] [] (m, s) := by
      intro h6
      have hF := ite_t h6 hF
      obtain ⟨k2, ek2, hF⟩ := bn_ex hF
      have J6 : ∀ (v1 : Int) (s4 : S2), (0 ≤ v1 ∧ v1 ≤ 1) → k2 v1 s4 = some (r0, s0) → G X 0 0 76 [(11, 0), (0, a_s), (0, a_e), (0, a_stores), (0, s 117 a_e), (1, 0)] [(0, v1)] (m, s4) := by
        intro v1 s4 q1 hF
        rw [ek2] at hF
        refine g_istore h 76 dX8_looksAt_76 (Nat.le_of_ble_eq_true rfl) rfl (L' := [(11, 0), (0, a_s), (0, a_e), (0, a_stores), (0, s 117 a_e), (0, v1)]) rfl ?_
        obtain ⟨k5, ek5, hF⟩ := bn_ex hF
        have J11 : ∀ (x_f2 : Int) (s8 : S2), ((-2147483648) ≤ x_f2 ∧ x_f2 ≤ 2147483647) → k5 x_f2 s8 = some (r0, s0) → G X 0 0 149 [(11, 0), (0, a_s), (0, a_e), (0, a_stores), (0, x_f2), (0, v1)] [] (m, s8) := by
          intro x_f2 s8 q3 hF
          rw [ek5] at hF
          refine g_aload_nq h 149 dX8_looksAt_149 rfl rfl ?_
          refine gf_M_writable h 150 dX8_looksAt_150 kw_1024 ?_
          refine g_iload_n h 153 dX8_looksAt_153 rfl ?_
          suffices J20 : ∀ v3 : Int, v3 = (if 0 ≤ x_f2 then 1 else 0 : Int) → G X 0 0 164 [(11, 0), (0, a_s), (0, a_e), (0, a_stores), (0, x_f2), (0, v1)] [(0, v3), (0, a_e), (36, 0)] (m, s8) by
            have J21 : 0 ≤ x_f2 → G X 0 0 159 [(11, 0), (0, a_s), (0, a_e), (0, a_stores), (0, x_f2), (0, v1)] [(0, a_e), (36, 0)] (m, s8) := by
              intro h22
              refine g_iconst h 159 dX8_looksAt_159 ?_
              refine g_goto h 160 164 dX8_looksAt_160 (by decide) ?_
              exact J20 _ (if_pos h22).symm
            have J22 : ¬ (0 ≤ x_f2) → G X 0 0 163 [(11, 0), (0, a_s), (0, a_e), (0, a_stores), (0, x_f2), (0, v1)] [(0, a_e), (36, 0)] (m, s8) := by
              intro h23
              refine g_iconst h 163 dX8_looksAt_163 ?_
              exact J20 _ (if_neg h23).symm
            refine g_iload h 154 dX8_looksAt_154 rfl ?_
            refine g_if_lt h 156 163 (gRi (by omega)) dX8_looksAt_156 (by decide) (fun h21 => ?_) (fun h21 => ?_)
            · exact J22 (Int.not_le.mpr h21)
            · exact J21 h21
          intro v3 e2
          subst e2
          obtain ⟨s13, es13, hF⟩ := bn_ex hF
          refine as_M_writable h 164 dX8_looksAt_164 (by omega) (by omega) ?_
          rw [← es13]
          refine G_weak (L' := [(11, 0), (0, a_s), (0, a_e), (0, a_stores), (0, x_f2), (1, 0)]) ⟨Or.inr rfl, Or.inr rfl, Or.inr rfl, Or.inr rfl, Or.inr rfl, Or.inl rfl, trivial⟩ ?_
          exact J3 _ _ (by omega) hF
        have J12 : v1 ≠ 0 → G X 0 0 83 [(11, 0), (0, a_s), (0, a_e), (0, a_stores), (0, s 117 a_e), (0, v1)] [] (m, s4) := by
          intro h12
          have hF := ite_t h12 hF
          refine g_aload_nq h 83 dX8_looksAt_83 rfl rfl ?_
          refine gf_M_mark h 84 dX8_looksAt_84 kw_1032 ?_
          refine g_iload h 87 dX8_looksAt_87 rfl ?_
          refine g_iconst h 89 dX8_looksAt_89 ?_
          obtain ⟨s9, es9, hF⟩ := bn_ex hF
          refine as_M_mark h 90 dX8_looksAt_90 (by omega) (by omega) ?_
          rw [← es9]
          refine g_goto h 91 149 dX8_looksAt_91 (by decide) ?_
          exact J11 _ _ (by omega) hF
        have J13 : ¬ (v1 ≠ 0) → G X 0 0 94 [(11, 0), (0, a_s), (0, a_e), (0, a_stores), (0, s 117 a_e), (0, v1)] [] (m, s4) := by
          intro h13
          have hF := ite_f h13 hF
          obtain ⟨k6, ek6, hF⟩ := bn_ex hF
          have J14 : ∀ (x_f3 : Int) (s10 : S2), ((-2147483648) ≤ x_f3 ∧ x_f3 ≤ 2147483647) → k6 x_f3 s10 = some (r0, s0) → G X 0 0 149 [(11, 0), (0, a_s), (0, a_e), (0, a_stores), (0, x_f3), (0, v1)] [] (m, s10) := by
            intro x_f3 s10 q2 hF
            rw [ek6] at hF
            exact J11 _ _ (by omega) hF
          refine G_typ fun hT_s4 => ?_
          have t7 : 0 ≤ s4 121 (s 117 a_e) ∧ s4 121 (s 117 a_e) ≤ 2 := hT_s4.2 121 (s 117 a_e)
          have t8 : 0 ≤ s4 114 a_e ∧ s4 114 a_e ≤ 1 := hT_s4.2 114 a_e
          have J15 : (s4 121 (s 117 a_e) = 1) ∨ (¬ (s4 114 a_e ≠ 0)) → G X 0 0 114 [(11, 0), (0, a_s), (0, a_e), (0, a_stores), (0, s 117 a_e), (0, v1)] [] (m, s4) := by
            intro h16
            have hF := ite_t h16 hF
            refine g_aload_nq h 114 dX8_looksAt_114 rfl rfl ?_
            refine g_iload_n h 115 dX8_looksAt_115 rfl ?_
            refine g_iload_n h 116 dX8_looksAt_116 rfl ?_
            have t9 : 0 ≤ s4 122 (s 117 a_e) ∧ s4 122 (s 117 a_e) ≤ 99999 := hT_s4.2 122 (s 117 a_e)
            refine g_aload_nq h 117 dX8_looksAt_117 rfl rfl ?_
            refine gf_M_value h 118 dX8_looksAt_118 kw_1028 ?_
            refine g_iload h 121 dX8_looksAt_121 rfl ?_
            refine al_M_value h 123 dX8_looksAt_123 (by omega) ?_
            obtain ⟨r3, s11, c3, hF⟩ := cb_some hF
            have t10 : (-5) ≤ r3 ∧ r3 ≤ 23 := rgX8_renews c3
            refine g_callV h hE 124 dX8_looksAt_124 (ctX8_renews hl c3) mwX8_renews kw_1300 (by decide) (by decide) rfl (Nat.le_of_ble_eq_true rfl) rfl (Nat.le_of_ble_eq_true rfl) ⟨Nat.le_of_ble_eq_true rfl, Nat.le_of_ble_eq_true rfl⟩ rfl rfl ?_
            show G X 0 0 127 [(11, 0), (0, a_s), (0, a_e), (0, a_stores), (0, s 117 a_e), (0, v1)] [(0, r3)] (m, s11)
            refine g_istore h 127 dX8_looksAt_127 (Nat.le_of_ble_eq_true rfl) rfl (L' := [(11, 0), (0, a_s), (0, a_e), (0, a_stores), (0, r3), (0, v1)]) rfl ?_
            refine g_aload_nq h 129 dX8_looksAt_129 rfl rfl ?_
            refine gf_M_counts h 130 dX8_looksAt_130 kw_1047 ?_
            refine g_bipush h 133 dX8_looksAt_133 (by decide) ?_
            refine g_dup2 h 135 dX8_looksAt_135 (show (0 : Nat) ≠ 2 by decide) (show (58 : Nat) ≠ 2 by decide) ?_
            refine al_M_counts h 136 dX8_looksAt_136 (by omega) ?_
            suffices J17 : ∀ v2 : Int, v2 = (if r3 < 0 then 0 else 1 : Int) → G X 0 0 147 [(11, 0), (0, a_s), (0, a_e), (0, a_stores), (0, r3), (0, v1)] [(0, v2), (0, s11 140 6), (0, 6), (58, 0)] (m, s11) by
              have J18 : r3 < 0 → G X 0 0 142 [(11, 0), (0, a_s), (0, a_e), (0, a_stores), (0, r3), (0, v1)] [(0, s11 140 6), (0, 6), (58, 0)] (m, s11) := by
                intro h18
                refine g_iconst h 142 dX8_looksAt_142 ?_
                refine g_goto h 143 147 dX8_looksAt_143 (by decide) ?_
                exact J17 _ (if_pos h18).symm
              have J19 : ¬ (r3 < 0) → G X 0 0 146 [(11, 0), (0, a_s), (0, a_e), (0, a_stores), (0, r3), (0, v1)] [(0, s11 140 6), (0, 6), (58, 0)] (m, s11) := by
                intro h19
                refine g_iconst h 146 dX8_looksAt_146 ?_
                exact J17 _ (if_neg h19).symm
              refine g_iload h 137 dX8_looksAt_137 rfl ?_
              refine g_if_ge h 139 146 (gRi (by omega)) dX8_looksAt_139 (by decide) (fun h17 => ?_) (fun h17 => ?_)
              · exact J19 (Int.not_lt.mpr h17)
              · exact J18 h17
            intro v2 e1
            subst e1
            refine g_iadd h 147 dX8_looksAt_147 ?_
            obtain ⟨s12, es12, hF⟩ := bn_ex hF
            refine as_M_counts h 148 dX8_looksAt_148 (by omega) ?_
            rw [← es12]
            exact J14 _ _ (by omega) hF
          have J16 : ¬ ((s4 121 (s 117 a_e) = 1) ∨ (¬ (s4 114 a_e ≠ 0))) → G X 0 0 149 [(11, 0), (0, a_s), (0, a_e), (0, a_stores), (0, s 117 a_e), (0, v1)] [] (m, s4) := by
            intro h20
            have hF := ite_f h20 hF
            exact J14 _ _ (by omega) hF
          refine g_aload_nq h 94 dX8_looksAt_94 rfl rfl ?_
          refine gf_M_kind h 95 dX8_looksAt_95 kw_1027 ?_
          refine g_iload h 98 dX8_looksAt_98 rfl ?_
          refine al_M_kind h 100 dX8_looksAt_100 (by omega) ?_
          refine g_iconst h 101 dX8_looksAt_101 ?_
          refine g_icmp_eq h 102 114 (gRi (by omega)) (gRi (by omega)) dX8_looksAt_102 (by decide) (fun h14 => ?_) (fun h14 => ?_)
          · exact J15 (Or.inl h14)
          · refine g_aload_nq h 105 dX8_looksAt_105 rfl rfl ?_
            refine gf_M_shared h 106 dX8_looksAt_106 kw_1020 ?_
            refine g_iload_n h 109 dX8_looksAt_109 rfl ?_
            refine al_M_shared h 110 dX8_looksAt_110 (by omega) ?_
            refine g_if_ne h 111 149 (gRi (by omega)) dX8_looksAt_111 (by decide) (fun h15 => ?_) (fun h15 => ?_)
            · exact J16 (fun q => q.elim h14 (fun q => q h15))
            · exact J15 (Or.inr (fun q => q h15))
        refine g_iload h 78 dX8_looksAt_78 rfl ?_
        refine g_if_eq h 80 94 (gRi (by omega)) dX8_looksAt_80 (by decide) (fun h11 => ?_) (fun h11 => ?_)
        · exact J13 (fun q => q h11)
        · exact J12 h11
      obtain ⟨k3, ek3, hF⟩ := bn_ex hF
      have J7 : ∀ (s5 : S2), k3 s5 = some (r0, s0) → G X 0 0 71 [(11, 0), (0, a_s), (0, a_e), (0, a_stores), (0, s 117 a_e), (1, 0)] [] (m, s5) := by
        intro s5 hF
        rw [ek3] at hF
        refine g_iconst h 71 dX8_looksAt_71 ?_
        refine g_goto h 72 76 dX8_looksAt_72 (by decide) ?_
        exact J6 _ _ (by omega) hF
      obtain ⟨k4, ek4, hF⟩ := bn_ex hF
      have J8 : ∀ (s6 : S2), k4 s6 = some (r0, s0) → G X 0 0 75 [(11, 0), (0, a_s), (0, a_e), (0, a_stores), (0, s 117 a_e), (1, 0)] [] (m, s6) := by
        intro s6 hF
        rw [ek4] at hF
        refine g_iconst h 75 dX8_looksAt_75 ?_
        exact J6 _ _ (by omega) hF
      have t5 : 0 ≤ s 121 (s 117 a_e) ∧ s 121 (s 117 a_e) ≤ 2 := hT_s.2 121 (s 117 a_e)
      have J9 : s 121 (s 117 a_e) = 1 → G X 0 0 61 [(11, 0), (0, a_s), (0, a_e), (0, a_stores), (0, s 117 a_e), (1, 0)] [] (m, s) := by
        intro h8
        have hF := ite_t h8 hF
        refine g_aload_nq h 61 dX8_looksAt_61 rfl rfl ?_
        refine g_iload h 62 dX8_looksAt_62 rfl ?_
        obtain ⟨r2, s7, c2, hF⟩ := cb_some hF
        have t6 : 0 ≤ r2 ∧ r2 ≤ 192 := rgX8_entriesOf c2
        refine g_callV h hE 64 dX8_looksAt_64 (ctX8_entriesOf hl c2) mwX8_entriesOf kw_1204 (by decide) (by decide) rfl (Nat.le_of_ble_eq_true rfl) rfl (Nat.le_of_ble_eq_true rfl) ⟨Nat.le_of_ble_eq_true rfl, Nat.le_of_ble_eq_true rfl⟩ rfl rfl ?_
        show G X 0 0 67 [(11, 0), (0, a_s), (0, a_e), (0, a_stores), (0, s 117 a_e), (1, 0)] [(0, r2)] (m, s7)
        refine g_iconst h 67 dX8_looksAt_67 ?_
        refine g_icmp_ne h 68 75 (gRi (by omega)) (gRi (by omega)) dX8_looksAt_68 (by decide) (fun h9 => ?_) (fun h9 => ?_)
        · have hF := ite_f h9 hF
          exact J8 _ hF
        · have hF := ite_t h9 hF
          exact J7 _ hF
      have J10 : ¬ (s 121 (s 117 a_e) = 1) → G X 0 0 75 [(11, 0), (0, a_s), (0, a_e), (0, a_stores), (0, s 117 a_e), (1, 0)] [] (m, s) := by
        intro h10
        have hF := ite_f h10 hF
        exact J8 _ hF
      refine g_aload_nq h 50 dX8_looksAt_50 rfl rfl ?_
      refine gf_M_kind h 51 dX8_looksAt_51 kw_1027 ?_
      refine g_iload h 54 dX8_looksAt_54 rfl ?_
      refine al_M_kind h 56 dX8_looksAt_56 (by omega) ?_
      refine g_iconst h 57 dX8_looksAt_57 ?_
      refine g_icmp_ne h 58 75 (gRi (by omega)) (gRi (by omega)) dX8_looksAt_58 (by decide) (fun h7 => ?_) (fun h7 => ?_)
      · exact J10 h7
      · exact J9 h7
    have J5 : ¬ ((a_stores ≠ 0) ∧ (¬ (s 118 a_e ≠ 0))) → G X 0 0 165 [(11, 0), (0, a_s), (0, a_e), (0, a_stores), (0, s 117 a_e), (1, 0)] [] (m, s) := by
      intro h24
      have hF := ite_f h24 hF
      exact J3 _ _ (by omega) hF
    refine g_iload_n h 37 dX8_looksAt_37 rfl ?_
    refine g_if_eq h 38 165 (gRi (by omega)) dX8_looksAt_38 (by decide) (fun h4 => ?_) (fun h4 => ?_)
    · exact J5 (fun q => (fun q => q h4) q.1)
    · refine g_aload_nq h 41 dX8_looksAt_41 rfl rfl ?_
      refine gf_M_writable h 42 dX8_looksAt_42 kw_1024 ?_
      refine g_iload_n h 45 dX8_looksAt_45 rfl ?_
      refine al_M_writable h 46 dX8_looksAt_46 (by omega) ?_
      refine g_if_ne h 47 165 (gRi (by omega)) dX8_looksAt_47 (by decide) (fun h5 => ?_) (fun h5 => ?_)
      · exact J5 (fun q => (fun q => q h5) q.2)
      · exact J4 ⟨h4, (fun q => q h5)⟩
  refine g_aload_nq h 0 dX8_looksAt_0 rfl rfl ?_
  refine gf_M_state h 1 dX8_looksAt_1 kw_1022 ?_
  refine g_iload_n h 4 dX8_looksAt_4 rfl ?_
  refine al_M_state h 5 dX8_looksAt_5 (by omega) ?_
  refine g_iconst h 6 dX8_looksAt_6 ?_
  refine g_icmp_eq h 7 29 (gRi (by omega)) (gRi (by omega)) dX8_looksAt_7 (by decide) (fun h1 => ?_) (fun h1 => ?_)
  · exact J2 (fun q => q h1)
  · exact J1 h1
-- PagewrightModel.access
def FX8_access (a_p a_s a_a a_stores a_v : Int) (s : S2) : Option (Int × S2) :=
  rgd (-2147483648) 2147483647 <| gd (0 ≤ a_p ∧ a_p ≤ 1) <| gd (0 ≤ a_s ∧ a_s ≤ 5) <| gd (0 ≤ a_a ∧ a_a ≤ 31) <| gd (0 ≤ a_stores ∧ a_stores ≤ 1) <| gd (0 ≤ a_v ∧ a_v ≤ 99999) <| cb (FX8_handles a_p s) fun r1 s1 => cb (FX8_growsDown a_s a_a s1) fun r2 s2 => gd (0 ≤ (32 * a_s) + a_a ∧ (32 * a_s) + a_a ≤ 191) <| if s2 111 ((32 * a_s) + a_a) = 0 then some ((-2), s2) else if gAnd (s2 111 ((32 * a_s) + a_a)) (if a_stores ≠ 0 then 2 else 1 : Int) = 0 then some ((-3), s2) else cb (FX8_translationOf a_p ((32 * a_s) + a_a) s2) fun r3 s3 => bn (fun (s4 : S2) => cb (FX8_takesValue (s4 117 ((32 * a_s) + a_a)) a_stores a_v s4) fun r6 s9 => some (r6, s9)) fun k1 => if (r3 ≠ (-1)) ∧ ((s3 138 r3 ≠ 0) ∨ (¬ (a_stores ≠ 0))) then bn (upd2 s3 140 0 ((s3 140 0) + 1)) fun s5 => k1 s5 else bn (upd2 s3 140 1 ((s3 140 1) + 1)) fun s6 => cb (FX8_looksAt a_s ((32 * a_s) + a_a) a_stores s6) fun r4 s7 => if r4 < 0 then some (r4, s7) else cb (FX8_translates a_p ((32 * a_s) + a_a) s7) fun r5 s8 => k1 s8
theorem rgX8_access {a_p a_s a_a a_stores a_v : Int} {s s0 : S2} {r0 : Int} (hF : FX8_access a_p a_s a_a a_stores a_v s = some (r0, s0)) : (-2147483648) ≤ r0 ∧ r0 ≤ 2147483647 := (rgd_some hF).2
set_option maxRecDepth 100000 in
set_option maxHeartbeats 4000000 in
theorem ctX8_access {l : Launch} {w : gW} {bs : Nat} (hl : l.stackTraces = false) {a_p a_s a_a a_stores a_v : Int} {s m s0 : S2} {r0 : Int} (hF : FX8_access a_p a_s a_a a_stores a_v s = some (r0, s0)) : gMet l w bs yX8_access cX8_access 9 (some FieldType.int) 10 0 [(11, 0), (0, a_p), (0, a_s), (0, a_a), (0, a_stores), (0, a_v)] (m, s) 0 (some (0, r0)) (m, s0) := by
  unfold FX8_access at hF
  obtain ⟨hF, hr⟩ := rgd_some hF
  obtain ⟨q_a_p, hF⟩ := gd_some hF
  obtain ⟨q_a_s, hF⟩ := gd_some hF
  obtain ⟨q_a_a, hF⟩ := gd_some hF
  obtain ⟨q_a_stores, hF⟩ := gd_some hF
  obtain ⟨q_a_v, hF⟩ := gd_some hF
  refine g_start hl (by decide) (Nat.le_of_ble_eq_true rfl) rfl fun X h hE => ?_
  have h : gOk X "PagewrightModel" cX8_access 9 10 0 0 := h
  have hE : gEnd X l w bs 0 (some FieldType.int) 0 (some (0, r0)) (m, s0) := hE
  show G X 0 0 0 [(11, 0), (0, a_p), (0, a_s), (0, a_a), (0, a_stores), (0, a_v), (1, 0), (1, 0), (1, 0)] [] (m, s)
  refine g_bipush h 0 dX8_access_0 (by decide) ?_
  refine g_iload_n h 2 dX8_access_2 rfl ?_
  refine g_imul h 3 dX8_access_3 ?_
  refine g_iload_n h 4 dX8_access_4 rfl ?_
  refine g_iadd h 5 dX8_access_5 ?_
  refine g_istore h 6 dX8_access_6 (Nat.le_of_ble_eq_true rfl) rfl (L' := [(11, 0), (0, a_p), (0, a_s), (0, a_a), (0, a_stores), (0, a_v), (0, (32 * a_s) + a_a), (1, 0), (1, 0)]) rfl ?_
  refine g_aload_nq h 8 dX8_access_8 rfl rfl ?_
  refine g_iload_n h 9 dX8_access_9 rfl ?_
  obtain ⟨r1, s1, c1, hF⟩ := cb_some hF
  have t1 : 0 ≤ r1 ∧ r1 ≤ 4 := rgX8_handles c1
  refine g_callV h hE 10 dX8_access_10 (ctX8_handles hl c1) mwX8_handles kw_1280 (by decide) (by decide) rfl (Nat.le_of_ble_eq_true rfl) rfl (Nat.le_of_ble_eq_true rfl) ⟨Nat.le_of_ble_eq_true rfl, Nat.le_of_ble_eq_true rfl⟩ rfl rfl ?_
  show G X 0 0 13 [(11, 0), (0, a_p), (0, a_s), (0, a_a), (0, a_stores), (0, a_v), (0, (32 * a_s) + a_a), (1, 0), (1, 0)] [(0, r1)] (m, s1)
  refine g_pop h 13 dX8_access_13 (show (0 : Nat) ≠ 2 by decide) ?_
  refine g_aload_nq h 14 dX8_access_14 rfl rfl ?_
  refine g_iload_n h 15 dX8_access_15 rfl ?_
  refine g_iload_n h 16 dX8_access_16 rfl ?_
  obtain ⟨r2, s2, c2, hF⟩ := cb_some hF
  refine g_callV h hE 17 dX8_access_17 (ctX8_growsDown hl c2) mwX8_growsDown kw_1284 (by decide) (by decide) rfl (Nat.le_of_ble_eq_true rfl) rfl (Nat.le_of_ble_eq_true rfl) ⟨Nat.le_of_ble_eq_true rfl, Nat.le_of_ble_eq_true rfl⟩ rfl rfl ?_
  show G X 0 0 20 [(11, 0), (0, a_p), (0, a_s), (0, a_a), (0, a_stores), (0, a_v), (0, (32 * a_s) + a_a), (1, 0), (1, 0)] [] (m, s2)
  refine G_typ fun hT_s2 => ?_
  have t2 : 0 ≤ s2 111 ((32 * a_s) + a_a) ∧ s2 111 ((32 * a_s) + a_a) ≤ 3 := hT_s2.2 111 ((32 * a_s) + a_a)
  obtain ⟨q1, hF⟩ := gd_some hF
  have J1 : s2 111 ((32 * a_s) + a_a) = 0 → G X 0 0 30 [(11, 0), (0, a_p), (0, a_s), (0, a_a), (0, a_stores), (0, a_v), (0, (32 * a_s) + a_a), (1, 0), (1, 0)] [] (m, s2) := by
    intro h2
    have hF := ite_t h2 hF
    refine g_bipush h 30 dX8_access_30 (by decide) ?_
    obtain ⟨e1, e2⟩ := some_2 hF
    rw [← e1, ← e2] at hE
    exact g_iret h 32 dX8_access_32 hE rfl rfl ⟨(Nat.le_of_ble_eq_true rfl), (Nat.le_of_ble_eq_true rfl)⟩
  have J2 : ¬ (s2 111 ((32 * a_s) + a_a) = 0) → G X 0 0 33 [(11, 0), (0, a_p), (0, a_s), (0, a_a), (0, a_stores), (0, a_v), (0, (32 * a_s) + a_a), (1, 0), (1, 0)] [] (m, s2) := by
    intro h3
    have hF := ite_f h3 hF
    have t3 : 0 ≤ gAnd (s2 111 ((32 * a_s) + a_a)) (if a_stores ≠ 0 then 2 else 1 : Int) ∧ gAnd (s2 111 ((32 * a_s) + a_a)) (if a_stores ≠ 0 then 2 else 1 : Int) ≤ 3 := gAnd_03 (by omega)
    have J3 : gAnd (s2 111 ((32 * a_s) + a_a)) (if a_stores ≠ 0 then 2 else 1 : Int) = 0 → G X 0 0 54 [(11, 0), (0, a_p), (0, a_s), (0, a_a), (0, a_stores), (0, a_v), (0, (32 * a_s) + a_a), (1, 0), (1, 0)] [] (m, s2) := by
      intro h8
      have hF := ite_t h8 hF
      refine g_bipush h 54 dX8_access_54 (by decide) ?_
      obtain ⟨e1, e2⟩ := some_2 hF
      rw [← e1, ← e2] at hE
      exact g_iret h 56 dX8_access_56 hE rfl rfl ⟨(Nat.le_of_ble_eq_true rfl), (Nat.le_of_ble_eq_true rfl)⟩
    have J4 : ¬ (gAnd (s2 111 ((32 * a_s) + a_a)) (if a_stores ≠ 0 then 2 else 1 : Int) = 0) → G X 0 0 57 [(11, 0), (0, a_p), (0, a_s), (0, a_a), (0, a_stores), (0, a_v), (0, (32 * a_s) + a_a), (1, 0), (1, 0)] [] (m, s2) := by
      intro h9
      have hF := ite_f h9 hF
      refine g_aload_nq h 57 dX8_access_57 rfl rfl ?_
      refine g_iload_n h 58 dX8_access_58 rfl ?_
      refine g_iload h 59 dX8_access_59 rfl ?_
      obtain ⟨r3, s3, c3, hF⟩ := cb_some hF
      have t4 : (-1) ≤ r3 ∧ r3 ≤ 7 := rgX8_translationOf c3
      refine g_callV h hE 61 dX8_access_61 (ctX8_translationOf hl c3) mwX8_translationOf kw_1288 (by decide) (by decide) rfl (Nat.le_of_ble_eq_true rfl) rfl (Nat.le_of_ble_eq_true rfl) ⟨Nat.le_of_ble_eq_true rfl, Nat.le_of_ble_eq_true rfl⟩ rfl rfl ?_
      show G X 0 0 64 [(11, 0), (0, a_p), (0, a_s), (0, a_a), (0, a_stores), (0, a_v), (0, (32 * a_s) + a_a), (1, 0), (1, 0)] [(0, r3)] (m, s3)
      refine g_istore h 64 dX8_access_64 (Nat.le_of_ble_eq_true rfl) rfl (L' := [(11, 0), (0, a_p), (0, a_s), (0, a_a), (0, a_stores), (0, a_v), (0, (32 * a_s) + a_a), (0, r3), (1, 0)]) rfl ?_
      obtain ⟨k1, ek1, hF⟩ := bn_ex hF
      have J8 : ∀ (s4 : S2), k1 s4 = some (r0, s0) → G X 0 0 136 [(11, 0), (0, a_p), (0, a_s), (0, a_a), (0, a_stores), (0, a_v), (0, (32 * a_s) + a_a), (0, r3), (1, 0)] [] (m, s4) := by
        intro s4 hF
        rw [ek1] at hF
        refine g_aload_nq h 136 dX8_access_136 rfl rfl ?_
        refine G_typ fun hT_s4 => ?_
        have t7 : 0 ≤ s4 117 ((32 * a_s) + a_a) ∧ s4 117 ((32 * a_s) + a_a) ≤ 23 := hT_s4.2 117 ((32 * a_s) + a_a)
        refine g_aload_nq h 137 dX8_access_137 rfl rfl ?_
        refine gf_M_page h 138 dX8_access_138 kw_1023 ?_
        refine g_iload h 141 dX8_access_141 rfl ?_
        refine al_M_page h 143 dX8_access_143 (by omega) ?_
        refine g_iload h 144 dX8_access_144 rfl ?_
        refine g_iload h 146 dX8_access_146 rfl ?_
        obtain ⟨r6, s9, c6, hF⟩ := cb_some hF
        have t8 : (-2147483648) ≤ r6 ∧ r6 ≤ 2147483647 := rgX8_takesValue c6
        refine g_callV h hE 148 dX8_access_148 (ctX8_takesValue hl c6) mwX8_takesValue kw_1368 (by decide) (by decide) rfl (Nat.le_of_ble_eq_true rfl) rfl (Nat.le_of_ble_eq_true rfl) ⟨Nat.le_of_ble_eq_true rfl, Nat.le_of_ble_eq_true rfl⟩ rfl rfl ?_
        show G X 0 0 151 [(11, 0), (0, a_p), (0, a_s), (0, a_a), (0, a_stores), (0, a_v), (0, (32 * a_s) + a_a), (0, r3), (1, 0)] [(0, r6)] (m, s9)
        obtain ⟨e1, e2⟩ := some_2 hF
        rw [← e1, ← e2] at hE
        exact g_iret h 151 dX8_access_151 hE rfl rfl ⟨(Nat.le_of_ble_eq_true rfl), (Nat.le_of_ble_eq_true rfl)⟩
      refine G_typ fun hT_s3 => ?_
      have t5 : 0 ≤ s3 138 r3 ∧ s3 138 r3 ≤ 1 := hT_s3.2 138 r3
      have J9 : (r3 ≠ (-1)) ∧ ((s3 138 r3 ≠ 0) ∨ (¬ (a_stores ≠ 0))) → G X 0 0 87 [(11, 0), (0, a_p), (0, a_s), (0, a_a), (0, a_stores), (0, a_v), (0, (32 * a_s) + a_a), (0, r3), (1, 0)] [] (m, s3) := by
        intro h13
        have hF := ite_t h13 hF
        refine g_aload_nq h 87 dX8_access_87 rfl rfl ?_
        refine gf_M_counts h 88 dX8_access_88 kw_1047 ?_
        refine g_iconst h 91 dX8_access_91 ?_
        refine g_dup2 h 92 dX8_access_92 (show (0 : Nat) ≠ 2 by decide) (show (58 : Nat) ≠ 2 by decide) ?_
        refine al_M_counts h 93 dX8_access_93 (by omega) ?_
        refine g_iconst h 94 dX8_access_94 ?_
        refine g_iadd h 95 dX8_access_95 ?_
        obtain ⟨s5, es5, hF⟩ := bn_ex hF
        refine as_M_counts h 96 dX8_access_96 (by omega) ?_
        rw [← es5]
        refine g_goto h 97 136 dX8_access_97 (by decide) ?_
        exact J8 _ hF
      have J10 : ¬ ((r3 ≠ (-1)) ∧ ((s3 138 r3 ≠ 0) ∨ (¬ (a_stores ≠ 0)))) → G X 0 0 100 [(11, 0), (0, a_p), (0, a_s), (0, a_a), (0, a_stores), (0, a_v), (0, (32 * a_s) + a_a), (0, r3), (1, 0)] [] (m, s3) := by
        intro h14
        have hF := ite_f h14 hF
        refine g_aload_nq h 100 dX8_access_100 rfl rfl ?_
        refine gf_M_counts h 101 dX8_access_101 kw_1047 ?_
        refine g_iconst h 104 dX8_access_104 ?_
        refine g_dup2 h 105 dX8_access_105 (show (0 : Nat) ≠ 2 by decide) (show (58 : Nat) ≠ 2 by decide) ?_
        refine al_M_counts h 106 dX8_access_106 (by omega) ?_
        refine g_iconst h 107 dX8_access_107 ?_
        refine g_iadd h 108 dX8_access_108 ?_
        obtain ⟨s6, es6, hF⟩ := bn_ex hF
        refine as_M_counts h 109 dX8_access_109 (by omega) ?_
        rw [← es6]
        refine g_aload_nq h 110 dX8_access_110 rfl rfl ?_
        refine g_iload_n h 111 dX8_access_111 rfl ?_
        refine g_iload h 112 dX8_access_112 rfl ?_
        refine g_iload h 114 dX8_access_114 rfl ?_
        obtain ⟨r4, s7, c4, hF⟩ := cb_some hF
        have t6 : (-5) ≤ r4 ∧ r4 ≤ 23 := rgX8_looksAt c4
        refine g_callV h hE 116 dX8_access_116 (ctX8_looksAt hl c4) mwX8_looksAt kw_1292 (by decide) (by decide) rfl (Nat.le_of_ble_eq_true rfl) rfl (Nat.le_of_ble_eq_true rfl) ⟨Nat.le_of_ble_eq_true rfl, Nat.le_of_ble_eq_true rfl⟩ rfl rfl ?_
        show G X 0 0 119 [(11, 0), (0, a_p), (0, a_s), (0, a_a), (0, a_stores), (0, a_v), (0, (32 * a_s) + a_a), (0, r3), (1, 0)] [(0, r4)] (m, s7)
        refine g_istore h 119 dX8_access_119 (Nat.le_of_ble_eq_true rfl) rfl (L' := [(11, 0), (0, a_p), (0, a_s), (0, a_a), (0, a_stores), (0, a_v), (0, (32 * a_s) + a_a), (0, r3), (0, r4)]) rfl ?_
        have J11 : r4 < 0 → G X 0 0 126 [(11, 0), (0, a_p), (0, a_s), (0, a_a), (0, a_stores), (0, a_v), (0, (32 * a_s) + a_a), (0, r3), (0, r4)] [] (m, s7) := by
          intro h16
          have hF := ite_t h16 hF
          refine g_iload h 126 dX8_access_126 rfl ?_
          obtain ⟨e1, e2⟩ := some_2 hF
          rw [← e1, ← e2] at hE
          exact g_iret h 128 dX8_access_128 hE rfl rfl ⟨(Nat.le_of_ble_eq_true rfl), (Nat.le_of_ble_eq_true rfl)⟩
        have J12 : ¬ (r4 < 0) → G X 0 0 129 [(11, 0), (0, a_p), (0, a_s), (0, a_a), (0, a_stores), (0, a_v), (0, (32 * a_s) + a_a), (0, r3), (0, r4)] [] (m, s7) := by
          intro h17
          have hF := ite_f h17 hF
          refine g_aload_nq h 129 dX8_access_129 rfl rfl ?_
          refine g_iload_n h 130 dX8_access_130 rfl ?_
          refine g_iload h 131 dX8_access_131 rfl ?_
          obtain ⟨r5, s8, c5, hF⟩ := cb_some hF
          refine g_callV h hE 133 dX8_access_133 (ctX8_translates hl c5) mwX8_translates kw_1364 (by decide) (by decide) rfl (Nat.le_of_ble_eq_true rfl) rfl (Nat.le_of_ble_eq_true rfl) ⟨Nat.le_of_ble_eq_true rfl, Nat.le_of_ble_eq_true rfl⟩ rfl rfl ?_
          show G X 0 0 136 [(11, 0), (0, a_p), (0, a_s), (0, a_a), (0, a_stores), (0, a_v), (0, (32 * a_s) + a_a), (0, r3), (0, r4)] [] (m, s8)
          refine G_weak (L' := [(11, 0), (0, a_p), (0, a_s), (0, a_a), (0, a_stores), (0, a_v), (0, (32 * a_s) + a_a), (0, r3), (1, 0)]) ⟨Or.inr rfl, Or.inr rfl, Or.inr rfl, Or.inr rfl, Or.inr rfl, Or.inr rfl, Or.inr rfl, Or.inr rfl, Or.inl rfl, trivial⟩ ?_
          exact J8 _ hF
        refine g_iload h 121 dX8_access_121 rfl ?_
        refine g_if_ge h 123 129 (gRi (by omega)) dX8_access_123 (by decide) (fun h15 => ?_) (fun h15 => ?_)
        · exact J12 (Int.not_lt.mpr h15)
        · exact J11 h15
      refine g_iload h 66 dX8_access_66 rfl ?_
      refine g_iconst h 68 dX8_access_68 ?_
      refine g_icmp_eq h 69 100 (gRi (by omega)) (gRi (by omega)) dX8_access_69 (by decide) (fun h10 => ?_) (fun h10 => ?_)
      · exact J10 (fun q => (fun q => q h10) q.1)
      · refine g_aload_nq h 72 dX8_access_72 rfl rfl ?_
        refine gf_M_may h 73 dX8_access_73 kw_1045 ?_
        refine g_iload h 76 dX8_access_76 rfl ?_
        refine al_M_may h 78 dX8_access_78 (by omega) ?_
        refine g_if_ne h 79 87 (gRi (by omega)) dX8_access_79 (by decide) (fun h11 => ?_) (fun h11 => ?_)
        · exact J9 ⟨h10, (Or.inl h11)⟩
        · refine g_iload h 82 dX8_access_82 rfl ?_
          refine g_if_ne h 84 100 (gRi (by omega)) dX8_access_84 (by decide) (fun h12 => ?_) (fun h12 => ?_)
          · exact J10 (fun q => (fun q => q.elim (fun q => q h11) (fun q => q h12)) q.2)
          · exact J9 ⟨h10, (Or.inr (fun q => q h12))⟩
    refine g_aload_nq h 33 dX8_access_33 rfl rfl ?_
    refine gf_M_rights h 34 dX8_access_34 kw_1017 ?_
    refine g_iload h 37 dX8_access_37 rfl ?_
    refine al_M_rights h 39 dX8_access_39 (by omega) ?_
    suffices J5 : ∀ v1 : Int, v1 = (if a_stores ≠ 0 then 2 else 1 : Int) → G X 0 0 50 [(11, 0), (0, a_p), (0, a_s), (0, a_a), (0, a_stores), (0, a_v), (0, (32 * a_s) + a_a), (1, 0), (1, 0)] [(0, v1), (0, s2 111 ((32 * a_s) + a_a))] (m, s2) by
      have J6 : a_stores ≠ 0 → G X 0 0 45 [(11, 0), (0, a_p), (0, a_s), (0, a_a), (0, a_stores), (0, a_v), (0, (32 * a_s) + a_a), (1, 0), (1, 0)] [(0, s2 111 ((32 * a_s) + a_a))] (m, s2) := by
        intro h5
        refine g_iconst h 45 dX8_access_45 ?_
        refine g_goto h 46 50 dX8_access_46 (by decide) ?_
        exact J5 _ (if_pos h5).symm
      have J7 : ¬ (a_stores ≠ 0) → G X 0 0 49 [(11, 0), (0, a_p), (0, a_s), (0, a_a), (0, a_stores), (0, a_v), (0, (32 * a_s) + a_a), (1, 0), (1, 0)] [(0, s2 111 ((32 * a_s) + a_a))] (m, s2) := by
        intro h6
        refine g_iconst h 49 dX8_access_49 ?_
        exact J5 _ (if_neg h6).symm
      refine g_iload h 40 dX8_access_40 rfl ?_
      refine g_if_eq h 42 49 (gRi (by omega)) dX8_access_42 (by decide) (fun h4 => ?_) (fun h4 => ?_)
      · exact J7 (fun q => q h4)
      · exact J6 h4
    intro v1 e1
    subst e1
    refine g_iand h 50 dX8_access_50 ?_
    refine g_if_ne h 51 57 (gRi (by omega)) dX8_access_51 (by decide) (fun h7 => ?_) (fun h7 => ?_)
    · exact J4 h7
    · exact J3 h7
  refine g_aload_nq h 20 dX8_access_20 rfl rfl ?_
  refine gf_M_rights h 21 dX8_access_21 kw_1017 ?_
  refine g_iload h 24 dX8_access_24 rfl ?_
  refine al_M_rights h 26 dX8_access_26 (by omega) ?_
  refine g_if_ne h 27 33 (gRi (by omega)) dX8_access_27 (by decide) (fun h1 => ?_) (fun h1 => ?_)
  · exact J2 h1
  · exact J1 h1
-- PagewrightModel.load
def FX8_load (a_p a_s a_a : Int) (s : S2) : Option (Int × S2) :=
  rgd (-2147483648) 2147483647 <| gd ((-2147483648) ≤ a_p ∧ a_p ≤ 2147483647) <| gd ((-2147483648) ≤ a_s ∧ a_s ≤ 2147483647) <| gd ((-2147483648) ≤ a_a ∧ a_a ≤ 2147483647) <| bn (fun (v1 : Int) (s1 : S2) => some (v1, s1)) fun k1 => cb (FX8_asked__ (if ((0 ≤ a_p) ∧ (a_p ≤ 1)) ∧ ((0 ≤ a_s) ∧ (a_s ≤ (s 102 0) - 1)) then 1 else 0 : Int) (if (0 ≤ a_a) ∧ (a_a ≤ 31) then 1 else 0 : Int) (if ((0 ≤ a_s) ∧ (a_s ≤ (s 102 0) - 1)) ∧ (s 106 a_s ≠ 0) then 1 else 0 : Int) s) fun r1 s2 => if r1 ≠ 0 then cb (FX8_access a_p a_s a_a 0 0 s2) fun r2 s3 => k1 r2 s3 else k1 0 s2
theorem rgX8_load {a_p a_s a_a : Int} {s s0 : S2} {r0 : Int} (hF : FX8_load a_p a_s a_a s = some (r0, s0)) : (-2147483648) ≤ r0 ∧ r0 ≤ 2147483647 := (rgd_some hF).2
set_option maxRecDepth 100000 in
set_option maxHeartbeats 4000000 in
theorem ctX8_load {l : Launch} {w : gW} {bs : Nat} (hl : l.stackTraces = false) {a_p a_s a_a : Int} {s m s0 : S2} {r0 : Int} (hF : FX8_load a_p a_s a_a s = some (r0, s0)) : gMet l w bs yX8_load cX8_load 4 (some FieldType.int) 11 0 [(11, 0), (0, a_p), (0, a_s), (0, a_a)] (m, s) 0 (some (0, r0)) (m, s0) := by
  unfold FX8_load at hF
  obtain ⟨hF, hr⟩ := rgd_some hF
  obtain ⟨q_a_p, hF⟩ := gd_some hF
  obtain ⟨q_a_s, hF⟩ := gd_some hF
  obtain ⟨q_a_a, hF⟩ := gd_some hF
  refine g_start hl (by decide) (Nat.le_of_ble_eq_true rfl) rfl fun X h hE => ?_
  have h : gOk X "PagewrightModel" cX8_load 4 11 0 0 := h
  have hE : gEnd X l w bs 0 (some FieldType.int) 0 (some (0, r0)) (m, s0) := hE
  show G X 0 0 0 [(11, 0), (0, a_p), (0, a_s), (0, a_a)] [] (m, s)
  obtain ⟨k1, ek1, hF⟩ := bn_ex hF
  have J1 : ∀ (v1 : Int) (s1 : S2), ((-2147483648) ≤ v1 ∧ v1 ≤ 2147483647) → k1 v1 s1 = some (r0, s0) → G X 0 0 54 [(11, 0), (0, a_p), (0, a_s), (0, a_a)] [(0, v1)] (m, s1) := by
    intro v1 s1 q1 hF
    rw [ek1] at hF
    obtain ⟨e1, e2⟩ := some_2 hF
    rw [← e1, ← e2] at hE
    exact g_iret h 54 dX8_load_54 hE rfl rfl ⟨(Nat.le_of_ble_eq_true rfl), (Nat.le_of_ble_eq_true rfl)⟩
  refine g_aload_nq h 0 dX8_load_0 rfl rfl ?_
  refine G_typ fun hT_s => ?_
  have t1 : 0 ≤ s 102 0 ∧ s 102 0 ≤ 6 := hT_s.2 102 0
  suffices J2 : ∀ v2 : Int, v2 = (if ((0 ≤ a_p) ∧ (a_p ≤ 1)) ∧ ((0 ≤ a_s) ∧ (a_s ≤ (s 102 0) - 1)) then 1 else 0 : Int) → G X 0 0 23 [(11, 0), (0, a_p), (0, a_s), (0, a_a)] [(0, v2), (11, 0)] (m, s) by
    have J3 : ((0 ≤ a_p) ∧ (a_p ≤ 1)) ∧ ((0 ≤ a_s) ∧ (a_s ≤ (s 102 0) - 1)) → G X 0 0 18 [(11, 0), (0, a_p), (0, a_s), (0, a_a)] [(11, 0)] (m, s) := by
      intro h3
      refine g_iconst h 18 dX8_load_18 ?_
      refine g_goto h 19 23 dX8_load_19 (by decide) ?_
      exact J2 _ (if_pos h3).symm
    have J4 : ¬ (((0 ≤ a_p) ∧ (a_p ≤ 1)) ∧ ((0 ≤ a_s) ∧ (a_s ≤ (s 102 0) - 1))) → G X 0 0 22 [(11, 0), (0, a_p), (0, a_s), (0, a_a)] [(11, 0)] (m, s) := by
      intro h4
      refine g_iconst h 22 dX8_load_22 ?_
      exact J2 _ (if_neg h4).symm
    refine g_iload_n h 1 dX8_load_1 rfl ?_
    refine g_iconst h 2 dX8_load_2 ?_
    refine g_iconst h 3 dX8_load_3 ?_
    refine g_callS h hE 4 dX8_load_4 (cpX8_in (a_v := a_p) (a_low := 0) (a_high := 1) hl (by omega) (by omega) (by omega)) mwX8_in kw_1142 rfl (Nat.le_of_ble_eq_true rfl) rfl (Nat.le_of_ble_eq_true rfl) ⟨Nat.le_of_ble_eq_true rfl, Nat.le_of_ble_eq_true rfl⟩ rfl rfl ?_
    show G X 0 0 7 [(11, 0), (0, a_p), (0, a_s), (0, a_a)] [(0, (if (0 ≤ a_p) ∧ (a_p ≤ 1) then 1 else 0 : Int)), (11, 0)] (m, s)
    refine g_if_eq h 7 22 (gRi gR_ite) dX8_load_7 (by decide) (fun h1 => ?_) (fun h1 => ?_)
    · exact J4 (fun q => (iz_f h1) q.1)
    · refine g_aload_nq h 10 dX8_load_10 rfl rfl ?_
      refine g_iload_n h 11 dX8_load_11 rfl ?_
      refine g_callV h hE 12 dX8_load_12 (cpX8_isSpace (a_s := a_s) hl (by omega)) mwX8_isSpace kw_1156 (by decide) (by decide) rfl (Nat.le_of_ble_eq_true rfl) rfl (Nat.le_of_ble_eq_true rfl) ⟨Nat.le_of_ble_eq_true rfl, Nat.le_of_ble_eq_true rfl⟩ rfl rfl ?_
      show G X 0 0 15 [(11, 0), (0, a_p), (0, a_s), (0, a_a)] [(0, (if (0 ≤ a_s) ∧ (a_s ≤ (s 102 0) - 1) then 1 else 0 : Int)), (11, 0)] (m, s)
      refine g_if_eq h 15 22 (gRi gR_ite) dX8_load_15 (by decide) (fun h2 => ?_) (fun h2 => ?_)
      · exact J4 (fun q => (iz_f h2) q.2)
      · exact J3 ⟨(iz_t h1), (iz_t h2)⟩
  intro v2 e1
  subst e1
  refine g_iload_n h 23 dX8_load_23 rfl ?_
  refine g_iconst h 24 dX8_load_24 ?_
  refine g_bipush h 25 dX8_load_25 (by decide) ?_
  refine g_callS h hE 27 dX8_load_27 (cpX8_in (a_v := a_a) (a_low := 0) (a_high := 31) hl (by omega) (by omega) (by omega)) mwX8_in kw_1142 rfl (Nat.le_of_ble_eq_true rfl) rfl (Nat.le_of_ble_eq_true rfl) ⟨Nat.le_of_ble_eq_true rfl, Nat.le_of_ble_eq_true rfl⟩ rfl rfl ?_
  show G X 0 0 30 [(11, 0), (0, a_p), (0, a_s), (0, a_a)] [(0, (if (0 ≤ a_a) ∧ (a_a ≤ 31) then 1 else 0 : Int)), (0, (if ((0 ≤ a_p) ∧ (a_p ≤ 1)) ∧ ((0 ≤ a_s) ∧ (a_s ≤ (s 102 0) - 1)) then 1 else 0 : Int)), (11, 0)] (m, s)
  have t2 : 0 ≤ s 106 a_s ∧ s 106 a_s ≤ 1 := hT_s.2 106 a_s
  refine g_aload_nq h 30 dX8_load_30 rfl rfl ?_
  refine g_iload_n h 31 dX8_load_31 rfl ?_
  refine g_callV h hE 32 dX8_load_32 (cpX8_isAlive (a_s := a_s) hl (by omega)) mwX8_isAlive kw_1160 (by decide) (by decide) rfl (Nat.le_of_ble_eq_true rfl) rfl (Nat.le_of_ble_eq_true rfl) ⟨Nat.le_of_ble_eq_true rfl, Nat.le_of_ble_eq_true rfl⟩ rfl rfl ?_
  show G X 0 0 35 [(11, 0), (0, a_p), (0, a_s), (0, a_a)] [(0, (if ((0 ≤ a_s) ∧ (a_s ≤ (s 102 0) - 1)) ∧ (s 106 a_s ≠ 0) then 1 else 0 : Int)), (0, (if (0 ≤ a_a) ∧ (a_a ≤ 31) then 1 else 0 : Int)), (0, (if ((0 ≤ a_p) ∧ (a_p ≤ 1)) ∧ ((0 ≤ a_s) ∧ (a_s ≤ (s 102 0) - 1)) then 1 else 0 : Int)), (11, 0)] (m, s)
  obtain ⟨r1, s2, c1, hF⟩ := cb_some hF
  have t3 : 0 ≤ r1 ∧ r1 ≤ 1 := rgX8_asked__ c1
  refine g_callV h hE 35 dX8_load_35 (ctX8_asked__ hl c1) mwX8_asked__ kw_1168 (by decide) (by decide) rfl (Nat.le_of_ble_eq_true rfl) rfl (Nat.le_of_ble_eq_true rfl) ⟨Nat.le_of_ble_eq_true rfl, Nat.le_of_ble_eq_true rfl⟩ rfl rfl ?_
  show G X 0 0 38 [(11, 0), (0, a_p), (0, a_s), (0, a_a)] [(0, r1)] (m, s2)
  refine g_if_eq h 38 53 (gRi (by omega)) dX8_load_38 (by decide) (fun h5 => ?_) (fun h5 => ?_)
  · have hF := ite_f (fun q => q h5) hF
    refine g_iconst h 53 dX8_load_53 ?_
    exact J1 _ _ (by omega) hF
  · have hF := ite_t h5 hF
    refine g_aload_nq h 41 dX8_load_41 rfl rfl ?_
    refine g_iload_n h 42 dX8_load_42 rfl ?_
    refine g_iload_n h 43 dX8_load_43 rfl ?_
    refine g_iload_n h 44 dX8_load_44 rfl ?_
    refine g_iconst h 45 dX8_load_45 ?_
    refine g_iconst h 46 dX8_load_46 ?_
    obtain ⟨r2, s3, c2, hF⟩ := cb_some hF
    have t4 : (-2147483648) ≤ r2 ∧ r2 ≤ 2147483647 := rgX8_access c2
    refine g_callV h hE 47 dX8_load_47 (ctX8_access hl c2) mwX8_access kw_1276 (by decide) (by decide) rfl (Nat.le_of_ble_eq_true rfl) rfl (Nat.le_of_ble_eq_true rfl) ⟨Nat.le_of_ble_eq_true rfl, Nat.le_of_ble_eq_true rfl⟩ rfl rfl ?_
    show G X 0 0 50 [(11, 0), (0, a_p), (0, a_s), (0, a_a)] [(0, r2)] (m, s3)
    refine g_goto h 50 54 dX8_load_50 (by decide) ?_
    exact J1 _ _ (by omega) hF
-- PagewrightModel.store
def FX8_store (a_p a_s a_a a_v : Int) (s : S2) : Option (Int × S2) :=
  rgd (-2147483648) 2147483647 <| gd ((-2147483648) ≤ a_p ∧ a_p ≤ 2147483647) <| gd ((-2147483648) ≤ a_s ∧ a_s ≤ 2147483647) <| gd ((-2147483648) ≤ a_a ∧ a_a ≤ 2147483647) <| gd ((-2147483648) ≤ a_v ∧ a_v ≤ 2147483647) <| bn (fun (v1 : Int) (s1 : S2) => some (v1, s1)) fun k1 => cb (FX8_asked__ (if ((0 ≤ a_p) ∧ (a_p ≤ 1)) ∧ ((0 ≤ a_s) ∧ (a_s ≤ (s 102 0) - 1)) then 1 else 0 : Int) (if ((0 ≤ a_a) ∧ (a_a ≤ 31)) ∧ ((0 ≤ a_v) ∧ (a_v ≤ 99999)) then 1 else 0 : Int) (if ((0 ≤ a_s) ∧ (a_s ≤ (s 102 0) - 1)) ∧ (s 106 a_s ≠ 0) then 1 else 0 : Int) s) fun r1 s2 => if r1 ≠ 0 then cb (FX8_access a_p a_s a_a 1 a_v s2) fun r2 s3 => k1 r2 s3 else k1 0 s2
theorem rgX8_store {a_p a_s a_a a_v : Int} {s s0 : S2} {r0 : Int} (hF : FX8_store a_p a_s a_a a_v s = some (r0, s0)) : (-2147483648) ≤ r0 ∧ r0 ≤ 2147483647 := (rgd_some hF).2
set_option maxRecDepth 100000 in
set_option maxHeartbeats 4000000 in
theorem ctX8_store {l : Launch} {w : gW} {bs : Nat} (hl : l.stackTraces = false) {a_p a_s a_a a_v : Int} {s m s0 : S2} {r0 : Int} (hF : FX8_store a_p a_s a_a a_v s = some (r0, s0)) : gMet l w bs yX8_store cX8_store 5 (some FieldType.int) 11 0 [(11, 0), (0, a_p), (0, a_s), (0, a_a), (0, a_v)] (m, s) 0 (some (0, r0)) (m, s0) := by
  unfold FX8_store at hF
  obtain ⟨hF, hr⟩ := rgd_some hF
  obtain ⟨q_a_p, hF⟩ := gd_some hF
  obtain ⟨q_a_s, hF⟩ := gd_some hF
  obtain ⟨q_a_a, hF⟩ := gd_some hF
  obtain ⟨q_a_v, hF⟩ := gd_some hF
  refine g_start hl (by decide) (Nat.le_of_ble_eq_true rfl) rfl fun X h hE => ?_
  have h : gOk X "PagewrightModel" cX8_store 5 11 0 0 := h
  have hE : gEnd X l w bs 0 (some FieldType.int) 0 (some (0, r0)) (m, s0) := hE
  show G X 0 0 0 [(11, 0), (0, a_p), (0, a_s), (0, a_a), (0, a_v)] [] (m, s)
  obtain ⟨k1, ek1, hF⟩ := bn_ex hF
  have J1 : ∀ (v1 : Int) (s1 : S2), ((-2147483648) ≤ v1 ∧ v1 ≤ 2147483647) → k1 v1 s1 = some (r0, s0) → G X 0 0 75 [(11, 0), (0, a_p), (0, a_s), (0, a_a), (0, a_v)] [(0, v1)] (m, s1) := by
    intro v1 s1 q1 hF
    rw [ek1] at hF
    obtain ⟨e1, e2⟩ := some_2 hF
    rw [← e1, ← e2] at hE
    exact g_iret h 75 dX8_store_75 hE rfl rfl ⟨(Nat.le_of_ble_eq_true rfl), (Nat.le_of_ble_eq_true rfl)⟩
  refine g_aload_nq h 0 dX8_store_0 rfl rfl ?_
  refine G_typ fun hT_s => ?_
  have t1 : 0 ≤ s 102 0 ∧ s 102 0 ≤ 6 := hT_s.2 102 0
  suffices J2 : ∀ v2 : Int, v2 = (if ((0 ≤ a_p) ∧ (a_p ≤ 1)) ∧ ((0 ≤ a_s) ∧ (a_s ≤ (s 102 0) - 1)) then 1 else 0 : Int) → G X 0 0 23 [(11, 0), (0, a_p), (0, a_s), (0, a_a), (0, a_v)] [(0, v2), (11, 0)] (m, s) by
    have J3 : ((0 ≤ a_p) ∧ (a_p ≤ 1)) ∧ ((0 ≤ a_s) ∧ (a_s ≤ (s 102 0) - 1)) → G X 0 0 18 [(11, 0), (0, a_p), (0, a_s), (0, a_a), (0, a_v)] [(11, 0)] (m, s) := by
      intro h3
      refine g_iconst h 18 dX8_store_18 ?_
      refine g_goto h 19 23 dX8_store_19 (by decide) ?_
      exact J2 _ (if_pos h3).symm
    have J4 : ¬ (((0 ≤ a_p) ∧ (a_p ≤ 1)) ∧ ((0 ≤ a_s) ∧ (a_s ≤ (s 102 0) - 1))) → G X 0 0 22 [(11, 0), (0, a_p), (0, a_s), (0, a_a), (0, a_v)] [(11, 0)] (m, s) := by
      intro h4
      refine g_iconst h 22 dX8_store_22 ?_
      exact J2 _ (if_neg h4).symm
    refine g_iload_n h 1 dX8_store_1 rfl ?_
    refine g_iconst h 2 dX8_store_2 ?_
    refine g_iconst h 3 dX8_store_3 ?_
    refine g_callS h hE 4 dX8_store_4 (cpX8_in (a_v := a_p) (a_low := 0) (a_high := 1) hl (by omega) (by omega) (by omega)) mwX8_in kw_1142 rfl (Nat.le_of_ble_eq_true rfl) rfl (Nat.le_of_ble_eq_true rfl) ⟨Nat.le_of_ble_eq_true rfl, Nat.le_of_ble_eq_true rfl⟩ rfl rfl ?_
    show G X 0 0 7 [(11, 0), (0, a_p), (0, a_s), (0, a_a), (0, a_v)] [(0, (if (0 ≤ a_p) ∧ (a_p ≤ 1) then 1 else 0 : Int)), (11, 0)] (m, s)
    refine g_if_eq h 7 22 (gRi gR_ite) dX8_store_7 (by decide) (fun h1 => ?_) (fun h1 => ?_)
    · exact J4 (fun q => (iz_f h1) q.1)
    · refine g_aload_nq h 10 dX8_store_10 rfl rfl ?_
      refine g_iload_n h 11 dX8_store_11 rfl ?_
      refine g_callV h hE 12 dX8_store_12 (cpX8_isSpace (a_s := a_s) hl (by omega)) mwX8_isSpace kw_1156 (by decide) (by decide) rfl (Nat.le_of_ble_eq_true rfl) rfl (Nat.le_of_ble_eq_true rfl) ⟨Nat.le_of_ble_eq_true rfl, Nat.le_of_ble_eq_true rfl⟩ rfl rfl ?_
      show G X 0 0 15 [(11, 0), (0, a_p), (0, a_s), (0, a_a), (0, a_v)] [(0, (if (0 ≤ a_s) ∧ (a_s ≤ (s 102 0) - 1) then 1 else 0 : Int)), (11, 0)] (m, s)
      refine g_if_eq h 15 22 (gRi gR_ite) dX8_store_15 (by decide) (fun h2 => ?_) (fun h2 => ?_)
      · exact J4 (fun q => (iz_f h2) q.2)
      · exact J3 ⟨(iz_t h1), (iz_t h2)⟩
  intro v2 e1
  subst e1
  suffices J5 : ∀ v3 : Int, v3 = (if ((0 ≤ a_a) ∧ (a_a ≤ 31)) ∧ ((0 ≤ a_v) ∧ (a_v ≤ 99999)) then 1 else 0 : Int) → G X 0 0 50 [(11, 0), (0, a_p), (0, a_s), (0, a_a), (0, a_v)] [(0, v3), (0, (if ((0 ≤ a_p) ∧ (a_p ≤ 1)) ∧ ((0 ≤ a_s) ∧ (a_s ≤ (s 102 0) - 1)) then 1 else 0 : Int)), (11, 0)] (m, s) by
    have J6 : ((0 ≤ a_a) ∧ (a_a ≤ 31)) ∧ ((0 ≤ a_v) ∧ (a_v ≤ 99999)) → G X 0 0 45 [(11, 0), (0, a_p), (0, a_s), (0, a_a), (0, a_v)] [(0, (if ((0 ≤ a_p) ∧ (a_p ≤ 1)) ∧ ((0 ≤ a_s) ∧ (a_s ≤ (s 102 0) - 1)) then 1 else 0 : Int)), (11, 0)] (m, s) := by
      intro h7
      refine g_iconst h 45 dX8_store_45 ?_
      refine g_goto h 46 50 dX8_store_46 (by decide) ?_
      exact J5 _ (if_pos h7).symm
    have J7 : ¬ (((0 ≤ a_a) ∧ (a_a ≤ 31)) ∧ ((0 ≤ a_v) ∧ (a_v ≤ 99999))) → G X 0 0 49 [(11, 0), (0, a_p), (0, a_s), (0, a_a), (0, a_v)] [(0, (if ((0 ≤ a_p) ∧ (a_p ≤ 1)) ∧ ((0 ≤ a_s) ∧ (a_s ≤ (s 102 0) - 1)) then 1 else 0 : Int)), (11, 0)] (m, s) := by
      intro h8
      refine g_iconst h 49 dX8_store_49 ?_
      exact J5 _ (if_neg h8).symm
    refine g_iload_n h 23 dX8_store_23 rfl ?_
    refine g_iconst h 24 dX8_store_24 ?_
    refine g_bipush h 25 dX8_store_25 (by decide) ?_
    refine g_callS h hE 27 dX8_store_27 (cpX8_in (a_v := a_a) (a_low := 0) (a_high := 31) hl (by omega) (by omega) (by omega)) mwX8_in kw_1142 rfl (Nat.le_of_ble_eq_true rfl) rfl (Nat.le_of_ble_eq_true rfl) ⟨Nat.le_of_ble_eq_true rfl, Nat.le_of_ble_eq_true rfl⟩ rfl rfl ?_
    show G X 0 0 30 [(11, 0), (0, a_p), (0, a_s), (0, a_a), (0, a_v)] [(0, (if (0 ≤ a_a) ∧ (a_a ≤ 31) then 1 else 0 : Int)), (0, (if ((0 ≤ a_p) ∧ (a_p ≤ 1)) ∧ ((0 ≤ a_s) ∧ (a_s ≤ (s 102 0) - 1)) then 1 else 0 : Int)), (11, 0)] (m, s)
    refine g_if_eq h 30 49 (gRi gR_ite) dX8_store_30 (by decide) (fun h5 => ?_) (fun h5 => ?_)
    · exact J7 (fun q => (iz_f h5) q.1)
    · refine g_iload h 33 dX8_store_33 rfl ?_
      refine g_iconst h 35 dX8_store_35 ?_
      refine g_ldcw h 36 (n := 99999) dX8_store_36 kw_1376 (by decide) ?_
      refine g_callS h hE 39 dX8_store_39 (cpX8_in (a_v := a_v) (a_low := 0) (a_high := 99999) hl (by omega) (by omega) (by omega)) mwX8_in kw_1142 rfl (Nat.le_of_ble_eq_true rfl) rfl (Nat.le_of_ble_eq_true rfl) ⟨Nat.le_of_ble_eq_true rfl, Nat.le_of_ble_eq_true rfl⟩ rfl rfl ?_
      show G X 0 0 42 [(11, 0), (0, a_p), (0, a_s), (0, a_a), (0, a_v)] [(0, (if (0 ≤ a_v) ∧ (a_v ≤ 99999) then 1 else 0 : Int)), (0, (if ((0 ≤ a_p) ∧ (a_p ≤ 1)) ∧ ((0 ≤ a_s) ∧ (a_s ≤ (s 102 0) - 1)) then 1 else 0 : Int)), (11, 0)] (m, s)
      refine g_if_eq h 42 49 (gRi gR_ite) dX8_store_42 (by decide) (fun h6 => ?_) (fun h6 => ?_)
      · exact J7 (fun q => (iz_f h6) q.2)
      · exact J6 ⟨(iz_t h5), (iz_t h6)⟩
  intro v3 e2
  subst e2
  have t2 : 0 ≤ s 106 a_s ∧ s 106 a_s ≤ 1 := hT_s.2 106 a_s
  refine g_aload_nq h 50 dX8_store_50 rfl rfl ?_
  refine g_iload_n h 51 dX8_store_51 rfl ?_
  refine g_callV h hE 52 dX8_store_52 (cpX8_isAlive (a_s := a_s) hl (by omega)) mwX8_isAlive kw_1160 (by decide) (by decide) rfl (Nat.le_of_ble_eq_true rfl) rfl (Nat.le_of_ble_eq_true rfl) ⟨Nat.le_of_ble_eq_true rfl, Nat.le_of_ble_eq_true rfl⟩ rfl rfl ?_
  show G X 0 0 55 [(11, 0), (0, a_p), (0, a_s), (0, a_a), (0, a_v)] [(0, (if ((0 ≤ a_s) ∧ (a_s ≤ (s 102 0) - 1)) ∧ (s 106 a_s ≠ 0) then 1 else 0 : Int)), (0, (if ((0 ≤ a_a) ∧ (a_a ≤ 31)) ∧ ((0 ≤ a_v) ∧ (a_v ≤ 99999)) then 1 else 0 : Int)), (0, (if ((0 ≤ a_p) ∧ (a_p ≤ 1)) ∧ ((0 ≤ a_s) ∧ (a_s ≤ (s 102 0) - 1)) then 1 else 0 : Int)), (11, 0)] (m, s)
  obtain ⟨r1, s2, c1, hF⟩ := cb_some hF
  have t3 : 0 ≤ r1 ∧ r1 ≤ 1 := rgX8_asked__ c1
  refine g_callV h hE 55 dX8_store_55 (ctX8_asked__ hl c1) mwX8_asked__ kw_1168 (by decide) (by decide) rfl (Nat.le_of_ble_eq_true rfl) rfl (Nat.le_of_ble_eq_true rfl) ⟨Nat.le_of_ble_eq_true rfl, Nat.le_of_ble_eq_true rfl⟩ rfl rfl ?_
  show G X 0 0 58 [(11, 0), (0, a_p), (0, a_s), (0, a_a), (0, a_v)] [(0, r1)] (m, s2)
  refine g_if_eq h 58 74 (gRi (by omega)) dX8_store_58 (by decide) (fun h9 => ?_) (fun h9 => ?_)
  · have hF := ite_f (fun q => q h9) hF
    refine g_iconst h 74 dX8_store_74 ?_
    exact J1 _ _ (by omega) hF
  · have hF := ite_t h9 hF
    refine g_aload_nq h 61 dX8_store_61 rfl rfl ?_
    refine g_iload_n h 62 dX8_store_62 rfl ?_
    refine g_iload_n h 63 dX8_store_63 rfl ?_
    refine g_iload_n h 64 dX8_store_64 rfl ?_
    refine g_iconst h 65 dX8_store_65 ?_
    refine g_iload h 66 dX8_store_66 rfl ?_
    obtain ⟨r2, s3, c2, hF⟩ := cb_some hF
    have t4 : (-2147483648) ≤ r2 ∧ r2 ≤ 2147483647 := rgX8_access c2
    refine g_callV h hE 68 dX8_store_68 (ctX8_access hl c2) mwX8_access kw_1276 (by decide) (by decide) rfl (Nat.le_of_ble_eq_true rfl) rfl (Nat.le_of_ble_eq_true rfl) ⟨Nat.le_of_ble_eq_true rfl, Nat.le_of_ble_eq_true rfl⟩ rfl rfl ?_
    show G X 0 0 71 [(11, 0), (0, a_p), (0, a_s), (0, a_a), (0, a_v)] [(0, r2)] (m, s3)
    refine g_goto h 71 75 dX8_store_71 (by decide) ?_
    exact J1 _ _ (by omega) hF
