-- Pagewright$Cache.dismiss
def FX0_dismiss (a_this a_place : Int) (s : S2) : Option (Int × S2) :=
  gd (0 ≤ a_this ∧ a_this ≤ 1) <| gd (0 ≤ a_place ∧ a_place ≤ 3) <| if ((a_place < 0) ∨ (s 1 a_this ≤ a_place)) ∨ (4 < s 1 a_this) then some (0, s) else gl1 1000 (fun k1 (x_i1 : Int) (s1 : S2) => if (x_i1 < (s1 1 a_this) - 1) ∧ (x_i1 < 3) then bn (upd2 s1 50 (4 * a_this + x_i1) (s1 50 (4 * a_this + (x_i1 + 1)))) fun s2 => k1 (x_i1 + 1) s2 else gd (0 ≤ (s1 1 a_this) - 1 ∧ (s1 1 a_this) - 1 ≤ 4) <| bn (upd2 s1 1 a_this ((s1 1 a_this) - 1)) fun s3 => gd (0 ≤ s3 1 a_this ∧ s3 1 a_this ≤ 3) <| bn (upd2 s3 50 (4 * a_this + (s3 1 a_this)) (s 50 (4 * a_this + a_place))) fun s4 => some (0, s4)) a_place s
set_option maxRecDepth 100000 in
set_option maxHeartbeats 4000000 in
theorem ctX0_dismiss {l : Launch} {w : gW} {bs : Nat} (hl : l.stackTraces = false) {a_this a_place : Int} {s m s0 : S2} {r0 : Int} (hF : FX0_dismiss a_this a_place s = some (r0, s0)) : gMet l w bs yX0_dismiss cX0_dismiss 4 none 0 0 [(3, a_this), (0, a_place)] (s, m) 0 none (s0, m) := by
  unfold FX0_dismiss at hF
  obtain ⟨q_a_this, hF⟩ := gd_some hF
  obtain ⟨q_a_place, hF⟩ := gd_some hF
  refine g_start hl (by decide) (Nat.le_of_ble_eq_true rfl) rfl fun X h hE => ?_
  have h : gOk X "Pagewright$Cache" cX0_dismiss 4 0 0 0 := h
  have hE : gEnd X l w bs 0 none 0 none (s0, m) := hE
  show G X 0 0 0 [(3, a_this), (0, a_place), (1, 0), (1, 0)] [] (s, m)
  refine G_typ fun hT_s => ?_
  have t1 : 0 ≤ s 1 a_this ∧ s 1 a_this ≤ 4 := hT_s.1 1 a_this
  have J1 : ((a_place < 0) ∨ (s 1 a_this ≤ a_place)) ∨ (4 < s 1 a_this) → G X 0 0 20 [(3, a_this), (0, a_place), (1, 0), (1, 0)] [] (s, m) := by
    intro h4
    have hF := ite_t h4 hF
    obtain ⟨e1, e2⟩ := some_2 hF
    rw [← e2] at hE
    exact g_vret h 20 dX0_dismiss_20 hE rfl ⟨(Nat.le_of_ble_eq_true rfl), (Nat.le_of_ble_eq_true rfl)⟩
  have J2 : ¬ (((a_place < 0) ∨ (s 1 a_this ≤ a_place)) ∨ (4 < s 1 a_this)) → G X 0 0 21 [(3, a_this), (0, a_place), (1, 0), (1, 0)] [] (s, m) := by
    intro h5
    have hF := ite_f h5 hF
    have t2 : 0 ≤ s 50 (4 * a_this + a_place) ∧ s 50 (4 * a_this + a_place) ≤ 7 := hT_s.1 50 (4 * a_this + a_place)
    refine g_aload_nq h 21 dX0_dismiss_21 rfl rfl ?_
    refine gf_Cache_all h 22 dX0_dismiss_22 kw_352 (by omega) ?_
    refine g_iload_n h 25 dX0_dismiss_25 rfl ?_
    refine al_Cache_all h 26 dX0_dismiss_26 (by omega) (by omega) ?_
    refine g_astore_n h 27 dX0_dismiss_27 (Nat.le_of_ble_eq_true rfl) rfl (L' := [(3, a_this), (0, a_place), (9, s 50 (4 * a_this + a_place)), (1, 0)]) rfl ?_
    refine g_iload_n h 28 dX0_dismiss_28 rfl ?_
    refine g_istore_n h 29 dX0_dismiss_29 (Nat.le_of_ble_eq_true rfl) rfl (L' := [(3, a_this), (0, a_place), (9, s 50 (4 * a_this + a_place)), (0, a_place)]) rfl ?_
    obtain ⟨f1, ef1, hF⟩ := glx1 hF
    have J6 : ∀ (n1 : Nat) (x_i1 : Int) (s1 : S2), (0 ≤ x_i1 ∧ x_i1 ≤ 3) → gl1 n1 f1 x_i1 s1 = some (r0, s0) → G X 0 0 30 [(3, a_this), (0, a_place), (9, s 50 (4 * a_this + a_place)), (0, x_i1)] [] (s1, m) := by
      intro n1
      induction n1 with
      | zero => intro x_i1 s1 _ hF; exact (gl1_0 hF).elim
      | succ n1 ih1 =>
        intro x_i1 s1 q1 hF
        obtain ⟨k1, ek1, hF⟩ := glu1 hF ef1
        refine G_typ fun hT_s1 => ?_
        have t3 : 0 ≤ s1 1 a_this ∧ s1 1 a_this ≤ 4 := hT_s1.1 1 a_this
        have J4 : (x_i1 < (s1 1 a_this) - 1) ∧ (x_i1 < 3) → G X 0 0 45 [(3, a_this), (0, a_place), (9, s 50 (4 * a_this + a_place)), (0, x_i1)] [] (s1, m) := by
          intro h8
          have hF := ite_t h8 hF
          refine g_aload_nq h 45 dX0_dismiss_45 rfl rfl ?_
          refine gf_Cache_all h 46 dX0_dismiss_46 kw_352 (by omega) ?_
          refine g_iload_n h 49 dX0_dismiss_49 rfl ?_
          have t4 : 0 ≤ s1 50 (4 * a_this + (x_i1 + 1)) ∧ s1 50 (4 * a_this + (x_i1 + 1)) ≤ 7 := hT_s1.1 50 (4 * a_this + (x_i1 + 1))
          refine g_aload_nq h 50 dX0_dismiss_50 rfl rfl ?_
          refine gf_Cache_all h 51 dX0_dismiss_51 kw_352 (by omega) ?_
          refine g_iload_n h 54 dX0_dismiss_54 rfl ?_
          refine g_iconst h 55 dX0_dismiss_55 ?_
          refine g_iadd h 56 dX0_dismiss_56 ?_
          refine al_Cache_all h 57 dX0_dismiss_57 (by omega) (by omega) ?_
          obtain ⟨s2, es2, hF⟩ := bn_ex hF
          refine as_Cache_all h 58 dX0_dismiss_58 (by omega) (by omega) (by omega) ?_
          rw [← es2]
          refine g_iinc h 59 dX0_dismiss_59 rfl rfl (L' := [(3, a_this), (0, a_place), (9, s 50 (4 * a_this + a_place)), (0, x_i1 + 1)]) rfl ?_
          refine g_goto h 62 30 dX0_dismiss_62 (by decide) ?_
          rw [ek1] at hF
          exact ih1 _ _ (by omega) hF
        have J5 : ¬ ((x_i1 < (s1 1 a_this) - 1) ∧ (x_i1 < 3)) → G X 0 0 65 [(3, a_this), (0, a_place), (9, s 50 (4 * a_this + a_place)), (0, x_i1)] [] (s1, m) := by
          intro h9
          have hF := ite_f h9 hF
          refine g_aload_nq h 65 dX0_dismiss_65 rfl rfl ?_
          refine g_dup h 66 dX0_dismiss_66 (show (3 : Nat) ≠ 2 by decide) ?_
          refine gf_Cache_size h 67 dX0_dismiss_67 kw_353 (by omega) ?_
          refine g_iconst h 70 dX0_dismiss_70 ?_
          refine g_isub h 71 dX0_dismiss_71 ?_
          obtain ⟨q2, hF⟩ := gd_some hF
          obtain ⟨s3, es3, hF⟩ := bn_ex hF
          refine pf_Cache_size h 72 dX0_dismiss_72 kw_353 (by omega) (by omega) ?_
          rw [← es3]
          refine g_aload_nq h 75 dX0_dismiss_75 rfl rfl ?_
          refine gf_Cache_all h 76 dX0_dismiss_76 kw_352 (by omega) ?_
          refine G_typ fun hT_s3 => ?_
          have t5 : 0 ≤ s3 1 a_this ∧ s3 1 a_this ≤ 4 := hT_s3.1 1 a_this
          refine g_aload_nq h 79 dX0_dismiss_79 rfl rfl ?_
          refine gf_Cache_size h 80 dX0_dismiss_80 kw_353 (by omega) ?_
          obtain ⟨q3, hF⟩ := gd_some hF
          refine g_aload_nq h 83 dX0_dismiss_83 rfl rfl ?_
          obtain ⟨s4, es4, hF⟩ := bn_ex hF
          refine as_Cache_all h 84 dX0_dismiss_84 (by omega) (by omega) (by omega) ?_
          rw [← es4]
          obtain ⟨e1, e2⟩ := some_2 hF
          rw [← e2] at hE
          exact g_vret h 85 dX0_dismiss_85 hE rfl ⟨(Nat.le_of_ble_eq_true rfl), (Nat.le_of_ble_eq_true rfl)⟩
        refine g_iload_n h 30 dX0_dismiss_30 rfl ?_
        refine g_aload_nq h 31 dX0_dismiss_31 rfl rfl ?_
        refine gf_Cache_size h 32 dX0_dismiss_32 kw_353 (by omega) ?_
        refine g_iconst h 35 dX0_dismiss_35 ?_
        refine g_isub h 36 dX0_dismiss_36 ?_
        refine g_icmp_ge h 37 65 (gRi (by omega)) (gRi (by omega)) dX0_dismiss_37 (by decide) (fun h6 => ?_) (fun h6 => ?_)
        · exact J5 (fun q => (Int.not_lt.mpr h6) q.1)
        · refine g_iload_n h 40 dX0_dismiss_40 rfl ?_
          refine g_iconst h 41 dX0_dismiss_41 ?_
          refine g_icmp_ge h 42 65 (gRi (by omega)) (gRi (by omega)) dX0_dismiss_42 (by decide) (fun h7 => ?_) (fun h7 => ?_)
          · exact J5 (fun q => (Int.not_lt.mpr h7) q.2)
          · exact J4 ⟨h6, h7⟩
    exact J6 _ _ _ (by omega) hF
  refine g_iload_n h 0 dX0_dismiss_0 rfl ?_
  refine g_if_lt h 1 20 (gRi (by omega)) dX0_dismiss_1 (by decide) (fun h1 => ?_) (fun h1 => ?_)
  · exact J1 (Or.inl (Or.inl h1))
  · refine g_iload_n h 4 dX0_dismiss_4 rfl ?_
    refine g_aload_nq h 5 dX0_dismiss_5 rfl rfl ?_
    refine gf_Cache_size h 6 dX0_dismiss_6 kw_353 (by omega) ?_
    refine g_icmp_ge h 9 20 (gRi (by omega)) (gRi (by omega)) dX0_dismiss_9 (by decide) (fun h2 => ?_) (fun h2 => ?_)
    · exact J1 (Or.inl (Or.inr h2))
    · refine g_aload_nq h 12 dX0_dismiss_12 rfl rfl ?_
      refine gf_Cache_size h 13 dX0_dismiss_13 kw_353 (by omega) ?_
      refine g_iconst h 16 dX0_dismiss_16 ?_
      refine g_icmp_le h 17 21 (gRi (by omega)) (gRi (by omega)) dX0_dismiss_17 (by decide) (fun h3 => ?_) (fun h3 => ?_)
      · exact J2 (fun q => q.elim (fun q => q.elim (Int.not_lt.mpr h1) (Int.not_le.mpr h2)) (Int.not_lt.mpr h3))
      · exact J1 (Or.inr h3)
-- Pagewright$Cache.holds
def FX0_holds (a_this a_frame : Int) (s : S2) : Option (Int × S2) :=
  rgd 0 1 <| gd (0 ≤ a_this ∧ a_this ≤ 1) <| gd (0 ≤ a_frame ∧ a_frame ≤ 23) <| gl1 1000 (fun k1 (x_i1 : Int) (s1 : S2) => if (x_i1 < s1 1 a_this) ∧ (x_i1 < 4) then if s1 38 (s1 50 (4 * a_this + x_i1)) = a_frame then some (1, s1) else k1 (x_i1 + 1) s1 else some (0, s1)) 0 s
theorem rgX0_holds {a_this a_frame : Int} {s s0 : S2} {r0 : Int} (hF : FX0_holds a_this a_frame s = some (r0, s0)) : 0 ≤ r0 ∧ r0 ≤ 1 := (rgd_some hF).2
set_option maxRecDepth 100000 in
set_option maxHeartbeats 4000000 in
theorem ctX0_holds {l : Launch} {w : gW} {bs : Nat} (hl : l.stackTraces = false) {a_this a_frame : Int} {s m s0 : S2} {r0 : Int} (hF : FX0_holds a_this a_frame s = some (r0, s0)) : gMet l w bs yX0_holds cX0_holds 3 (some FieldType.boolean) 0 0 [(3, a_this), (0, a_frame)] (s, m) 0 (some (0, r0)) (s0, m) := by
  unfold FX0_holds at hF
  obtain ⟨hF, hr⟩ := rgd_some hF
  obtain ⟨q_a_this, hF⟩ := gd_some hF
  obtain ⟨q_a_frame, hF⟩ := gd_some hF
  refine g_start hl (by decide) (Nat.le_of_ble_eq_true rfl) rfl fun X h hE => ?_
  have h : gOk X "Pagewright$Cache" cX0_holds 3 0 0 0 := h
  have hE : gEnd X l w bs 0 (some FieldType.boolean) 0 (some (0, r0)) (s0, m) := hE
  show G X 0 0 0 [(3, a_this), (0, a_frame), (1, 0)] [] (s, m)
  refine g_iconst h 0 dX0_holds_0 ?_
  refine g_istore_n h 1 dX0_holds_1 (Nat.le_of_ble_eq_true rfl) rfl (L' := [(3, a_this), (0, a_frame), (0, 0)]) rfl ?_
  obtain ⟨f1, ef1, hF⟩ := glx1 hF
  have J6 : ∀ (n1 : Nat) (x_i1 : Int) (s1 : S2), (0 ≤ x_i1 ∧ x_i1 ≤ 4) → gl1 n1 f1 x_i1 s1 = some (r0, s0) → G X 0 0 2 [(3, a_this), (0, a_frame), (0, x_i1)] [] (s1, m) := by
    intro n1
    induction n1 with
    | zero => intro x_i1 s1 _ hF; exact (gl1_0 hF).elim
    | succ n1 ih1 =>
      intro x_i1 s1 q1 hF
      obtain ⟨k1, ek1, hF⟩ := glu1 hF ef1
      refine G_typ fun hT_s1 => ?_
      have t1 : 0 ≤ s1 1 a_this ∧ s1 1 a_this ≤ 4 := hT_s1.1 1 a_this
      have J2 : (x_i1 < s1 1 a_this) ∧ (x_i1 < 4) → G X 0 0 15 [(3, a_this), (0, a_frame), (0, x_i1)] [] (s1, m) := by
        intro h3
        have hF := ite_t h3 hF
        have t2 : 0 ≤ s1 50 (4 * a_this + x_i1) ∧ s1 50 (4 * a_this + x_i1) ≤ 7 := hT_s1.1 50 (4 * a_this + x_i1)
        have t3 : 0 ≤ s1 38 (s1 50 (4 * a_this + x_i1)) ∧ s1 38 (s1 50 (4 * a_this + x_i1)) ≤ 23 := hT_s1.1 38 (s1 50 (4 * a_this + x_i1))
        have J4 : s1 38 (s1 50 (4 * a_this + x_i1)) = a_frame → G X 0 0 28 [(3, a_this), (0, a_frame), (0, x_i1)] [] (s1, m) := by
          intro h5
          have hF := ite_t h5 hF
          refine g_iconst h 28 dX0_holds_28 ?_
          obtain ⟨e1, e2⟩ := some_2 hF
          rw [← e1, ← e2] at hE
          exact g_iret h 29 dX0_holds_29 hE rfl (g_nb (by rw [← e1] at hr; exact hr)) ⟨(Nat.le_of_ble_eq_true rfl), (Nat.le_of_ble_eq_true rfl)⟩
        have J5 : ¬ (s1 38 (s1 50 (4 * a_this + x_i1)) = a_frame) → G X 0 0 30 [(3, a_this), (0, a_frame), (0, x_i1)] [] (s1, m) := by
          intro h6
          have hF := ite_f h6 hF
          refine g_iinc h 30 dX0_holds_30 rfl rfl (L' := [(3, a_this), (0, a_frame), (0, x_i1 + 1)]) rfl ?_
          refine g_goto h 33 2 dX0_holds_33 (by decide) ?_
          rw [ek1] at hF
          exact ih1 _ _ (by omega) hF
        refine g_aload_nq h 15 dX0_holds_15 rfl rfl ?_
        refine gf_Cache_all h 16 dX0_holds_16 kw_352 (by omega) ?_
        refine g_iload_n h 19 dX0_holds_19 rfl ?_
        refine al_Cache_all h 20 dX0_holds_20 (by omega) (by omega) ?_
        refine gf_Translation_frame h 21 dX0_holds_21 kw_342 (by omega) ?_
        refine g_iload_n h 24 dX0_holds_24 rfl ?_
        refine g_icmp_ne h 25 30 (gRi (by omega)) (gRi (by omega)) dX0_holds_25 (by decide) (fun h4 => ?_) (fun h4 => ?_)
        · exact J5 h4
        · exact J4 h4
      have J3 : ¬ ((x_i1 < s1 1 a_this) ∧ (x_i1 < 4)) → G X 0 0 36 [(3, a_this), (0, a_frame), (0, x_i1)] [] (s1, m) := by
        intro h7
        have hF := ite_f h7 hF
        refine g_iconst h 36 dX0_holds_36 ?_
        obtain ⟨e1, e2⟩ := some_2 hF
        rw [← e1, ← e2] at hE
        exact g_iret h 37 dX0_holds_37 hE rfl (g_nb (by rw [← e1] at hr; exact hr)) ⟨(Nat.le_of_ble_eq_true rfl), (Nat.le_of_ble_eq_true rfl)⟩
      refine g_iload_n h 2 dX0_holds_2 rfl ?_
      refine g_aload_nq h 3 dX0_holds_3 rfl rfl ?_
      refine gf_Cache_size h 4 dX0_holds_4 kw_353 (by omega) ?_
      refine g_icmp_ge h 7 36 (gRi (by omega)) (gRi (by omega)) dX0_holds_7 (by decide) (fun h1 => ?_) (fun h1 => ?_)
      · exact J3 (fun q => (Int.not_lt.mpr h1) q.1)
      · refine g_iload_n h 10 dX0_holds_10 rfl ?_
        refine g_iconst h 11 dX0_holds_11 ?_
        refine g_icmp_ge h 12 36 (gRi (by omega)) (gRi (by omega)) dX0_holds_12 (by decide) (fun h2 => ?_) (fun h2 => ?_)
        · exact J3 (fun q => (Int.not_lt.mpr h2) q.2)
        · exact J2 ⟨h1, h2⟩
  exact J6 _ _ _ (by omega) hF
-- Pagewright$Cache.isTold
set_option maxRecDepth 100000 in
theorem cpX0_isTold {l : Launch} {w : gW} {bs : Nat} (hl : l.stackTraces = false) {a_this a_entry : Int} {s m : S2} (q_a_this : 0 ≤ a_this ∧ a_this ≤ 1) (q_a_entry : (-1) ≤ a_entry ∧ a_entry ≤ 191) : gMet l w bs yX0_isTold cX0_isTold 2 (some FieldType.boolean) 0 0 [(3, a_this), (4, a_entry)] (s, m) 0 (some (0, (if (0 ≤ a_entry) ∧ (gAnd (s 14 a_entry) (a_this + 1) ≠ 0) then 1 else 0 : Int))) (s, m) := by
  refine g_start hl (by decide) (Nat.le_of_ble_eq_true rfl) rfl fun X h hE => ?_
  have h : gOk X "Pagewright$Cache" cX0_isTold 2 0 0 0 := h
  show G X 0 0 0 [(3, a_this), (4, a_entry)] [] (s, m)
  refine G_typ fun hT_s => ?_
  have t1 : 0 ≤ s 14 a_entry ∧ s 14 a_entry ≤ 3 := hT_s.1 14 a_entry
  have t2 : 0 ≤ gAnd (s 14 a_entry) (a_this + 1) ∧ gAnd (s 14 a_entry) (a_this + 1) ≤ 3 := gAnd_03 (by omega)
  suffices J1 : ∀ v1 : Int, v1 = (if (0 ≤ a_entry) ∧ (gAnd (s 14 a_entry) (a_this + 1) ≠ 0) then 1 else 0 : Int) → G X 0 0 21 [(3, a_this), (4, a_entry)] [(0, v1)] (s, m) by
    have J2 : (0 ≤ a_entry) ∧ (gAnd (s 14 a_entry) (a_this + 1) ≠ 0) → G X 0 0 16 [(3, a_this), (4, a_entry)] [] (s, m) := by
      intro h3
      refine g_iconst h 16 dX0_isTold_16 ?_
      refine g_goto h 17 21 dX0_isTold_17 (by decide) ?_
      exact J1 _ (if_pos h3).symm
    have J3 : ¬ ((0 ≤ a_entry) ∧ (gAnd (s 14 a_entry) (a_this + 1) ≠ 0)) → G X 0 0 20 [(3, a_this), (4, a_entry)] [] (s, m) := by
      intro h4
      refine g_iconst h 20 dX0_isTold_20 ?_
      exact J1 _ (if_neg h4).symm
    refine g_aload_nq h 0 dX0_isTold_0 rfl rfl ?_
    refine g_ifnull h 1 20 dX0_isTold_1 (by decide) (fun h1 => ?_) (fun h1 => ?_)
    · exact J3 (fun q => (Int.not_le.mpr h1) q.1)
    · refine g_aload_nq h 4 dX0_isTold_4 rfl rfl ?_
      refine gf_Entry_told h 5 dX0_isTold_5 kw_222 (by omega) ?_
      refine g_aload_nq h 8 dX0_isTold_8 rfl rfl ?_
      refine gf_Cache_bit h 9 dX0_isTold_9 kw_351 (by omega) ?_
      refine g_iand h 12 dX0_isTold_12 ?_
      refine g_if_eq h 13 20 (gRi (by omega)) dX0_isTold_13 (by decide) (fun h2 => ?_) (fun h2 => ?_)
      · exact J3 (fun q => (fun q => q h2) q.2)
      · exact J2 ⟨h1, h2⟩
  intro v1 e1
  subst e1
  exact g_iret h 21 dX0_isTold_21 hE rfl (g_nb (by first | omega | (split <;> decide))) ⟨(Nat.le_of_ble_eq_true rfl), (Nat.le_of_ble_eq_true rfl)⟩
-- Pagewright$Cache.serves
def FX0_serves (a_this a_entry a_storing : Int) (s : S2) : Option (Int × S2) :=
  rgd 0 1 <| gd (0 ≤ a_this ∧ a_this ≤ 1) <| gd (0 ≤ a_entry ∧ a_entry ≤ 191) <| gd (0 ≤ a_storing ∧ a_storing ≤ 1) <| gl1 1000 (fun k1 (x_i1 : Int) (s1 : S2) => if (x_i1 < s1 1 a_this) ∧ (x_i1 < 4) then if s1 37 (s1 50 (4 * a_this + x_i1)) = a_entry then some ((if (¬ (a_storing ≠ 0)) ∨ (s1 39 (s1 50 (4 * a_this + x_i1)) ≠ 0) then 1 else 0 : Int), s1) else k1 (x_i1 + 1) s1 else some (0, s1)) 0 s
theorem rgX0_serves {a_this a_entry a_storing : Int} {s s0 : S2} {r0 : Int} (hF : FX0_serves a_this a_entry a_storing s = some (r0, s0)) : 0 ≤ r0 ∧ r0 ≤ 1 := (rgd_some hF).2
set_option maxRecDepth 100000 in
set_option maxHeartbeats 4000000 in
theorem ctX0_serves {l : Launch} {w : gW} {bs : Nat} (hl : l.stackTraces = false) {a_this a_entry a_storing : Int} {s m s0 : S2} {r0 : Int} (hF : FX0_serves a_this a_entry a_storing s = some (r0, s0)) : gMet l w bs yX0_serves cX0_serves 4 (some FieldType.boolean) 0 0 [(3, a_this), (4, a_entry), (0, a_storing)] (s, m) 0 (some (0, r0)) (s0, m) := by
  unfold FX0_serves at hF
  obtain ⟨hF, hr⟩ := rgd_some hF
  obtain ⟨q_a_this, hF⟩ := gd_some hF
  obtain ⟨q_a_entry, hF⟩ := gd_some hF
  obtain ⟨q_a_storing, hF⟩ := gd_some hF
  refine g_start hl (by decide) (Nat.le_of_ble_eq_true rfl) rfl fun X h hE => ?_
  have h : gOk X "Pagewright$Cache" cX0_serves 4 0 0 0 := h
  have hE : gEnd X l w bs 0 (some FieldType.boolean) 0 (some (0, r0)) (s0, m) := hE
  show G X 0 0 0 [(3, a_this), (4, a_entry), (0, a_storing), (1, 0)] [] (s, m)
  refine g_iconst h 0 dX0_serves_0 ?_
  refine g_istore_n h 1 dX0_serves_1 (Nat.le_of_ble_eq_true rfl) rfl (L' := [(3, a_this), (4, a_entry), (0, a_storing), (0, 0)]) rfl ?_
  obtain ⟨f1, ef1, hF⟩ := glx1 hF
  have J9 : ∀ (n1 : Nat) (x_i1 : Int) (s1 : S2), (0 ≤ x_i1 ∧ x_i1 ≤ 4) → gl1 n1 f1 x_i1 s1 = some (r0, s0) → G X 0 0 2 [(3, a_this), (4, a_entry), (0, a_storing), (0, x_i1)] [] (s1, m) := by
    intro n1
    induction n1 with
    | zero => intro x_i1 s1 _ hF; exact (gl1_0 hF).elim
    | succ n1 ih1 =>
      intro x_i1 s1 q1 hF
      obtain ⟨k1, ek1, hF⟩ := glu1 hF ef1
      refine G_typ fun hT_s1 => ?_
      have t1 : 0 ≤ s1 1 a_this ∧ s1 1 a_this ≤ 4 := hT_s1.1 1 a_this
      have J2 : (x_i1 < s1 1 a_this) ∧ (x_i1 < 4) → G X 0 0 15 [(3, a_this), (4, a_entry), (0, a_storing), (0, x_i1)] [] (s1, m) := by
        intro h3
        have hF := ite_t h3 hF
        have t2 : 0 ≤ s1 50 (4 * a_this + x_i1) ∧ s1 50 (4 * a_this + x_i1) ≤ 7 := hT_s1.1 50 (4 * a_this + x_i1)
        have t3 : (-1) ≤ s1 37 (s1 50 (4 * a_this + x_i1)) ∧ s1 37 (s1 50 (4 * a_this + x_i1)) ≤ 191 := hT_s1.1 37 (s1 50 (4 * a_this + x_i1))
        have J4 : s1 37 (s1 50 (4 * a_this + x_i1)) = a_entry → G X 0 0 28 [(3, a_this), (4, a_entry), (0, a_storing), (0, x_i1)] [] (s1, m) := by
          intro h5
          have hF := ite_t h5 hF
          have t4 : 0 ≤ s1 39 (s1 50 (4 * a_this + x_i1)) ∧ s1 39 (s1 50 (4 * a_this + x_i1)) ≤ 1 := hT_s1.1 39 (s1 50 (4 * a_this + x_i1))
          suffices J6 : ∀ v1 : Int, v1 = (if (¬ (a_storing ≠ 0)) ∨ (s1 39 (s1 50 (4 * a_this + x_i1)) ≠ 0) then 1 else 0 : Int) → G X 0 0 49 [(3, a_this), (4, a_entry), (0, a_storing), (0, x_i1)] [(0, v1)] (s1, m) by
            have J7 : (¬ (a_storing ≠ 0)) ∨ (s1 39 (s1 50 (4 * a_this + x_i1)) ≠ 0) → G X 0 0 44 [(3, a_this), (4, a_entry), (0, a_storing), (0, x_i1)] [] (s1, m) := by
              intro h8
              refine g_iconst h 44 dX0_serves_44 ?_
              refine g_goto h 45 49 dX0_serves_45 (by decide) ?_
              exact J6 _ (if_pos h8).symm
            have J8 : ¬ ((¬ (a_storing ≠ 0)) ∨ (s1 39 (s1 50 (4 * a_this + x_i1)) ≠ 0)) → G X 0 0 48 [(3, a_this), (4, a_entry), (0, a_storing), (0, x_i1)] [] (s1, m) := by
              intro h9
              refine g_iconst h 48 dX0_serves_48 ?_
              exact J6 _ (if_neg h9).symm
            refine g_iload_n h 28 dX0_serves_28 rfl ?_
            refine g_if_eq h 29 44 (gRi (by omega)) dX0_serves_29 (by decide) (fun h6 => ?_) (fun h6 => ?_)
            · exact J7 (Or.inl (fun q => q h6))
            · refine g_aload_nq h 32 dX0_serves_32 rfl rfl ?_
              refine gf_Cache_all h 33 dX0_serves_33 kw_352 (by omega) ?_
              refine g_iload_n h 36 dX0_serves_36 rfl ?_
              refine al_Cache_all h 37 dX0_serves_37 (by omega) (by omega) ?_
              refine gf_Translation_writable h 38 dX0_serves_38 kw_343 (by omega) ?_
              refine g_if_eq h 41 48 (gRi (by omega)) dX0_serves_41 (by decide) (fun h7 => ?_) (fun h7 => ?_)
              · exact J8 (fun q => q.elim (fun q => q h6) (fun q => q h7))
              · exact J7 (Or.inr h7)
          intro v1 e1
          subst e1
          obtain ⟨e1, e2⟩ := some_2 hF
          rw [← e1, ← e2] at hE
          exact g_iret h 49 dX0_serves_49 hE rfl (g_nb (by rw [← e1] at hr; exact hr)) ⟨(Nat.le_of_ble_eq_true rfl), (Nat.le_of_ble_eq_true rfl)⟩
        have J5 : ¬ (s1 37 (s1 50 (4 * a_this + x_i1)) = a_entry) → G X 0 0 50 [(3, a_this), (4, a_entry), (0, a_storing), (0, x_i1)] [] (s1, m) := by
          intro h10
          have hF := ite_f h10 hF
          refine g_iinc h 50 dX0_serves_50 rfl rfl (L' := [(3, a_this), (4, a_entry), (0, a_storing), (0, x_i1 + 1)]) rfl ?_
          refine g_goto h 53 2 dX0_serves_53 (by decide) ?_
          rw [ek1] at hF
          exact ih1 _ _ (by omega) hF
        refine g_aload_nq h 15 dX0_serves_15 rfl rfl ?_
        refine gf_Cache_all h 16 dX0_serves_16 kw_352 (by omega) ?_
        refine g_iload_n h 19 dX0_serves_19 rfl ?_
        refine al_Cache_all h 20 dX0_serves_20 (by omega) (by omega) ?_
        refine gf_Translation_entry h 21 dX0_serves_21 kw_341 (by omega) ?_
        refine g_aload_nq h 24 dX0_serves_24 rfl rfl ?_
        refine g_acmp_ne h 25 50 (show -1 ≤ _ ∧ _ < (192 : Int) by omega) (show -1 ≤ _ ∧ _ < (192 : Int) by omega) (by decide) dX0_serves_25 (by decide) (fun h4 => ?_) (fun h4 => ?_)
        · exact J5 h4
        · exact J4 h4
      have J3 : ¬ ((x_i1 < s1 1 a_this) ∧ (x_i1 < 4)) → G X 0 0 56 [(3, a_this), (4, a_entry), (0, a_storing), (0, x_i1)] [] (s1, m) := by
        intro h11
        have hF := ite_f h11 hF
        refine g_iconst h 56 dX0_serves_56 ?_
        obtain ⟨e1, e2⟩ := some_2 hF
        rw [← e1, ← e2] at hE
        exact g_iret h 57 dX0_serves_57 hE rfl (g_nb (by rw [← e1] at hr; exact hr)) ⟨(Nat.le_of_ble_eq_true rfl), (Nat.le_of_ble_eq_true rfl)⟩
      refine g_iload_n h 2 dX0_serves_2 rfl ?_
      refine g_aload_nq h 3 dX0_serves_3 rfl rfl ?_
      refine gf_Cache_size h 4 dX0_serves_4 kw_353 (by omega) ?_
      refine g_icmp_ge h 7 56 (gRi (by omega)) (gRi (by omega)) dX0_serves_7 (by decide) (fun h1 => ?_) (fun h1 => ?_)
      · exact J3 (fun q => (Int.not_lt.mpr h1) q.1)
      · refine g_iload_n h 10 dX0_serves_10 rfl ?_
        refine g_iconst h 11 dX0_serves_11 ?_
        refine g_icmp_ge h 12 56 (gRi (by omega)) (gRi (by omega)) dX0_serves_12 (by decide) (fun h2 => ?_) (fun h2 => ?_)
        · exact J3 (fun q => (Int.not_lt.mpr h2) q.2)
        · exact J2 ⟨h1, h2⟩
  exact J9 _ _ _ (by omega) hF
-- Pagewright$Entry.becomeAbsent
def FX1_becomeAbsent (a_this : Int) (s : S2) : Option (Int × S2) :=
  gd (0 ≤ a_this ∧ a_this ≤ 191) <| bn (upd2 s 8 a_this 0) fun s1 => bn (upd2 s1 9 a_this (-1)) fun s2 => bn (upd2 s2 10 a_this 0) fun s3 => bn (upd2 s3 11 a_this (-1)) fun s4 => some (0, s4)
set_option maxRecDepth 100000 in
set_option maxHeartbeats 4000000 in
theorem ctX1_becomeAbsent {l : Launch} {w : gW} {bs : Nat} (hl : l.stackTraces = false) {a_this : Int} {s m s0 : S2} {r0 : Int} (hF : FX1_becomeAbsent a_this s = some (r0, s0)) : gMet l w bs yX1_becomeAbsent cX1_becomeAbsent 1 none 0 0 [(4, a_this)] (s, m) 0 none (s0, m) := by
  unfold FX1_becomeAbsent at hF
  obtain ⟨q_a_this, hF⟩ := gd_some hF
  refine g_start hl (by decide) (Nat.le_of_ble_eq_true rfl) rfl fun X h hE => ?_
  have h : gOk X "Pagewright$Entry" cX1_becomeAbsent 1 0 0 0 := h
  have hE : gEnd X l w bs 0 none 0 none (s0, m) := hE
  show G X 0 0 0 [(4, a_this)] [] (s, m)
  refine g_aload_nq h 0 dX1_becomeAbsent_0 rfl rfl ?_
  refine g_iconst h 1 dX1_becomeAbsent_1 ?_
  obtain ⟨s1, es1, hF⟩ := bn_ex hF
  refine pf_Entry_state h 2 dX1_becomeAbsent_2 kw_209 (by omega) (by omega) ?_
  rw [← es1]
  refine g_aload_nq h 5 dX1_becomeAbsent_5 rfl rfl ?_
  refine g_nullq h 6 5 rfl dX1_becomeAbsent_6 ?_
  obtain ⟨s2, es2, hF⟩ := bn_ex hF
  refine pf_Entry_page h 7 dX1_becomeAbsent_7 kw_212 (by omega) (by omega) ?_
  rw [← es2]
  refine g_aload_nq h 10 dX1_becomeAbsent_10 rfl rfl ?_
  refine g_iconst h 11 dX1_becomeAbsent_11 ?_
  obtain ⟨s3, es3, hF⟩ := bn_ex hF
  refine pf_Entry_writable h 12 dX1_becomeAbsent_12 kw_214 (by omega) (by omega) ?_
  rw [← es3]
  refine g_aload_nq h 15 dX1_becomeAbsent_15 rfl rfl ?_
  refine g_nullq h 16 6 rfl dX1_becomeAbsent_16 ?_
  obtain ⟨s4, es4, hF⟩ := bn_ex hF
  refine pf_Entry_record h 17 dX1_becomeAbsent_17 kw_217 (by omega) (by omega) ?_
  rw [← es4]
  obtain ⟨e1, e2⟩ := some_2 hF
  rw [← e2] at hE
  exact g_vret h 20 dX1_becomeAbsent_20 hE rfl ⟨(Nat.le_of_ble_eq_true rfl), (Nat.le_of_ble_eq_true rfl)⟩
-- Pagewright$Entry.continues
set_option maxRecDepth 100000 in
theorem cpX1_continues {l : Launch} {w : gW} {bs : Nat} (hl : l.stackTraces = false) {a_this a_below : Int} {s m : S2} (q_a_this : 0 ≤ a_this ∧ a_this ≤ 191) (q_a_below : 0 ≤ a_below ∧ a_below ≤ 191) : gMet l w bs yX1_continues cX1_continues 2 (some FieldType.boolean) 0 0 [(4, a_this), (4, a_below)] (s, m) 0 (some (0, (if ((((((s 2 a_this ≠ 0) ∧ (s 2 a_below ≠ 0)) ∧ (s 3 a_this = s 3 a_below)) ∧ (s 4 a_this = s 4 a_below)) ∧ (s 6 a_this = s 6 a_below)) ∧ (s 7 a_this = s 7 a_below)) ∧ ((s 4 a_this = (-1)) ∨ (s 5 a_this = (s 5 a_below) + 1)) then 1 else 0 : Int))) (s, m) := by
  refine g_start hl (by decide) (Nat.le_of_ble_eq_true rfl) rfl fun X h hE => ?_
  have h : gOk X "Pagewright$Entry" cX1_continues 2 0 0 0 := h
  show G X 0 0 0 [(4, a_this), (4, a_below)] [] (s, m)
  refine G_typ fun hT_s => ?_
  have t1 : 0 ≤ s 2 a_this ∧ s 2 a_this ≤ 1 := hT_s.1 2 a_this
  have t2 : 0 ≤ s 2 a_below ∧ s 2 a_below ≤ 1 := hT_s.1 2 a_below
  have t3 : 0 ≤ s 3 a_this ∧ s 3 a_this ≤ 3 := hT_s.1 3 a_this
  have t4 : 0 ≤ s 3 a_below ∧ s 3 a_below ≤ 3 := hT_s.1 3 a_below
  have t5 : (-1) ≤ s 4 a_this ∧ s 4 a_this ≤ 2 := hT_s.1 4 a_this
  have t6 : (-1) ≤ s 4 a_below ∧ s 4 a_below ≤ 2 := hT_s.1 4 a_below
  have t7 : 0 ≤ s 6 a_this ∧ s 6 a_this ≤ 1 := hT_s.1 6 a_this
  have t8 : 0 ≤ s 6 a_below ∧ s 6 a_below ≤ 1 := hT_s.1 6 a_below
  have t9 : 0 ≤ s 7 a_this ∧ s 7 a_this ≤ 1 := hT_s.1 7 a_this
  have t10 : 0 ≤ s 7 a_below ∧ s 7 a_below ≤ 1 := hT_s.1 7 a_below
  have t11 : 0 ≤ s 5 a_this ∧ s 5 a_this ≤ 7 := hT_s.1 5 a_this
  have t12 : 0 ≤ s 5 a_below ∧ s 5 a_below ≤ 7 := hT_s.1 5 a_below
  suffices J1 : ∀ v1 : Int, v1 = (if ((((((s 2 a_this ≠ 0) ∧ (s 2 a_below ≠ 0)) ∧ (s 3 a_this = s 3 a_below)) ∧ (s 4 a_this = s 4 a_below)) ∧ (s 6 a_this = s 6 a_below)) ∧ (s 7 a_this = s 7 a_below)) ∧ ((s 4 a_this = (-1)) ∨ (s 5 a_this = (s 5 a_below) + 1)) then 1 else 0 : Int) → G X 0 0 84 [(4, a_this), (4, a_below)] [(0, v1)] (s, m) by
    have J2 : ((((((s 2 a_this ≠ 0) ∧ (s 2 a_below ≠ 0)) ∧ (s 3 a_this = s 3 a_below)) ∧ (s 4 a_this = s 4 a_below)) ∧ (s 6 a_this = s 6 a_below)) ∧ (s 7 a_this = s 7 a_below)) ∧ ((s 4 a_this = (-1)) ∨ (s 5 a_this = (s 5 a_below) + 1)) → G X 0 0 79 [(4, a_this), (4, a_below)] [] (s, m) := by
      intro h9
      refine g_iconst h 79 dX1_continues_79 ?_
      refine g_goto h 80 84 dX1_continues_80 (by decide) ?_
      exact J1 _ (if_pos h9).symm
    have J3 : ¬ (((((((s 2 a_this ≠ 0) ∧ (s 2 a_below ≠ 0)) ∧ (s 3 a_this = s 3 a_below)) ∧ (s 4 a_this = s 4 a_below)) ∧ (s 6 a_this = s 6 a_below)) ∧ (s 7 a_this = s 7 a_below)) ∧ ((s 4 a_this = (-1)) ∨ (s 5 a_this = (s 5 a_below) + 1))) → G X 0 0 83 [(4, a_this), (4, a_below)] [] (s, m) := by
      intro h10
      refine g_iconst h 83 dX1_continues_83 ?_
      exact J1 _ (if_neg h10).symm
    refine g_aload_nq h 0 dX1_continues_0 rfl rfl ?_
    refine gf_Entry_mapped h 1 dX1_continues_1 kw_193 (by omega) ?_
    refine g_if_eq h 4 83 (gRi (by omega)) dX1_continues_4 (by decide) (fun h1 => ?_) (fun h1 => ?_)
    · exact J3 (fun q => (fun q => (fun q => (fun q => (fun q => (fun q => (fun q => q h1) q.1) q.1) q.1) q.1) q.1) q.1)
    · refine g_aload_nq h 7 dX1_continues_7 rfl rfl ?_
      refine gf_Entry_mapped h 8 dX1_continues_8 kw_193 (by omega) ?_
      refine g_if_eq h 11 83 (gRi (by omega)) dX1_continues_11 (by decide) (fun h2 => ?_) (fun h2 => ?_)
      · exact J3 (fun q => (fun q => (fun q => (fun q => (fun q => (fun q => (fun q => q h2) q.2) q.1) q.1) q.1) q.1) q.1)
      · refine g_aload_nq h 14 dX1_continues_14 rfl rfl ?_
        refine gf_Entry_rights h 15 dX1_continues_15 kw_195 (by omega) ?_
        refine g_aload_nq h 18 dX1_continues_18 rfl rfl ?_
        refine gf_Entry_rights h 19 dX1_continues_19 kw_195 (by omega) ?_
        refine g_icmp_ne h 22 83 (gRi (by omega)) (gRi (by omega)) dX1_continues_22 (by decide) (fun h3 => ?_) (fun h3 => ?_)
        · exact J3 (fun q => (fun q => (fun q => (fun q => (fun q => h3 q.2) q.1) q.1) q.1) q.1)
        · refine g_aload_nq h 25 dX1_continues_25 rfl rfl ?_
          refine gf_Entry_file h 26 dX1_continues_26 kw_198 (by omega) ?_
          refine g_aload_nq h 29 dX1_continues_29 rfl rfl ?_
          refine gf_Entry_file h 30 dX1_continues_30 kw_198 (by omega) ?_
          refine g_icmp_ne h 33 83 (gRi (by omega)) (gRi (by omega)) dX1_continues_33 (by decide) (fun h4 => ?_) (fun h4 => ?_)
          · exact J3 (fun q => (fun q => (fun q => (fun q => h4 q.2) q.1) q.1) q.1)
          · refine g_aload_nq h 36 dX1_continues_36 rfl rfl ?_
            refine gf_Entry_shared h 37 dX1_continues_37 kw_204 (by omega) ?_
            refine g_aload_nq h 40 dX1_continues_40 rfl rfl ?_
            refine gf_Entry_shared h 41 dX1_continues_41 kw_204 (by omega) ?_
            refine g_icmp_ne h 44 83 (gRi (by omega)) (gRi (by omega)) dX1_continues_44 (by decide) (fun h5 => ?_) (fun h5 => ?_)
            · exact J3 (fun q => (fun q => (fun q => h5 q.2) q.1) q.1)
            · refine g_aload_nq h 47 dX1_continues_47 rfl rfl ?_
              refine gf_Entry_grows h 48 dX1_continues_48 kw_207 (by omega) ?_
              refine g_aload_nq h 51 dX1_continues_51 rfl rfl ?_
              refine gf_Entry_grows h 52 dX1_continues_52 kw_207 (by omega) ?_
              refine g_icmp_ne h 55 83 (gRi (by omega)) (gRi (by omega)) dX1_continues_55 (by decide) (fun h6 => ?_) (fun h6 => ?_)
              · exact J3 (fun q => (fun q => h6 q.2) q.1)
              · refine g_aload_nq h 58 dX1_continues_58 rfl rfl ?_
                refine gf_Entry_file h 59 dX1_continues_59 kw_198 (by omega) ?_
                refine g_iconst h 62 dX1_continues_62 ?_
                refine g_icmp_eq h 63 79 (gRi (by omega)) (gRi (by omega)) dX1_continues_63 (by decide) (fun h7 => ?_) (fun h7 => ?_)
                · exact J2 ⟨⟨⟨⟨⟨⟨h1, h2⟩, h3⟩, h4⟩, h5⟩, h6⟩, (Or.inl h7)⟩
                · refine g_aload_nq h 66 dX1_continues_66 rfl rfl ?_
                  refine gf_Entry_index h 67 dX1_continues_67 kw_201 (by omega) ?_
                  refine g_aload_nq h 70 dX1_continues_70 rfl rfl ?_
                  refine gf_Entry_index h 71 dX1_continues_71 kw_201 (by omega) ?_
                  refine g_iconst h 74 dX1_continues_74 ?_
                  refine g_iadd h 75 dX1_continues_75 ?_
                  refine g_icmp_ne h 76 83 (gRi (by omega)) (gRi (by omega)) dX1_continues_76 (by decide) (fun h8 => ?_) (fun h8 => ?_)
                  · exact J3 (fun q => (fun q => q.elim h7 h8) q.2)
                  · exact J2 ⟨⟨⟨⟨⟨⟨h1, h2⟩, h3⟩, h4⟩, h5⟩, h6⟩, (Or.inr h8)⟩
  intro v1 e1
  subst e1
  exact g_iret h 84 dX1_continues_84 hE rfl (g_nb (by first | omega | (split <;> decide))) ⟨(Nat.le_of_ble_eq_true rfl), (Nat.le_of_ble_eq_true rfl)⟩
-- Pagewright$Entry.establish
def FX1_establish (a_this a_newRights a_newFile a_newIndex a_newShared a_newGrows : Int) (s : S2) : Option (Int × S2) :=
  gd (0 ≤ a_this ∧ a_this ≤ 191) <| gd (0 ≤ a_newRights ∧ a_newRights ≤ 3) <| gd ((-1) ≤ a_newFile ∧ a_newFile ≤ 2) <| gd (0 ≤ a_newShared ∧ a_newShared ≤ 1) <| gd (0 ≤ a_newGrows ∧ a_newGrows ≤ 1) <| bn (upd2 s 2 a_this 1) fun s1 => bn (upd2 s1 3 a_this a_newRights) fun s2 => bn (upd2 s2 4 a_this a_newFile) fun s3 => gd (0 ≤ (if a_newFile = (-1) then 0 else a_newIndex : Int) ∧ (if a_newFile = (-1) then 0 else a_newIndex : Int) ≤ 7) <| bn (upd2 s3 5 a_this (if a_newFile = (-1) then 0 else a_newIndex : Int)) fun s4 => bn (upd2 s4 6 a_this (if (a_newFile ≠ (-1)) ∧ (a_newShared ≠ 0) then 1 else 0 : Int)) fun s5 => bn (upd2 s5 7 a_this a_newGrows) fun s6 => some (0, s6)
set_option maxRecDepth 100000 in
set_option maxHeartbeats 4000000 in
theorem ctX1_establish {l : Launch} {w : gW} {bs : Nat} (hl : l.stackTraces = false) {a_this a_newRights a_newFile a_newIndex a_newShared a_newGrows : Int} {s m s0 : S2} {r0 : Int} (hF : FX1_establish a_this a_newRights a_newFile a_newIndex a_newShared a_newGrows s = some (r0, s0)) : gMet l w bs yX1_establish cX1_establish 6 none 0 0 [(4, a_this), (0, a_newRights), (0, a_newFile), (0, a_newIndex), (0, a_newShared), (0, a_newGrows)] (s, m) 0 none (s0, m) := by
  unfold FX1_establish at hF
  obtain ⟨q_a_this, hF⟩ := gd_some hF
  obtain ⟨q_a_newRights, hF⟩ := gd_some hF
  obtain ⟨q_a_newFile, hF⟩ := gd_some hF
  obtain ⟨q_a_newShared, hF⟩ := gd_some hF
  obtain ⟨q_a_newGrows, hF⟩ := gd_some hF
  refine g_start hl (by decide) (Nat.le_of_ble_eq_true rfl) rfl fun X h hE => ?_
  have h : gOk X "Pagewright$Entry" cX1_establish 6 0 0 0 := h
  have hE : gEnd X l w bs 0 none 0 none (s0, m) := hE
  show G X 0 0 0 [(4, a_this), (0, a_newRights), (0, a_newFile), (0, a_newIndex), (0, a_newShared), (0, a_newGrows)] [] (s, m)
  refine g_aload_nq h 0 dX1_establish_0 rfl rfl ?_
  refine g_iconst h 1 dX1_establish_1 ?_
  obtain ⟨s1, es1, hF⟩ := bn_ex hF
  refine pf_Entry_mapped h 2 dX1_establish_2 kw_193 (by omega) (by omega) ?_
  rw [← es1]
  refine g_aload_nq h 5 dX1_establish_5 rfl rfl ?_
  refine g_iload_n h 6 dX1_establish_6 rfl ?_
  obtain ⟨s2, es2, hF⟩ := bn_ex hF
  refine pf_Entry_rights h 7 dX1_establish_7 kw_195 (by omega) (by omega) ?_
  rw [← es2]
  refine g_aload_nq h 10 dX1_establish_10 rfl rfl ?_
  refine g_iload_n h 11 dX1_establish_11 rfl ?_
  obtain ⟨s3, es3, hF⟩ := bn_ex hF
  refine pf_Entry_file h 12 dX1_establish_12 kw_198 (by omega) (by omega) ?_
  rw [← es3]
  refine g_aload_nq h 15 dX1_establish_15 rfl rfl ?_
  suffices J1 : ∀ v1 : Int, v1 = (if a_newFile = (-1) then 0 else a_newIndex : Int) → G X 0 0 26 [(4, a_this), (0, a_newRights), (0, a_newFile), (0, a_newIndex), (0, a_newShared), (0, a_newGrows)] [(0, v1), (4, a_this)] (s3, m) by
    have J2 : a_newFile = (-1) → G X 0 0 21 [(4, a_this), (0, a_newRights), (0, a_newFile), (0, a_newIndex), (0, a_newShared), (0, a_newGrows)] [(4, a_this)] (s3, m) := by
      intro h2
      refine g_iconst h 21 dX1_establish_21 ?_
      refine g_goto h 22 26 dX1_establish_22 (by decide) ?_
      exact J1 _ (if_pos h2).symm
    have J3 : ¬ (a_newFile = (-1)) → G X 0 0 25 [(4, a_this), (0, a_newRights), (0, a_newFile), (0, a_newIndex), (0, a_newShared), (0, a_newGrows)] [(4, a_this)] (s3, m) := by
      intro h3
      refine g_iload_n h 25 dX1_establish_25 rfl ?_
      exact J1 _ (if_neg h3).symm
    refine g_iload_n h 16 dX1_establish_16 rfl ?_
    refine g_iconst h 17 dX1_establish_17 ?_
    refine g_icmp_ne h 18 25 (gRi (by omega)) (gRi (by omega)) dX1_establish_18 (by decide) (fun h1 => ?_) (fun h1 => ?_)
    · exact J3 h1
    · exact J2 h1
  intro v1 e1
  subst e1
  obtain ⟨q1, hF⟩ := gd_some hF
  obtain ⟨s4, es4, hF⟩ := bn_ex hF
  refine pf_Entry_index h 26 dX1_establish_26 kw_201 (by omega) (by omega) ?_
  rw [← es4]
  refine g_aload_nq h 29 dX1_establish_29 rfl rfl ?_
  suffices J4 : ∀ v2 : Int, v2 = (if (a_newFile ≠ (-1)) ∧ (a_newShared ≠ 0) then 1 else 0 : Int) → G X 0 0 45 [(4, a_this), (0, a_newRights), (0, a_newFile), (0, a_newIndex), (0, a_newShared), (0, a_newGrows)] [(0, v2), (4, a_this)] (s4, m) by
    have J5 : (a_newFile ≠ (-1)) ∧ (a_newShared ≠ 0) → G X 0 0 40 [(4, a_this), (0, a_newRights), (0, a_newFile), (0, a_newIndex), (0, a_newShared), (0, a_newGrows)] [(4, a_this)] (s4, m) := by
      intro h6
      refine g_iconst h 40 dX1_establish_40 ?_
      refine g_goto h 41 45 dX1_establish_41 (by decide) ?_
      exact J4 _ (if_pos h6).symm
    have J6 : ¬ ((a_newFile ≠ (-1)) ∧ (a_newShared ≠ 0)) → G X 0 0 44 [(4, a_this), (0, a_newRights), (0, a_newFile), (0, a_newIndex), (0, a_newShared), (0, a_newGrows)] [(4, a_this)] (s4, m) := by
      intro h7
      refine g_iconst h 44 dX1_establish_44 ?_
      exact J4 _ (if_neg h7).symm
    refine g_iload_n h 30 dX1_establish_30 rfl ?_
    refine g_iconst h 31 dX1_establish_31 ?_
    refine g_icmp_eq h 32 44 (gRi (by omega)) (gRi (by omega)) dX1_establish_32 (by decide) (fun h4 => ?_) (fun h4 => ?_)
    · exact J6 (fun q => (fun q => q h4) q.1)
    · refine g_iload h 35 dX1_establish_35 rfl ?_
      refine g_if_eq h 37 44 (gRi (by omega)) dX1_establish_37 (by decide) (fun h5 => ?_) (fun h5 => ?_)
      · exact J6 (fun q => (fun q => q h5) q.2)
      · exact J5 ⟨h4, h5⟩
  intro v2 e2
  subst e2
  obtain ⟨s5, es5, hF⟩ := bn_ex hF
  refine pf_Entry_shared h 45 dX1_establish_45 kw_204 (by omega) (by omega) ?_
  rw [← es5]
  refine g_aload_nq h 48 dX1_establish_48 rfl rfl ?_
  refine g_iload h 49 dX1_establish_49 rfl ?_
  obtain ⟨s6, es6, hF⟩ := bn_ex hF
  refine pf_Entry_grows h 51 dX1_establish_51 kw_207 (by omega) (by omega) ?_
  rw [← es6]
  obtain ⟨e1, e2⟩ := some_2 hF
  rw [← e2] at hE
  exact g_vret h 54 dX1_establish_54 hE rfl ⟨(Nat.le_of_ble_eq_true rfl), (Nat.le_of_ble_eq_true rfl)⟩
-- Pagewright$Entry.tellProcessors
def FX1_tellProcessors (a_this : Int) (s : S2) : Option (Int × S2) :=
  gd (0 ≤ a_this ∧ a_this ≤ 191) <| bn (fun (s1 : S2) => some (0, s1)) fun k1 => if s 8 a_this = 1 then bn (upd2 s 14 a_this 3) fun s2 => k1 s2 else k1 s
set_option maxRecDepth 100000 in
set_option maxHeartbeats 4000000 in
theorem ctX1_tellProcessors {l : Launch} {w : gW} {bs : Nat} (hl : l.stackTraces = false) {a_this : Int} {s m s0 : S2} {r0 : Int} (hF : FX1_tellProcessors a_this s = some (r0, s0)) : gMet l w bs yX1_tellProcessors cX1_tellProcessors 1 none 0 0 [(4, a_this)] (s, m) 0 none (s0, m) := by
  unfold FX1_tellProcessors at hF
  obtain ⟨q_a_this, hF⟩ := gd_some hF
  refine g_start hl (by decide) (Nat.le_of_ble_eq_true rfl) rfl fun X h hE => ?_
  have h : gOk X "Pagewright$Entry" cX1_tellProcessors 1 0 0 0 := h
  have hE : gEnd X l w bs 0 none 0 none (s0, m) := hE
  show G X 0 0 0 [(4, a_this)] [] (s, m)
  obtain ⟨k1, ek1, hF⟩ := bn_ex hF
  have J1 : ∀ (s1 : S2), k1 s1 = some (r0, s0) → G X 0 0 13 [(4, a_this)] [] (s1, m) := by
    intro s1 hF
    rw [ek1] at hF
    obtain ⟨e1, e2⟩ := some_2 hF
    rw [← e2] at hE
    exact g_vret h 13 dX1_tellProcessors_13 hE rfl ⟨(Nat.le_of_ble_eq_true rfl), (Nat.le_of_ble_eq_true rfl)⟩
  refine G_typ fun hT_s => ?_
  have t1 : 0 ≤ s 8 a_this ∧ s 8 a_this ≤ 2 := hT_s.1 8 a_this
  have J2 : s 8 a_this = 1 → G X 0 0 8 [(4, a_this)] [] (s, m) := by
    intro h2
    have hF := ite_t h2 hF
    refine g_aload_nq h 8 dX1_tellProcessors_8 rfl rfl ?_
    refine g_iconst h 9 dX1_tellProcessors_9 ?_
    obtain ⟨s2, es2, hF⟩ := bn_ex hF
    refine pf_Entry_told h 10 dX1_tellProcessors_10 kw_221 (by omega) (by omega) ?_
    rw [← es2]
    exact J1 _ hF
  have J3 : ¬ (s 8 a_this = 1) → G X 0 0 13 [(4, a_this)] [] (s, m) := by
    intro h3
    have hF := ite_f h3 hF
    exact J1 _ hF
  refine g_aload_nq h 0 dX1_tellProcessors_0 rfl rfl ?_
  refine gf_Entry_state h 1 dX1_tellProcessors_1 kw_209 (by omega) ?_
  refine g_iconst h 4 dX1_tellProcessors_4 ?_
  refine g_icmp_ne h 5 13 (gRi (by omega)) (gRi (by omega)) dX1_tellProcessors_5 (by decide) (fun h1 => ?_) (fun h1 => ?_)
  · exact J3 h1
  · exact J2 h1
-- Pagewright$Page.begin
def FX2_begin (a_this a_newKind a_newValue a_newGroup : Int) (s : S2) : Option (Int × S2) :=
  gd (0 ≤ a_this ∧ a_this ≤ 23) <| gd (0 ≤ a_newKind ∧ a_newKind ≤ 2) <| gd (0 ≤ a_newValue ∧ a_newValue ≤ 99999) <| gd (0 ≤ a_newGroup ∧ a_newGroup ≤ 2) <| bn (upd2 s 15 a_this a_newKind) fun s1 => bn (upd2 s1 16 a_this a_newValue) fun s2 => bn (upd2 s2 21 a_this a_newGroup) fun s3 => bn (upd2 s3 19 a_this 0) fun s4 => bn (upd2 s4 20 a_this 0) fun s5 => bn (upd2 s5 22 a_this 0) fun s6 => bn (upd2 s6 23 a_this 0) fun s7 => some (0, s7)
set_option maxRecDepth 100000 in
set_option maxHeartbeats 4000000 in
theorem ctX2_begin {l : Launch} {w : gW} {bs : Nat} (hl : l.stackTraces = false) {a_this a_newKind a_newValue a_newGroup : Int} {s m s0 : S2} {r0 : Int} (hF : FX2_begin a_this a_newKind a_newValue a_newGroup s = some (r0, s0)) : gMet l w bs yX2_begin cX2_begin 4 none 0 0 [(5, a_this), (0, a_newKind), (0, a_newValue), (0, a_newGroup)] (s, m) 0 none (s0, m) := by
  unfold FX2_begin at hF
  obtain ⟨q_a_this, hF⟩ := gd_some hF
  obtain ⟨q_a_newKind, hF⟩ := gd_some hF
  obtain ⟨q_a_newValue, hF⟩ := gd_some hF
  obtain ⟨q_a_newGroup, hF⟩ := gd_some hF
  refine g_start hl (by decide) (Nat.le_of_ble_eq_true rfl) rfl fun X h hE => ?_
  have h : gOk X "Pagewright$Page" cX2_begin 4 0 0 0 := h
  have hE : gEnd X l w bs 0 none 0 none (s0, m) := hE
  show G X 0 0 0 [(5, a_this), (0, a_newKind), (0, a_newValue), (0, a_newGroup)] [] (s, m)
  refine g_aload_nq h 0 dX2_begin_0 rfl rfl ?_
  refine g_iload_n h 1 dX2_begin_1 rfl ?_
  obtain ⟨s1, es1, hF⟩ := bn_ex hF
  refine pf_Page_kind h 2 dX2_begin_2 kw_283 (by omega) (by omega) ?_
  rw [← es1]
  refine g_aload_nq h 5 dX2_begin_5 rfl rfl ?_
  refine g_iload_n h 6 dX2_begin_6 rfl ?_
  obtain ⟨s2, es2, hF⟩ := bn_ex hF
  refine pf_Page_value h 7 dX2_begin_7 kw_285 (by omega) (by omega) ?_
  rw [← es2]
  refine g_aload_nq h 10 dX2_begin_10 rfl rfl ?_
  refine g_iload_n h 11 dX2_begin_11 rfl ?_
  obtain ⟨s3, es3, hF⟩ := bn_ex hF
  refine pf_Page_group h 12 dX2_begin_12 kw_295 (by omega) (by omega) ?_
  rw [← es3]
  refine g_aload_nq h 15 dX2_begin_15 rfl rfl ?_
  refine g_iconst h 16 dX2_begin_16 ?_
  obtain ⟨s4, es4, hF⟩ := bn_ex hF
  refine pf_Page_seen h 17 dX2_begin_17 kw_290 (by omega) (by omega) ?_
  rw [← es4]
  refine g_aload_nq h 20 dX2_begin_20 rfl rfl ?_
  refine g_iconst h 21 dX2_begin_21 ?_
  obtain ⟨s5, es5, hF⟩ := bn_ex hF
  refine pf_Page_holders h 22 dX2_begin_22 kw_292 (by omega) (by omega) ?_
  rw [← es5]
  refine g_aload_nq h 25 dX2_begin_25 rfl rfl ?_
  refine g_iconst h 26 dX2_begin_26 ?_
  obtain ⟨s6, es6, hF⟩ := bn_ex hF
  refine pf_Page_merged h 27 dX2_begin_27 kw_296 (by omega) (by omega) ?_
  rw [← es6]
  refine g_aload_nq h 30 dX2_begin_30 rfl rfl ?_
  refine g_iconst h 31 dX2_begin_31 ?_
  obtain ⟨s7, es7, hF⟩ := bn_ex hF
  refine pf_Page_dirty h 32 dX2_begin_32 kw_298 (by omega) (by omega) ?_
  rw [← es7]
  obtain ⟨e1, e2⟩ := some_2 hF
  rw [← e2] at hE
  exact g_vret h 35 dX2_begin_35 hE rfl ⟨(Nat.le_of_ble_eq_true rfl), (Nat.le_of_ble_eq_true rfl)⟩
-- Pagewright$Page.isMember
set_option maxRecDepth 100000 in
theorem cpX2_isMember {l : Launch} {w : gW} {bs : Nat} (hl : l.stackTraces = false) {a_this a_ofList a_ofGroup : Int} {s m : S2} (q_a_this : 0 ≤ a_this ∧ a_this ≤ 23) (q_a_ofList : 0 ≤ a_ofList ∧ a_ofList ≤ 1) (q_a_ofGroup : (-1) ≤ a_ofGroup ∧ a_ofGroup ≤ 2) : gMet l w bs yX2_isMember cX2_isMember 3 (some FieldType.boolean) 0 0 [(5, a_this), (0, a_ofList), (0, a_ofGroup)] (s, m) 0 (some (0, (if ((s 15 a_this ≠ 0) ∧ (s 17 a_this = a_ofList)) ∧ ((a_ofGroup = (-1)) ∨ (s 21 a_this = a_ofGroup)) then 1 else 0 : Int))) (s, m) := by
  refine g_start hl (by decide) (Nat.le_of_ble_eq_true rfl) rfl fun X h hE => ?_
  have h : gOk X "Pagewright$Page" cX2_isMember 3 0 0 0 := h
  show G X 0 0 0 [(5, a_this), (0, a_ofList), (0, a_ofGroup)] [] (s, m)
  refine G_typ fun hT_s => ?_
  have t1 : 0 ≤ s 15 a_this ∧ s 15 a_this ≤ 2 := hT_s.1 15 a_this
  have t2 : 0 ≤ s 17 a_this ∧ s 17 a_this ≤ 1 := hT_s.1 17 a_this
  have t3 : 0 ≤ s 21 a_this ∧ s 21 a_this ≤ 2 := hT_s.1 21 a_this
  suffices J1 : ∀ v1 : Int, v1 = (if ((s 15 a_this ≠ 0) ∧ (s 17 a_this = a_ofList)) ∧ ((a_ofGroup = (-1)) ∨ (s 21 a_this = a_ofGroup)) then 1 else 0 : Int) → G X 0 0 33 [(5, a_this), (0, a_ofList), (0, a_ofGroup)] [(0, v1)] (s, m) by
    have J2 : ((s 15 a_this ≠ 0) ∧ (s 17 a_this = a_ofList)) ∧ ((a_ofGroup = (-1)) ∨ (s 21 a_this = a_ofGroup)) → G X 0 0 28 [(5, a_this), (0, a_ofList), (0, a_ofGroup)] [] (s, m) := by
      intro h5
      refine g_iconst h 28 dX2_isMember_28 ?_
      refine g_goto h 29 33 dX2_isMember_29 (by decide) ?_
      exact J1 _ (if_pos h5).symm
    have J3 : ¬ (((s 15 a_this ≠ 0) ∧ (s 17 a_this = a_ofList)) ∧ ((a_ofGroup = (-1)) ∨ (s 21 a_this = a_ofGroup))) → G X 0 0 32 [(5, a_this), (0, a_ofList), (0, a_ofGroup)] [] (s, m) := by
      intro h6
      refine g_iconst h 32 dX2_isMember_32 ?_
      exact J1 _ (if_neg h6).symm
    refine g_aload_nq h 0 dX2_isMember_0 rfl rfl ?_
    refine gf_Page_kind h 1 dX2_isMember_1 kw_283 (by omega) ?_
    refine g_if_eq h 4 32 (gRi (by omega)) dX2_isMember_4 (by decide) (fun h1 => ?_) (fun h1 => ?_)
    · exact J3 (fun q => (fun q => (fun q => q h1) q.1) q.1)
    · refine g_aload_nq h 7 dX2_isMember_7 rfl rfl ?_
      refine gf_Page_list h 8 dX2_isMember_8 kw_287 (by omega) ?_
      refine g_iload_n h 11 dX2_isMember_11 rfl ?_
      refine g_icmp_ne h 12 32 (gRi (by omega)) (gRi (by omega)) dX2_isMember_12 (by decide) (fun h2 => ?_) (fun h2 => ?_)
      · exact J3 (fun q => (fun q => h2 q.2) q.1)
      · refine g_iload_n h 15 dX2_isMember_15 rfl ?_
        refine g_iconst h 16 dX2_isMember_16 ?_
        refine g_icmp_eq h 17 28 (gRi (by omega)) (gRi (by omega)) dX2_isMember_17 (by decide) (fun h3 => ?_) (fun h3 => ?_)
        · exact J2 ⟨⟨h1, h2⟩, (Or.inl h3)⟩
        · refine g_aload_nq h 20 dX2_isMember_20 rfl rfl ?_
          refine gf_Page_group h 21 dX2_isMember_21 kw_295 (by omega) ?_
          refine g_iload_n h 24 dX2_isMember_24 rfl ?_
          refine g_icmp_ne h 25 32 (gRi (by omega)) (gRi (by omega)) dX2_isMember_25 (by decide) (fun h4 => ?_) (fun h4 => ?_)
          · exact J3 (fun q => (fun q => q.elim h3 h4) q.2)
          · exact J2 ⟨⟨h1, h2⟩, (Or.inr h4)⟩
  intro v1 e1
  subst e1
  exact g_iret h 33 dX2_isMember_33 hE rfl (g_nb (by first | omega | (split <;> decide))) ⟨(Nat.le_of_ble_eq_true rfl), (Nat.le_of_ble_eq_true rfl)⟩
-- Pagewright$Page.isMergeable
set_option maxRecDepth 100000 in
theorem cpX2_isMergeable {l : Launch} {w : gW} {bs : Nat} (hl : l.stackTraces = false) {a_this : Int} {s m : S2} (q_a_this : 0 ≤ a_this ∧ a_this ≤ 23) : gMet l w bs yX2_isMergeable cX2_isMergeable 1 (some FieldType.boolean) 0 0 [(5, a_this)] (s, m) 0 (some (0, (if (s 15 a_this = 1) ∧ (¬ (s 22 a_this ≠ 0)) then 1 else 0 : Int))) (s, m) := by
  refine g_start hl (by decide) (Nat.le_of_ble_eq_true rfl) rfl fun X h hE => ?_
  have h : gOk X "Pagewright$Page" cX2_isMergeable 1 0 0 0 := h
  show G X 0 0 0 [(5, a_this)] [] (s, m)
  refine G_typ fun hT_s => ?_
  have t1 : 0 ≤ s 15 a_this ∧ s 15 a_this ≤ 2 := hT_s.1 15 a_this
  have t2 : 0 ≤ s 22 a_this ∧ s 22 a_this ≤ 1 := hT_s.1 22 a_this
  suffices J1 : ∀ v1 : Int, v1 = (if (s 15 a_this = 1) ∧ (¬ (s 22 a_this ≠ 0)) then 1 else 0 : Int) → G X 0 0 20 [(5, a_this)] [(0, v1)] (s, m) by
    have J2 : (s 15 a_this = 1) ∧ (¬ (s 22 a_this ≠ 0)) → G X 0 0 15 [(5, a_this)] [] (s, m) := by
      intro h3
      refine g_iconst h 15 dX2_isMergeable_15 ?_
      refine g_goto h 16 20 dX2_isMergeable_16 (by decide) ?_
      exact J1 _ (if_pos h3).symm
    have J3 : ¬ ((s 15 a_this = 1) ∧ (¬ (s 22 a_this ≠ 0))) → G X 0 0 19 [(5, a_this)] [] (s, m) := by
      intro h4
      refine g_iconst h 19 dX2_isMergeable_19 ?_
      exact J1 _ (if_neg h4).symm
    refine g_aload_nq h 0 dX2_isMergeable_0 rfl rfl ?_
    refine gf_Page_kind h 1 dX2_isMergeable_1 kw_283 (by omega) ?_
    refine g_iconst h 4 dX2_isMergeable_4 ?_
    refine g_icmp_ne h 5 19 (gRi (by omega)) (gRi (by omega)) dX2_isMergeable_5 (by decide) (fun h1 => ?_) (fun h1 => ?_)
    · exact J3 (fun q => h1 q.1)
    · refine g_aload_nq h 8 dX2_isMergeable_8 rfl rfl ?_
      refine gf_Page_merged h 9 dX2_isMergeable_9 kw_296 (by omega) ?_
      refine g_if_ne h 12 19 (gRi (by omega)) dX2_isMergeable_12 (by decide) (fun h2 => ?_) (fun h2 => ?_)
      · exact J3 (fun q => (fun q => q h2) q.2)
      · exact J2 ⟨h1, (fun q => q h2)⟩
  intro v1 e1
  subst e1
  exact g_iret h 20 dX2_isMergeable_20 hE rfl (g_nb (by first | omega | (split <;> decide))) ⟨(Nat.le_of_ble_eq_true rfl), (Nat.le_of_ble_eq_true rfl)⟩
-- Pagewright$Records.freePlace
def FX4_freePlace (s : S2) : Option (Int × S2) :=
  rgd (-1) 9 <| gl1 1000 (fun k1 (x_place1 : Int) (s1 : S2) => if x_place1 < 10 then if ¬ (s1 49 x_place1 ≠ 0) then some (x_place1, s1) else k1 (x_place1 + 1) s1 else some ((-1), s1)) 0 s
theorem rgX4_freePlace {s s0 : S2} {r0 : Int} (hF : FX4_freePlace s = some (r0, s0)) : (-1) ≤ r0 ∧ r0 ≤ 9 := (rgd_some hF).2
set_option maxRecDepth 100000 in
set_option maxHeartbeats 4000000 in
theorem ctX4_freePlace {l : Launch} {w : gW} {bs : Nat} (hl : l.stackTraces = false) {s m s0 : S2} {r0 : Int} (hF : FX4_freePlace s = some (r0, s0)) : gMet l w bs yX4_freePlace cX4_freePlace 2 (some FieldType.int) 0 0 [(7, 0)] (s, m) 0 (some (0, r0)) (s0, m) := by
  unfold FX4_freePlace at hF
  obtain ⟨hF, hr⟩ := rgd_some hF
  refine g_start hl (by decide) (Nat.le_of_ble_eq_true rfl) rfl fun X h hE => ?_
  have h : gOk X "Pagewright$Records" cX4_freePlace 2 0 0 0 := h
  have hE : gEnd X l w bs 0 (some FieldType.int) 0 (some (0, r0)) (s0, m) := hE
  show G X 0 0 0 [(7, 0), (1, 0)] [] (s, m)
  refine g_iconst h 0 dX4_freePlace_0 ?_
  refine g_istore_n h 1 dX4_freePlace_1 (Nat.le_of_ble_eq_true rfl) rfl (L' := [(7, 0), (0, 0)]) rfl ?_
  obtain ⟨f1, ef1, hF⟩ := glx1 hF
  have J6 : ∀ (n1 : Nat) (x_place1 : Int) (s1 : S2), (0 ≤ x_place1 ∧ x_place1 ≤ 10) → gl1 n1 f1 x_place1 s1 = some (r0, s0) → G X 0 0 2 [(7, 0), (0, x_place1)] [] (s1, m) := by
    intro n1
    induction n1 with
    | zero => intro x_place1 s1 _ hF; exact (gl1_0 hF).elim
    | succ n1 ih1 =>
      intro x_place1 s1 q1 hF
      obtain ⟨k1, ek1, hF⟩ := glu1 hF ef1
      have J2 : x_place1 < 10 → G X 0 0 8 [(7, 0), (0, x_place1)] [] (s1, m) := by
        intro h2
        have hF := ite_t h2 hF
        refine G_typ fun hT_s1 => ?_
        have t1 : 0 ≤ s1 49 x_place1 ∧ s1 49 x_place1 ≤ 1 := hT_s1.1 49 x_place1
        have J4 : ¬ (s1 49 x_place1 ≠ 0) → G X 0 0 17 [(7, 0), (0, x_place1)] [] (s1, m) := by
          intro h4
          have hF := ite_t h4 hF
          refine g_iload_n h 17 dX4_freePlace_17 rfl ?_
          obtain ⟨e1, e2⟩ := some_2 hF
          rw [← e1, ← e2] at hE
          exact g_iret h 18 dX4_freePlace_18 hE rfl rfl ⟨(Nat.le_of_ble_eq_true rfl), (Nat.le_of_ble_eq_true rfl)⟩
        have J5 : ¬ (¬ (s1 49 x_place1 ≠ 0)) → G X 0 0 19 [(7, 0), (0, x_place1)] [] (s1, m) := by
          intro h5
          have hF := ite_f h5 hF
          refine g_iinc h 19 dX4_freePlace_19 rfl rfl (L' := [(7, 0), (0, x_place1 + 1)]) rfl ?_
          refine g_goto h 22 2 dX4_freePlace_22 (by decide) ?_
          rw [ek1] at hF
          exact ih1 _ _ (by omega) hF
        refine g_aload_nq h 8 dX4_freePlace_8 rfl rfl ?_
        refine gf_Records_taken h 9 dX4_freePlace_9 kw_165 ?_
        refine g_iload_n h 12 dX4_freePlace_12 rfl ?_
        refine al_Records_taken h 13 dX4_freePlace_13 (by omega) ?_
        refine g_if_ne h 14 19 (gRi (by omega)) dX4_freePlace_14 (by decide) (fun h3 => ?_) (fun h3 => ?_)
        · exact J5 (fun q => q h3)
        · exact J4 (fun q => q h3)
      have J3 : ¬ (x_place1 < 10) → G X 0 0 25 [(7, 0), (0, x_place1)] [] (s1, m) := by
        intro h6
        have hF := ite_f h6 hF
        refine g_iconst h 25 dX4_freePlace_25 ?_
        obtain ⟨e1, e2⟩ := some_2 hF
        rw [← e1, ← e2] at hE
        exact g_iret h 26 dX4_freePlace_26 hE rfl rfl ⟨(Nat.le_of_ble_eq_true rfl), (Nat.le_of_ble_eq_true rfl)⟩
      refine g_iload_n h 2 dX4_freePlace_2 rfl ?_
      refine g_bipush h 3 dX4_freePlace_3 (by decide) ?_
      refine g_icmp_ge h 5 25 (gRi (by omega)) (gRi (by omega)) dX4_freePlace_5 (by decide) (fun h1 => ?_) (fun h1 => ?_)
      · exact J3 (Int.not_lt.mpr h1)
      · exact J2 h1
  exact J6 _ _ _ (by omega) hF
-- Pagewright$Records.oldestStored
def FX4_oldestStored (s : S2) : Option (Int × S2) :=
  rgd (-1) 17 <| gl2 1000 (fun k1 (x_oldest1 : Int) (x_i_record1 : Int) (s1 : S2) => if x_i_record1 < 18 then bn (fun (x_oldest2 : Int) (s2 : S2) => k1 x_oldest2 (x_i_record1 + 1) s2) fun k2 => gd (((0 < s1 30 x_i_record1) ∧ (s1 28 x_i_record1 = 10)) ∧ (¬ (x_oldest1 < 0)) → (-2147483648) ≤ s1 29 x_i_record1 ∧ s1 29 x_i_record1 ≤ 2147483647) <| gd (((0 < s1 30 x_i_record1) ∧ (s1 28 x_i_record1 = 10)) ∧ (¬ (x_oldest1 < 0)) → (-2147483648) ≤ s1 29 x_oldest1 ∧ s1 29 x_oldest1 ≤ 2147483647) <| if ((0 < s1 30 x_i_record1) ∧ (s1 28 x_i_record1 = 10)) ∧ ((x_oldest1 < 0) ∨ (s1 29 x_i_record1 < s1 29 x_oldest1)) then k2 x_i_record1 s1 else k2 x_oldest1 s1 else some (x_oldest1, s1)) (-1) 0 s
theorem rgX4_oldestStored {s s0 : S2} {r0 : Int} (hF : FX4_oldestStored s = some (r0, s0)) : (-1) ≤ r0 ∧ r0 ≤ 17 := (rgd_some hF).2
set_option maxRecDepth 100000 in
set_option maxHeartbeats 4000000 in
theorem ctX4_oldestStored {l : Launch} {w : gW} {bs : Nat} (hl : l.stackTraces = false) {s m s0 : S2} {r0 : Int} (hF : FX4_oldestStored s = some (r0, s0)) : gMet l w bs yX4_oldestStored cX4_oldestStored 7 (some (FieldType.object "Pagewright$Record")) 0 0 [(7, 0)] (s, m) 0 (some (6, r0)) (s0, m) := by
  unfold FX4_oldestStored at hF
  obtain ⟨hF, hr⟩ := rgd_some hF
  refine g_start hl (by decide) (Nat.le_of_ble_eq_true rfl) rfl fun X h hE => ?_
  have h : gOk X "Pagewright$Records" cX4_oldestStored 7 0 0 0 := h
  have hE : gEnd X l w bs 0 (some (FieldType.object "Pagewright$Record")) 0 (some (6, r0)) (s0, m) := hE
  show G X 0 0 0 [(7, 0), (1, 0), (1, 0), (1, 0), (1, 0), (1, 0), (1, 0)] [] (s, m)
  refine g_nullq h 0 6 rfl dX4_oldestStored_0 ?_
  refine g_astore_n h 1 dX4_oldestStored_1 (Nat.le_of_ble_eq_true rfl) rfl (L' := [(7, 0), (6, (-1)), (1, 0), (1, 0), (1, 0), (1, 0), (1, 0)]) rfl ?_
  refine g_aload_nq h 2 dX4_oldestStored_2 rfl rfl ?_
  refine gf_Records_all h 3 dX4_oldestStored_3 kw_164 ?_
  refine g_astore_n h 6 dX4_oldestStored_6 (Nat.le_of_ble_eq_true rfl) rfl (L' := [(7, 0), (6, (-1)), (21, 0), (1, 0), (1, 0), (1, 0), (1, 0)]) rfl ?_
  refine g_aload_nq h 7 dX4_oldestStored_7 rfl rfl ?_
  refine an_Records_all h 8 dX4_oldestStored_8 ?_
  refine g_istore_n h 9 dX4_oldestStored_9 (Nat.le_of_ble_eq_true rfl) rfl (L' := [(7, 0), (6, (-1)), (21, 0), (0, 18), (1, 0), (1, 0), (1, 0)]) rfl ?_
  refine g_iconst h 10 dX4_oldestStored_10 ?_
  refine g_istore h 11 dX4_oldestStored_11 (Nat.le_of_ble_eq_true rfl) rfl (L' := [(7, 0), (6, (-1)), (21, 0), (0, 18), (0, 0), (1, 0), (1, 0)]) rfl ?_
  obtain ⟨f1, ef1, hF⟩ := glx2 hF
  have J10 : ∀ (n1 : Nat) (x_oldest1 x_i_record1 : Int) (s1 : S2), ((-1) ≤ x_oldest1 ∧ x_oldest1 ≤ 17) → (0 ≤ x_i_record1 ∧ x_i_record1 ≤ 18) → gl2 n1 f1 x_oldest1 x_i_record1 s1 = some (r0, s0) → G X 0 0 13 [(7, 0), (6, x_oldest1), (21, 0), (0, 18), (0, x_i_record1), (1, 0), (1, 0)] [] (s1, m) := by
    intro n1
    induction n1 with
    | zero => intro x_oldest1 x_i_record1 s1 _ _ hF; exact (gl2_0 hF).elim
    | succ n1 ih1 =>
      intro x_oldest1 x_i_record1 s1 q1 q2 hF
      obtain ⟨k1, ek1, hF⟩ := glu2 hF ef1
      have J2 : x_i_record1 < 18 → G X 0 0 19 [(7, 0), (6, x_oldest1), (21, 0), (0, 18), (0, x_i_record1), (1, 0), (1, 0)] [] (s1, m) := by
        intro h2
        have hF := ite_t h2 hF
        refine g_aload_nq h 19 dX4_oldestStored_19 rfl rfl ?_
        refine g_iload h 20 dX4_oldestStored_20 rfl ?_
        refine al_Records_all h 22 dX4_oldestStored_22 (by omega) ?_
        refine g_astore h 23 dX4_oldestStored_23 (Nat.le_of_ble_eq_true rfl) rfl (L' := [(7, 0), (6, x_oldest1), (21, 0), (0, 18), (0, x_i_record1), (6, x_i_record1), (1, 0)]) rfl ?_
        refine G_typ fun hT_s1 => ?_
        have t1 : 0 ≤ s1 30 x_i_record1 ∧ s1 30 x_i_record1 ≤ 192 := hT_s1.1 30 x_i_record1
        have t2 : 0 ≤ s1 28 x_i_record1 ∧ s1 28 x_i_record1 ≤ 10 := hT_s1.1 28 x_i_record1
        suffices J4 : ∀ v1 : Int, v1 = (if (0 < s1 30 x_i_record1) ∧ (s1 28 x_i_record1 = 10) then 1 else 0 : Int) → G X 0 0 48 [(7, 0), (6, x_oldest1), (21, 0), (0, 18), (0, x_i_record1), (6, x_i_record1), (1, 0)] [(0, v1)] (s1, m) by
          have J5 : (0 < s1 30 x_i_record1) ∧ (s1 28 x_i_record1 = 10) → G X 0 0 43 [(7, 0), (6, x_oldest1), (21, 0), (0, 18), (0, x_i_record1), (6, x_i_record1), (1, 0)] [] (s1, m) := by
            intro h5
            refine g_iconst h 43 dX4_oldestStored_43 ?_
            refine g_goto h 44 48 dX4_oldestStored_44 (by decide) ?_
            exact J4 _ (if_pos h5).symm
          have J6 : ¬ ((0 < s1 30 x_i_record1) ∧ (s1 28 x_i_record1 = 10)) → G X 0 0 47 [(7, 0), (6, x_oldest1), (21, 0), (0, 18), (0, x_i_record1), (6, x_i_record1), (1, 0)] [] (s1, m) := by
            intro h6
            refine g_iconst h 47 dX4_oldestStored_47 ?_
            exact J4 _ (if_neg h6).symm
          refine g_aloadq h 25 dX4_oldestStored_25 rfl rfl ?_
          refine gf_Record_holders h 27 dX4_oldestStored_27 kw_150 (by omega) ?_
          refine g_if_le h 30 47 (gRi (by omega)) dX4_oldestStored_30 (by decide) (fun h3 => ?_) (fun h3 => ?_)
          · exact J6 (fun q => (Int.not_lt.mpr h3) q.1)
          · refine g_aloadq h 33 dX4_oldestStored_33 rfl rfl ?_
            refine gf_Record_place h 35 dX4_oldestStored_35 kw_147 (by omega) ?_
            refine g_bipush h 38 dX4_oldestStored_38 (by decide) ?_
            refine g_icmp_ne h 40 47 (gRi (by omega)) (gRi (by omega)) dX4_oldestStored_40 (by decide) (fun h4 => ?_) (fun h4 => ?_)
            · exact J6 (fun q => h4 q.2)
            · exact J5 ⟨h3, h4⟩
        intro v1 e1
        subst e1
        refine g_istore h 48 dX4_oldestStored_48 (Nat.le_of_ble_eq_true rfl) rfl (L' := [(7, 0), (6, x_oldest1), (21, 0), (0, 18), (0, x_i_record1), (6, x_i_record1), (0, (if (0 < s1 30 x_i_record1) ∧ (s1 28 x_i_record1 = 10) then 1 else 0 : Int))]) rfl ?_
        obtain ⟨k2, ek2, hF⟩ := bn_ex hF
        have J7 : ∀ (x_oldest2 : Int) (s2 : S2), ((-1) ≤ x_oldest2 ∧ x_oldest2 ≤ 17) → k2 x_oldest2 s2 = some (r0, s0) → G X 0 0 74 [(7, 0), (6, x_oldest2), (21, 0), (0, 18), (0, x_i_record1), (6, x_i_record1), (0, (if (0 < s1 30 x_i_record1) ∧ (s1 28 x_i_record1 = 10) then 1 else 0 : Int))] [] (s2, m) := by
          intro x_oldest2 s2 q5 hF
          rw [ek2] at hF
          refine g_iinc h 74 dX4_oldestStored_74 rfl rfl (L' := [(7, 0), (6, x_oldest2), (21, 0), (0, 18), (0, x_i_record1 + 1), (6, x_i_record1), (0, (if (0 < s1 30 x_i_record1) ∧ (s1 28 x_i_record1 = 10) then 1 else 0 : Int))]) rfl ?_
          refine g_goto h 77 13 dX4_oldestStored_77 (by decide) ?_
          refine G_weak (L' := [(7, 0), (6, x_oldest2), (21, 0), (0, 18), (0, x_i_record1 + 1), (1, 0), (1, 0)]) ⟨Or.inr rfl, Or.inr rfl, Or.inr rfl, Or.inr rfl, Or.inr rfl, Or.inl rfl, Or.inl rfl, trivial⟩ ?_
          rw [ek1] at hF
          exact ih1 _ _ _ (by omega) (by omega) hF
        obtain ⟨q3, hF⟩ := gd_some hF
        obtain ⟨q4, hF⟩ := gd_some hF
        have J8 : ((0 < s1 30 x_i_record1) ∧ (s1 28 x_i_record1 = 10)) ∧ ((x_oldest1 < 0) ∨ (s1 29 x_i_record1 < s1 29 x_oldest1)) → G X 0 0 71 [(7, 0), (6, x_oldest1), (21, 0), (0, 18), (0, x_i_record1), (6, x_i_record1), (0, (if (0 < s1 30 x_i_record1) ∧ (s1 28 x_i_record1 = 10) then 1 else 0 : Int))] [] (s1, m) := by
          intro h10
          have hF := ite_t h10 hF
          refine g_aloadq h 71 dX4_oldestStored_71 rfl rfl ?_
          refine g_astore_n h 73 dX4_oldestStored_73 (Nat.le_of_ble_eq_true rfl) rfl (L' := [(7, 0), (6, x_i_record1), (21, 0), (0, 18), (0, x_i_record1), (6, x_i_record1), (0, (if (0 < s1 30 x_i_record1) ∧ (s1 28 x_i_record1 = 10) then 1 else 0 : Int))]) rfl ?_
          exact J7 _ _ (by omega) hF
        have J9 : ¬ (((0 < s1 30 x_i_record1) ∧ (s1 28 x_i_record1 = 10)) ∧ ((x_oldest1 < 0) ∨ (s1 29 x_i_record1 < s1 29 x_oldest1))) → G X 0 0 74 [(7, 0), (6, x_oldest1), (21, 0), (0, 18), (0, x_i_record1), (6, x_i_record1), (0, (if (0 < s1 30 x_i_record1) ∧ (s1 28 x_i_record1 = 10) then 1 else 0 : Int))] [] (s1, m) := by
          intro h11
          have hF := ite_f h11 hF
          exact J7 _ _ (by omega) hF
        refine g_iload h 50 dX4_oldestStored_50 rfl ?_
        refine g_if_eq h 52 74 (gRi gR_ite) dX4_oldestStored_52 (by decide) (fun h7 => ?_) (fun h7 => ?_)
        · exact J9 (fun q => (iz_f h7) q.1)
        · refine g_aload_nq h 55 dX4_oldestStored_55 rfl rfl ?_
          refine g_ifnull h 56 71 dX4_oldestStored_56 (by decide) (fun h8 => ?_) (fun h8 => ?_)
          · exact J8 ⟨(iz_t h7), (Or.inl h8)⟩
          · refine g_aloadq h 59 dX4_oldestStored_59 rfl rfl ?_
            refine gf_Record_turn h 61 dX4_oldestStored_61 kw_149 (by omega) ?_
            refine g_aload_nq h 64 dX4_oldestStored_64 rfl rfl ?_
            refine gf_Record_turn h 65 dX4_oldestStored_65 kw_149 (by omega) ?_
            refine g_icmp_ge h 68 74 (gRi (by omega)) (gRi (by omega)) dX4_oldestStored_68 (by decide) (fun h9 => ?_) (fun h9 => ?_)
            · exact J9 (fun q => (fun q => q.elim (Int.not_lt.mpr h8) (Int.not_lt.mpr h9)) q.2)
            · exact J8 ⟨(iz_t h7), (Or.inr h9)⟩
      have J3 : ¬ (x_i_record1 < 18) → G X 0 0 80 [(7, 0), (6, x_oldest1), (21, 0), (0, 18), (0, x_i_record1), (1, 0), (1, 0)] [] (s1, m) := by
        intro h12
        have hF := ite_f h12 hF
        refine g_aload_nq h 80 dX4_oldestStored_80 rfl rfl ?_
        obtain ⟨e1, e2⟩ := some_2 hF
        rw [← e1, ← e2] at hE
        exact g_aret h 81 dX4_oldestStored_81 hE rfl ⟨(Nat.le_of_ble_eq_true rfl), (Nat.le_of_ble_eq_true rfl)⟩
      refine g_iload h 13 dX4_oldestStored_13 rfl ?_
      refine g_iload_n h 15 dX4_oldestStored_15 rfl ?_
      refine g_icmp_ge h 16 80 (gRi (by omega)) (gRi (by omega)) dX4_oldestStored_16 (by decide) (fun h1 => ?_) (fun h1 => ?_)
      · exact J3 (Int.not_lt.mpr h1)
      · exact J2 h1
  exact J10 _ _ _ _ (by omega) (by omega) hF
-- Pagewright$Records.placesTaken
def FX4_placesTaken (s : S2) : Option (Int × S2) :=
  rgd 0 10 <| gl2 1000 (fun k1 (x_places1 : Int) (x_i_is1 : Int) (s1 : S2) => if x_i_is1 < 10 then gd ((-2147483648) ≤ x_places1 + (if s1 49 x_i_is1 ≠ 0 then 1 else 0 : Int) ∧ x_places1 + (if s1 49 x_i_is1 ≠ 0 then 1 else 0 : Int) ≤ 2147483647) <| k1 (x_places1 + (if s1 49 x_i_is1 ≠ 0 then 1 else 0 : Int)) (x_i_is1 + 1) s1 else some (x_places1, s1)) 0 0 s
theorem rgX4_placesTaken {s s0 : S2} {r0 : Int} (hF : FX4_placesTaken s = some (r0, s0)) : 0 ≤ r0 ∧ r0 ≤ 10 := (rgd_some hF).2
set_option maxRecDepth 100000 in
set_option maxHeartbeats 4000000 in
theorem ctX4_placesTaken {l : Launch} {w : gW} {bs : Nat} (hl : l.stackTraces = false) {s m s0 : S2} {r0 : Int} (hF : FX4_placesTaken s = some (r0, s0)) : gMet l w bs yX4_placesTaken cX4_placesTaken 6 (some FieldType.int) 0 0 [(7, 0)] (s, m) 0 (some (0, r0)) (s0, m) := by
  unfold FX4_placesTaken at hF
  obtain ⟨hF, hr⟩ := rgd_some hF
  refine g_start hl (by decide) (Nat.le_of_ble_eq_true rfl) rfl fun X h hE => ?_
  have h : gOk X "Pagewright$Records" cX4_placesTaken 6 0 0 0 := h
  have hE : gEnd X l w bs 0 (some FieldType.int) 0 (some (0, r0)) (s0, m) := hE
  show G X 0 0 0 [(7, 0), (1, 0), (1, 0), (1, 0), (1, 0), (1, 0)] [] (s, m)
  refine g_iconst h 0 dX4_placesTaken_0 ?_
  refine g_istore_n h 1 dX4_placesTaken_1 (Nat.le_of_ble_eq_true rfl) rfl (L' := [(7, 0), (0, 0), (1, 0), (1, 0), (1, 0), (1, 0)]) rfl ?_
  refine g_aload_nq h 2 dX4_placesTaken_2 rfl rfl ?_
  refine gf_Records_taken h 3 dX4_placesTaken_3 kw_165 ?_
  refine g_astore_n h 6 dX4_placesTaken_6 (Nat.le_of_ble_eq_true rfl) rfl (L' := [(7, 0), (0, 0), (22, 0), (1, 0), (1, 0), (1, 0)]) rfl ?_
  refine g_aload_nq h 7 dX4_placesTaken_7 rfl rfl ?_
  refine an_Records_taken h 8 dX4_placesTaken_8 ?_
  refine g_istore_n h 9 dX4_placesTaken_9 (Nat.le_of_ble_eq_true rfl) rfl (L' := [(7, 0), (0, 0), (22, 0), (0, 10), (1, 0), (1, 0)]) rfl ?_
  refine g_iconst h 10 dX4_placesTaken_10 ?_
  refine g_istore h 11 dX4_placesTaken_11 (Nat.le_of_ble_eq_true rfl) rfl (L' := [(7, 0), (0, 0), (22, 0), (0, 10), (0, 0), (1, 0)]) rfl ?_
  obtain ⟨f1, ef1, hF⟩ := glx2 hF
  have J7 : ∀ (n1 : Nat) (x_places1 x_i_is1 : Int) (s1 : S2), ((-2147483648) ≤ x_places1 ∧ x_places1 ≤ 2147483647) → (0 ≤ x_i_is1 ∧ x_i_is1 ≤ 10) → gl2 n1 f1 x_places1 x_i_is1 s1 = some (r0, s0) → G X 0 0 13 [(7, 0), (0, x_places1), (22, 0), (0, 10), (0, x_i_is1), (1, 0)] [] (s1, m) := by
    intro n1
    induction n1 with
    | zero => intro x_places1 x_i_is1 s1 _ _ hF; exact (gl2_0 hF).elim
    | succ n1 ih1 =>
      intro x_places1 x_i_is1 s1 q1 q2 hF
      obtain ⟨k1, ek1, hF⟩ := glu2 hF ef1
      have J2 : x_i_is1 < 10 → G X 0 0 19 [(7, 0), (0, x_places1), (22, 0), (0, 10), (0, x_i_is1), (1, 0)] [] (s1, m) := by
        intro h2
        have hF := ite_t h2 hF
        refine G_typ fun hT_s1 => ?_
        have t1 : 0 ≤ s1 49 x_i_is1 ∧ s1 49 x_i_is1 ≤ 1 := hT_s1.1 49 x_i_is1
        refine g_aload_nq h 19 dX4_placesTaken_19 rfl rfl ?_
        refine g_iload h 20 dX4_placesTaken_20 rfl ?_
        refine al_Records_taken h 22 dX4_placesTaken_22 (by omega) ?_
        refine g_istore h 23 dX4_placesTaken_23 (Nat.le_of_ble_eq_true rfl) rfl (L' := [(7, 0), (0, x_places1), (22, 0), (0, 10), (0, x_i_is1), (0, s1 49 x_i_is1)]) rfl ?_
        refine g_iload_n h 25 dX4_placesTaken_25 rfl ?_
        suffices J4 : ∀ v1 : Int, v1 = (if s1 49 x_i_is1 ≠ 0 then 1 else 0 : Int) → G X 0 0 36 [(7, 0), (0, x_places1), (22, 0), (0, 10), (0, x_i_is1), (0, s1 49 x_i_is1)] [(0, v1), (0, x_places1)] (s1, m) by
          have J5 : s1 49 x_i_is1 ≠ 0 → G X 0 0 31 [(7, 0), (0, x_places1), (22, 0), (0, 10), (0, x_i_is1), (0, s1 49 x_i_is1)] [(0, x_places1)] (s1, m) := by
            intro h4
            refine g_iconst h 31 dX4_placesTaken_31 ?_
            refine g_goto h 32 36 dX4_placesTaken_32 (by decide) ?_
            exact J4 _ (if_pos h4).symm
          have J6 : ¬ (s1 49 x_i_is1 ≠ 0) → G X 0 0 35 [(7, 0), (0, x_places1), (22, 0), (0, 10), (0, x_i_is1), (0, s1 49 x_i_is1)] [(0, x_places1)] (s1, m) := by
            intro h5
            refine g_iconst h 35 dX4_placesTaken_35 ?_
            exact J4 _ (if_neg h5).symm
          refine g_iload h 26 dX4_placesTaken_26 rfl ?_
          refine g_if_eq h 28 35 (gRi (by omega)) dX4_placesTaken_28 (by decide) (fun h3 => ?_) (fun h3 => ?_)
          · exact J6 (fun q => q h3)
          · exact J5 h3
        intro v1 e1
        subst e1
        refine g_iadd h 36 dX4_placesTaken_36 ?_
        refine g_istore_n h 37 dX4_placesTaken_37 (Nat.le_of_ble_eq_true rfl) rfl (L' := [(7, 0), (0, x_places1 + (if s1 49 x_i_is1 ≠ 0 then 1 else 0 : Int)), (22, 0), (0, 10), (0, x_i_is1), (0, s1 49 x_i_is1)]) rfl ?_
        refine g_iinc h 38 dX4_placesTaken_38 rfl rfl (L' := [(7, 0), (0, x_places1 + (if s1 49 x_i_is1 ≠ 0 then 1 else 0 : Int)), (22, 0), (0, 10), (0, x_i_is1 + 1), (0, s1 49 x_i_is1)]) rfl ?_
        refine g_goto h 41 13 dX4_placesTaken_41 (by decide) ?_
        obtain ⟨q3, hF⟩ := gd_some hF
        refine G_weak (L' := [(7, 0), (0, x_places1 + (if s1 49 x_i_is1 ≠ 0 then 1 else 0 : Int)), (22, 0), (0, 10), (0, x_i_is1 + 1), (1, 0)]) ⟨Or.inr rfl, Or.inr rfl, Or.inr rfl, Or.inr rfl, Or.inr rfl, Or.inl rfl, trivial⟩ ?_
        rw [ek1] at hF
        exact ih1 _ _ _ (by omega) (by omega) hF
      have J3 : ¬ (x_i_is1 < 10) → G X 0 0 44 [(7, 0), (0, x_places1), (22, 0), (0, 10), (0, x_i_is1), (1, 0)] [] (s1, m) := by
        intro h6
        have hF := ite_f h6 hF
        refine g_iload_n h 44 dX4_placesTaken_44 rfl ?_
        obtain ⟨e1, e2⟩ := some_2 hF
        rw [← e1, ← e2] at hE
        exact g_iret h 45 dX4_placesTaken_45 hE rfl rfl ⟨(Nat.le_of_ble_eq_true rfl), (Nat.le_of_ble_eq_true rfl)⟩
      refine g_iload h 13 dX4_placesTaken_13 rfl ?_
      refine g_iload_n h 15 dX4_placesTaken_15 rfl ?_
      refine g_icmp_ge h 16 44 (gRi (by omega)) (gRi (by omega)) dX4_placesTaken_16 (by decide) (fun h1 => ?_) (fun h1 => ?_)
      · exact J3 (Int.not_lt.mpr h1)
      · exact J2 h1
  exact J7 _ _ _ _ (by omega) (by omega) hF
-- Pagewright$Records.release
def FX4_release (a_record : Int) (s : S2) : Option (Int × S2) :=
  gd (0 ≤ a_record ∧ a_record ≤ 17) <| gd (0 ≤ (s 30 a_record) - 1 ∧ (s 30 a_record) - 1 ≤ 192) <| bn (upd2 s 30 a_record ((s 30 a_record) - 1)) fun s1 => if 0 < s1 30 a_record then some (0, s1) else bn (fun (s2 : S2) => some (0, s2)) fun k1 => if s1 28 a_record = 10 then gd (0 ≤ (s1 31 0) - (s1 27 a_record) ∧ (s1 31 0) - (s1 27 a_record) ≤ 8) <| bn (upd2 s1 31 0 ((s1 31 0) - (s1 27 a_record))) fun s3 => k1 s3 else bn (fun (s4 : S2) => k1 s4) fun k2 => if (0 ≤ s1 28 a_record) ∧ (s1 28 a_record < 10) then bn (upd2 s1 49 (s1 28 a_record) 0) fun s5 => k2 s5 else k2 s1
set_option maxRecDepth 100000 in
set_option maxHeartbeats 4000000 in
theorem ctX4_release {l : Launch} {w : gW} {bs : Nat} (hl : l.stackTraces = false) {a_record : Int} {s m s0 : S2} {r0 : Int} (hF : FX4_release a_record s = some (r0, s0)) : gMet l w bs yX4_release cX4_release 2 none 0 0 [(7, 0), (6, a_record)] (s, m) 0 none (s0, m) := by
  unfold FX4_release at hF
  obtain ⟨q_a_record, hF⟩ := gd_some hF
  refine g_start hl (by decide) (Nat.le_of_ble_eq_true rfl) rfl fun X h hE => ?_
  have h : gOk X "Pagewright$Records" cX4_release 2 0 0 0 := h
  have hE : gEnd X l w bs 0 none 0 none (s0, m) := hE
  show G X 0 0 0 [(7, 0), (6, a_record)] [] (s, m)
  refine g_aload_nq h 0 dX4_release_0 rfl rfl ?_
  refine G_typ fun hT_s => ?_
  have t1 : 0 ≤ s 30 a_record ∧ s 30 a_record ≤ 192 := hT_s.1 30 a_record
  refine g_dup h 1 dX4_release_1 (show (6 : Nat) ≠ 2 by decide) ?_
  refine gf_Record_holders h 2 dX4_release_2 kw_150 (by omega) ?_
  refine g_iconst h 5 dX4_release_5 ?_
  refine g_isub h 6 dX4_release_6 ?_
  obtain ⟨q1, hF⟩ := gd_some hF
  obtain ⟨s1, es1, hF⟩ := bn_ex hF
  refine pf_Record_holders h 7 dX4_release_7 kw_150 (by omega) (by omega) ?_
  rw [← es1]
  refine G_typ fun hT_s1 => ?_
  have t2 : 0 ≤ s1 30 a_record ∧ s1 30 a_record ≤ 192 := hT_s1.1 30 a_record
  have J1 : 0 < s1 30 a_record → G X 0 0 17 [(7, 0), (6, a_record)] [] (s1, m) := by
    intro h2
    have hF := ite_t h2 hF
    obtain ⟨e1, e2⟩ := some_2 hF
    rw [← e2] at hE
    exact g_vret h 17 dX4_release_17 hE rfl ⟨(Nat.le_of_ble_eq_true rfl), (Nat.le_of_ble_eq_true rfl)⟩
  have J2 : ¬ (0 < s1 30 a_record) → G X 0 0 18 [(7, 0), (6, a_record)] [] (s1, m) := by
    intro h3
    have hF := ite_f h3 hF
    obtain ⟨k1, ek1, hF⟩ := bn_ex hF
    have J3 : ∀ (s2 : S2), k1 s2 = some (r0, s0) → G X 0 0 69 [(7, 0), (6, a_record)] [] (s2, m) := by
      intro s2 hF
      rw [ek1] at hF
      obtain ⟨e1, e2⟩ := some_2 hF
      rw [← e2] at hE
      exact g_vret h 69 dX4_release_69 hE rfl ⟨(Nat.le_of_ble_eq_true rfl), (Nat.le_of_ble_eq_true rfl)⟩
    have t3 : 0 ≤ s1 28 a_record ∧ s1 28 a_record ≤ 10 := hT_s1.1 28 a_record
    have J4 : s1 28 a_record = 10 → G X 0 0 27 [(7, 0), (6, a_record)] [] (s1, m) := by
      intro h5
      have hF := ite_t h5 hF
      refine g_aload_nq h 27 dX4_release_27 rfl rfl ?_
      have t4 : 0 ≤ s1 31 0 ∧ s1 31 0 ≤ 8 := hT_s1.1 31 0
      refine g_dup h 28 dX4_release_28 (show (7 : Nat) ≠ 2 by decide) ?_
      refine gf_Records_used h 29 dX4_release_29 kw_166 ?_
      have t5 : 0 ≤ s1 27 a_record ∧ s1 27 a_record ≤ 2 := hT_s1.1 27 a_record
      refine g_aload_nq h 32 dX4_release_32 rfl rfl ?_
      refine gf_Record_size h 33 dX4_release_33 kw_146 (by omega) ?_
      refine g_isub h 36 dX4_release_36 ?_
      obtain ⟨q2, hF⟩ := gd_some hF
      obtain ⟨s3, es3, hF⟩ := bn_ex hF
      refine pf_Records_used h 37 dX4_release_37 kw_166 (by omega) ?_
      rw [← es3]
      refine g_goto h 40 69 dX4_release_40 (by decide) ?_
      exact J3 _ hF
    have J5 : ¬ (s1 28 a_record = 10) → G X 0 0 43 [(7, 0), (6, a_record)] [] (s1, m) := by
      intro h6
      have hF := ite_f h6 hF
      obtain ⟨k2, ek2, hF⟩ := bn_ex hF
      have J6 : ∀ (s4 : S2), k2 s4 = some (r0, s0) → G X 0 0 69 [(7, 0), (6, a_record)] [] (s4, m) := by
        intro s4 hF
        rw [ek2] at hF
        exact J3 _ hF
      have J7 : (0 ≤ s1 28 a_record) ∧ (s1 28 a_record < 10) → G X 0 0 59 [(7, 0), (6, a_record)] [] (s1, m) := by
        intro h9
        have hF := ite_t h9 hF
        refine g_aload_nq h 59 dX4_release_59 rfl rfl ?_
        refine gf_Records_taken h 60 dX4_release_60 kw_165 ?_
        refine g_aload_nq h 63 dX4_release_63 rfl rfl ?_
        refine gf_Record_place h 64 dX4_release_64 kw_147 (by omega) ?_
        refine g_iconst h 67 dX4_release_67 ?_
        obtain ⟨s5, es5, hF⟩ := bn_ex hF
        refine as_Records_taken h 68 dX4_release_68 (by omega) (by omega) ?_
        rw [← es5]
        exact J6 _ hF
      have J8 : ¬ ((0 ≤ s1 28 a_record) ∧ (s1 28 a_record < 10)) → G X 0 0 69 [(7, 0), (6, a_record)] [] (s1, m) := by
        intro h10
        have hF := ite_f h10 hF
        exact J6 _ hF
      refine g_aload_nq h 43 dX4_release_43 rfl rfl ?_
      refine gf_Record_place h 44 dX4_release_44 kw_147 (by omega) ?_
      refine g_if_lt h 47 69 (gRi (by omega)) dX4_release_47 (by decide) (fun h7 => ?_) (fun h7 => ?_)
      · exact J8 (fun q => (Int.not_le.mpr h7) q.1)
      · refine g_aload_nq h 50 dX4_release_50 rfl rfl ?_
        refine gf_Record_place h 51 dX4_release_51 kw_147 (by omega) ?_
        refine g_bipush h 54 dX4_release_54 (by decide) ?_
        refine g_icmp_ge h 56 69 (gRi (by omega)) (gRi (by omega)) dX4_release_56 (by decide) (fun h8 => ?_) (fun h8 => ?_)
        · exact J8 (fun q => (Int.not_lt.mpr h8) q.2)
        · exact J7 ⟨h7, h8⟩
    refine g_aload_nq h 18 dX4_release_18 rfl rfl ?_
    refine gf_Record_place h 19 dX4_release_19 kw_147 (by omega) ?_
    refine g_bipush h 22 dX4_release_22 (by decide) ?_
    refine g_icmp_ne h 24 43 (gRi (by omega)) (gRi (by omega)) dX4_release_24 (by decide) (fun h4 => ?_) (fun h4 => ?_)
    · exact J5 h4
    · exact J4 h4
  refine g_aload_nq h 10 dX4_release_10 rfl rfl ?_
  refine gf_Record_holders h 11 dX4_release_11 kw_150 (by omega) ?_
  refine g_if_le h 14 18 (gRi (by omega)) dX4_release_14 (by decide) (fun h1 => ?_) (fun h1 => ?_)
  · exact J2 (Int.not_lt.mpr h1)
  · exact J1 h1
-- Pagewright$Records.unused
def FX4_unused (s : S2) : Option (Int × S2) :=
  rgd (-1) 17 <| gl1 1000 (fun k1 (x_i_record1 : Int) (s1 : S2) => if x_i_record1 < 18 then if s1 30 x_i_record1 = 0 then some (x_i_record1, s1) else k1 (x_i_record1 + 1) s1 else some ((-1), s1)) 0 s
theorem rgX4_unused {s s0 : S2} {r0 : Int} (hF : FX4_unused s = some (r0, s0)) : (-1) ≤ r0 ∧ r0 ≤ 17 := (rgd_some hF).2
set_option maxRecDepth 100000 in
set_option maxHeartbeats 4000000 in
theorem ctX4_unused {l : Launch} {w : gW} {bs : Nat} (hl : l.stackTraces = false) {s m s0 : S2} {r0 : Int} (hF : FX4_unused s = some (r0, s0)) : gMet l w bs yX4_unused cX4_unused 5 (some (FieldType.object "Pagewright$Record")) 0 0 [(7, 0)] (s, m) 0 (some (6, r0)) (s0, m) := by
  unfold FX4_unused at hF
  obtain ⟨hF, hr⟩ := rgd_some hF
  refine g_start hl (by decide) (Nat.le_of_ble_eq_true rfl) rfl fun X h hE => ?_
  have h : gOk X "Pagewright$Records" cX4_unused 5 0 0 0 := h
  have hE : gEnd X l w bs 0 (some (FieldType.object "Pagewright$Record")) 0 (some (6, r0)) (s0, m) := hE
  show G X 0 0 0 [(7, 0), (1, 0), (1, 0), (1, 0), (1, 0)] [] (s, m)
  refine g_aload_nq h 0 dX4_unused_0 rfl rfl ?_
  refine gf_Records_all h 1 dX4_unused_1 kw_164 ?_
  refine g_astore_n h 4 dX4_unused_4 (Nat.le_of_ble_eq_true rfl) rfl (L' := [(7, 0), (21, 0), (1, 0), (1, 0), (1, 0)]) rfl ?_
  refine g_aload_nq h 5 dX4_unused_5 rfl rfl ?_
  refine an_Records_all h 6 dX4_unused_6 ?_
  refine g_istore_n h 7 dX4_unused_7 (Nat.le_of_ble_eq_true rfl) rfl (L' := [(7, 0), (21, 0), (0, 18), (1, 0), (1, 0)]) rfl ?_
  refine g_iconst h 8 dX4_unused_8 ?_
  refine g_istore_n h 9 dX4_unused_9 (Nat.le_of_ble_eq_true rfl) rfl (L' := [(7, 0), (21, 0), (0, 18), (0, 0), (1, 0)]) rfl ?_
  obtain ⟨f1, ef1, hF⟩ := glx1 hF
  have J6 : ∀ (n1 : Nat) (x_i_record1 : Int) (s1 : S2), (0 ≤ x_i_record1 ∧ x_i_record1 ≤ 18) → gl1 n1 f1 x_i_record1 s1 = some (r0, s0) → G X 0 0 10 [(7, 0), (21, 0), (0, 18), (0, x_i_record1), (1, 0)] [] (s1, m) := by
    intro n1
    induction n1 with
    | zero => intro x_i_record1 s1 _ hF; exact (gl1_0 hF).elim
    | succ n1 ih1 =>
      intro x_i_record1 s1 q1 hF
      obtain ⟨k1, ek1, hF⟩ := glu1 hF ef1
      have J2 : x_i_record1 < 18 → G X 0 0 15 [(7, 0), (21, 0), (0, 18), (0, x_i_record1), (1, 0)] [] (s1, m) := by
        intro h2
        have hF := ite_t h2 hF
        refine g_aload_nq h 15 dX4_unused_15 rfl rfl ?_
        refine g_iload_n h 16 dX4_unused_16 rfl ?_
        refine al_Records_all h 17 dX4_unused_17 (by omega) ?_
        refine g_astore h 18 dX4_unused_18 (Nat.le_of_ble_eq_true rfl) rfl (L' := [(7, 0), (21, 0), (0, 18), (0, x_i_record1), (6, x_i_record1)]) rfl ?_
        refine G_typ fun hT_s1 => ?_
        have t1 : 0 ≤ s1 30 x_i_record1 ∧ s1 30 x_i_record1 ≤ 192 := hT_s1.1 30 x_i_record1
        have J4 : s1 30 x_i_record1 = 0 → G X 0 0 28 [(7, 0), (21, 0), (0, 18), (0, x_i_record1), (6, x_i_record1)] [] (s1, m) := by
          intro h4
          have hF := ite_t h4 hF
          refine g_aloadq h 28 dX4_unused_28 rfl rfl ?_
          obtain ⟨e1, e2⟩ := some_2 hF
          rw [← e1, ← e2] at hE
          exact g_aret h 30 dX4_unused_30 hE rfl ⟨(Nat.le_of_ble_eq_true rfl), (Nat.le_of_ble_eq_true rfl)⟩
        have J5 : ¬ (s1 30 x_i_record1 = 0) → G X 0 0 31 [(7, 0), (21, 0), (0, 18), (0, x_i_record1), (6, x_i_record1)] [] (s1, m) := by
          intro h5
          have hF := ite_f h5 hF
          refine g_iinc h 31 dX4_unused_31 rfl rfl (L' := [(7, 0), (21, 0), (0, 18), (0, x_i_record1 + 1), (6, x_i_record1)]) rfl ?_
          refine g_goto h 34 10 dX4_unused_34 (by decide) ?_
          refine G_weak (L' := [(7, 0), (21, 0), (0, 18), (0, x_i_record1 + 1), (1, 0)]) ⟨Or.inr rfl, Or.inr rfl, Or.inr rfl, Or.inr rfl, Or.inl rfl, trivial⟩ ?_
          rw [ek1] at hF
          exact ih1 _ _ (by omega) hF
        refine g_aloadq h 20 dX4_unused_20 rfl rfl ?_
        refine gf_Record_holders h 22 dX4_unused_22 kw_150 (by omega) ?_
        refine g_if_ne h 25 31 (gRi (by omega)) dX4_unused_25 (by decide) (fun h3 => ?_) (fun h3 => ?_)
        · exact J5 h3
        · exact J4 h3
      have J3 : ¬ (x_i_record1 < 18) → G X 0 0 37 [(7, 0), (21, 0), (0, 18), (0, x_i_record1), (1, 0)] [] (s1, m) := by
        intro h6
        have hF := ite_f h6 hF
        refine g_nullq h 37 6 rfl dX4_unused_37 ?_
        obtain ⟨e1, e2⟩ := some_2 hF
        rw [← e1, ← e2] at hE
        exact g_aret h 38 dX4_unused_38 hE rfl ⟨(Nat.le_of_ble_eq_true rfl), (Nat.le_of_ble_eq_true rfl)⟩
      refine g_iload_n h 10 dX4_unused_10 rfl ?_
      refine g_iload_n h 11 dX4_unused_11 rfl ?_
      refine g_icmp_ge h 12 37 (gRi (by omega)) (gRi (by omega)) dX4_unused_12 (by decide) (fun h1 => ?_) (fun h1 => ?_)
      · exact J3 (Int.not_lt.mpr h1)
      · exact J2 h1
  exact J6 _ _ _ (by omega) hF
-- Pagewright$Space.having
def FX5_having (a_this a_state : Int) (s : S2) : Option (Int × S2) :=
  rgd 0 32 <| gd (0 ≤ a_this ∧ a_this ≤ 5) <| gd (0 ≤ a_state ∧ a_state ≤ 2) <| gl2 1000 (fun k1 (x_having1 : Int) (x_i_entry1 : Int) (s1 : S2) => if x_i_entry1 < 32 then gd (0 ≤ 32 * a_this + x_i_entry1 ∧ 32 * a_this + x_i_entry1 ≤ 191) <| gd ((-2147483648) ≤ x_having1 + (if (s1 2 (32 * a_this + x_i_entry1) ≠ 0) ∧ (s1 8 (32 * a_this + x_i_entry1) = a_state) then 1 else 0 : Int) ∧ x_having1 + (if (s1 2 (32 * a_this + x_i_entry1) ≠ 0) ∧ (s1 8 (32 * a_this + x_i_entry1) = a_state) then 1 else 0 : Int) ≤ 2147483647) <| k1 (x_having1 + (if (s1 2 (32 * a_this + x_i_entry1) ≠ 0) ∧ (s1 8 (32 * a_this + x_i_entry1) = a_state) then 1 else 0 : Int)) (x_i_entry1 + 1) s1 else some (x_having1, s1)) 0 0 s
theorem rgX5_having {a_this a_state : Int} {s s0 : S2} {r0 : Int} (hF : FX5_having a_this a_state s = some (r0, s0)) : 0 ≤ r0 ∧ r0 ≤ 32 := (rgd_some hF).2
set_option maxRecDepth 100000 in
set_option maxHeartbeats 4000000 in
theorem ctX5_having {l : Launch} {w : gW} {bs : Nat} (hl : l.stackTraces = false) {a_this a_state : Int} {s m s0 : S2} {r0 : Int} (hF : FX5_having a_this a_state s = some (r0, s0)) : gMet l w bs yX5_having cX5_having 7 (some FieldType.int) 0 0 [(8, a_this), (0, a_state)] (s, m) 0 (some (0, r0)) (s0, m) := by
  unfold FX5_having at hF
  obtain ⟨hF, hr⟩ := rgd_some hF
  obtain ⟨q_a_this, hF⟩ := gd_some hF
  obtain ⟨q_a_state, hF⟩ := gd_some hF
  refine g_start hl (by decide) (Nat.le_of_ble_eq_true rfl) rfl fun X h hE => ?_
  have h : gOk X "Pagewright$Space" cX5_having 7 0 0 0 := h
  have hE : gEnd X l w bs 0 (some FieldType.int) 0 (some (0, r0)) (s0, m) := hE
  show G X 0 0 0 [(8, a_this), (0, a_state), (1, 0), (1, 0), (1, 0), (1, 0), (1, 0)] [] (s, m)
  refine g_iconst h 0 dX5_having_0 ?_
  refine g_istore_n h 1 dX5_having_1 (Nat.le_of_ble_eq_true rfl) rfl (L' := [(8, a_this), (0, a_state), (0, 0), (1, 0), (1, 0), (1, 0), (1, 0)]) rfl ?_
  refine g_aload_nq h 2 dX5_having_2 rfl rfl ?_
  refine gf_Space_entries h 3 dX5_having_3 kw_253 (by omega) ?_
  refine g_astore_n h 6 dX5_having_6 (Nat.le_of_ble_eq_true rfl) rfl (L' := [(8, a_this), (0, a_state), (0, 0), (20, a_this), (1, 0), (1, 0), (1, 0)]) rfl ?_
  refine g_aload_nq h 7 dX5_having_7 rfl rfl ?_
  refine an_Space_entries h 8 dX5_having_8 (by omega) ?_
  refine g_istore h 9 dX5_having_9 (Nat.le_of_ble_eq_true rfl) rfl (L' := [(8, a_this), (0, a_state), (0, 0), (20, a_this), (0, 32), (1, 0), (1, 0)]) rfl ?_
  refine g_iconst h 11 dX5_having_11 ?_
  refine g_istore h 12 dX5_having_12 (Nat.le_of_ble_eq_true rfl) rfl (L' := [(8, a_this), (0, a_state), (0, 0), (20, a_this), (0, 32), (0, 0), (1, 0)]) rfl ?_
  obtain ⟨f1, ef1, hF⟩ := glx2 hF
  have J7 : ∀ (n1 : Nat) (x_having1 x_i_entry1 : Int) (s1 : S2), ((-2147483648) ≤ x_having1 ∧ x_having1 ≤ 2147483647) → (0 ≤ x_i_entry1 ∧ x_i_entry1 ≤ 32) → gl2 n1 f1 x_having1 x_i_entry1 s1 = some (r0, s0) → G X 0 0 14 [(8, a_this), (0, a_state), (0, x_having1), (20, a_this), (0, 32), (0, x_i_entry1), (1, 0)] [] (s1, m) := by
    intro n1
    induction n1 with
    | zero => intro x_having1 x_i_entry1 s1 _ _ hF; exact (gl2_0 hF).elim
    | succ n1 ih1 =>
      intro x_having1 x_i_entry1 s1 q1 q2 hF
      obtain ⟨k1, ek1, hF⟩ := glu2 hF ef1
      have J2 : x_i_entry1 < 32 → G X 0 0 21 [(8, a_this), (0, a_state), (0, x_having1), (20, a_this), (0, 32), (0, x_i_entry1), (1, 0)] [] (s1, m) := by
        intro h2
        have hF := ite_t h2 hF
        refine g_aload_nq h 21 dX5_having_21 rfl rfl ?_
        refine g_iload h 22 dX5_having_22 rfl ?_
        refine al_Space_entries h 24 dX5_having_24 (by omega) (by omega) ?_
        refine g_astore h 25 dX5_having_25 (Nat.le_of_ble_eq_true rfl) rfl (L' := [(8, a_this), (0, a_state), (0, x_having1), (20, a_this), (0, 32), (0, x_i_entry1), (4, 32 * a_this + x_i_entry1)]) rfl ?_
        refine G_typ fun hT_s1 => ?_
        have t1 : 0 ≤ s1 2 (32 * a_this + x_i_entry1) ∧ s1 2 (32 * a_this + x_i_entry1) ≤ 1 := hT_s1.1 2 (32 * a_this + x_i_entry1)
        have t2 : 0 ≤ s1 8 (32 * a_this + x_i_entry1) ∧ s1 8 (32 * a_this + x_i_entry1) ≤ 2 := hT_s1.1 8 (32 * a_this + x_i_entry1)
        obtain ⟨q3, hF⟩ := gd_some hF
        refine g_iload_n h 27 dX5_having_27 rfl ?_
        suffices J4 : ∀ v1 : Int, v1 = (if (s1 2 (32 * a_this + x_i_entry1) ≠ 0) ∧ (s1 8 (32 * a_this + x_i_entry1) = a_state) then 1 else 0 : Int) → G X 0 0 50 [(8, a_this), (0, a_state), (0, x_having1), (20, a_this), (0, 32), (0, x_i_entry1), (4, 32 * a_this + x_i_entry1)] [(0, v1), (0, x_having1)] (s1, m) by
          have J5 : (s1 2 (32 * a_this + x_i_entry1) ≠ 0) ∧ (s1 8 (32 * a_this + x_i_entry1) = a_state) → G X 0 0 45 [(8, a_this), (0, a_state), (0, x_having1), (20, a_this), (0, 32), (0, x_i_entry1), (4, 32 * a_this + x_i_entry1)] [(0, x_having1)] (s1, m) := by
            intro h5
            refine g_iconst h 45 dX5_having_45 ?_
            refine g_goto h 46 50 dX5_having_46 (by decide) ?_
            exact J4 _ (if_pos h5).symm
          have J6 : ¬ ((s1 2 (32 * a_this + x_i_entry1) ≠ 0) ∧ (s1 8 (32 * a_this + x_i_entry1) = a_state)) → G X 0 0 49 [(8, a_this), (0, a_state), (0, x_having1), (20, a_this), (0, 32), (0, x_i_entry1), (4, 32 * a_this + x_i_entry1)] [(0, x_having1)] (s1, m) := by
            intro h6
            refine g_iconst h 49 dX5_having_49 ?_
            exact J4 _ (if_neg h6).symm
          refine g_aloadq h 28 dX5_having_28 rfl rfl ?_
          refine gf_Entry_mapped h 30 dX5_having_30 kw_192 (by omega) ?_
          refine g_if_eq h 33 49 (gRi (by omega)) dX5_having_33 (by decide) (fun h3 => ?_) (fun h3 => ?_)
          · exact J6 (fun q => (fun q => q h3) q.1)
          · refine g_aloadq h 36 dX5_having_36 rfl rfl ?_
            refine gf_Entry_state h 38 dX5_having_38 kw_210 (by omega) ?_
            refine g_iload_n h 41 dX5_having_41 rfl ?_
            refine g_icmp_ne h 42 49 (gRi (by omega)) (gRi (by omega)) dX5_having_42 (by decide) (fun h4 => ?_) (fun h4 => ?_)
            · exact J6 (fun q => h4 q.2)
            · exact J5 ⟨h3, h4⟩
        intro v1 e1
        subst e1
        refine g_iadd h 50 dX5_having_50 ?_
        refine g_istore_n h 51 dX5_having_51 (Nat.le_of_ble_eq_true rfl) rfl (L' := [(8, a_this), (0, a_state), (0, x_having1 + (if (s1 2 (32 * a_this + x_i_entry1) ≠ 0) ∧ (s1 8 (32 * a_this + x_i_entry1) = a_state) then 1 else 0 : Int)), (20, a_this), (0, 32), (0, x_i_entry1), (4, 32 * a_this + x_i_entry1)]) rfl ?_
        refine g_iinc h 52 dX5_having_52 rfl rfl (L' := [(8, a_this), (0, a_state), (0, x_having1 + (if (s1 2 (32 * a_this + x_i_entry1) ≠ 0) ∧ (s1 8 (32 * a_this + x_i_entry1) = a_state) then 1 else 0 : Int)), (20, a_this), (0, 32), (0, x_i_entry1 + 1), (4, 32 * a_this + x_i_entry1)]) rfl ?_
        refine g_goto h 55 14 dX5_having_55 (by decide) ?_
        obtain ⟨q4, hF⟩ := gd_some hF
        refine G_weak (L' := [(8, a_this), (0, a_state), (0, x_having1 + (if (s1 2 (32 * a_this + x_i_entry1) ≠ 0) ∧ (s1 8 (32 * a_this + x_i_entry1) = a_state) then 1 else 0 : Int)), (20, a_this), (0, 32), (0, x_i_entry1 + 1), (1, 0)]) ⟨Or.inr rfl, Or.inr rfl, Or.inr rfl, Or.inr rfl, Or.inr rfl, Or.inr rfl, Or.inl rfl, trivial⟩ ?_
        rw [ek1] at hF
        exact ih1 _ _ _ (by omega) (by omega) hF
      have J3 : ¬ (x_i_entry1 < 32) → G X 0 0 58 [(8, a_this), (0, a_state), (0, x_having1), (20, a_this), (0, 32), (0, x_i_entry1), (1, 0)] [] (s1, m) := by
        intro h7
        have hF := ite_f h7 hF
        refine g_iload_n h 58 dX5_having_58 rfl ?_
        obtain ⟨e1, e2⟩ := some_2 hF
        rw [← e1, ← e2] at hE
        exact g_iret h 59 dX5_having_59 hE rfl rfl ⟨(Nat.le_of_ble_eq_true rfl), (Nat.le_of_ble_eq_true rfl)⟩
      refine g_iload h 14 dX5_having_14 rfl ?_
      refine g_iload h 16 dX5_having_16 rfl ?_
      refine g_icmp_ge h 18 58 (gRi (by omega)) (gRi (by omega)) dX5_having_18 (by decide) (fun h1 => ?_) (fun h1 => ?_)
      · exact J3 (Int.not_lt.mpr h1)
      · exact J2 h1
  exact J7 _ _ _ _ (by omega) (by omega) hF
-- Pagewright$Space.isScanned
set_option maxRecDepth 100000 in
theorem cpX5_isScanned {l : Launch} {w : gW} {bs : Nat} (hl : l.stackTraces = false) {a_this : Int} {s m : S2} (q_a_this : 0 ≤ a_this ∧ a_this ≤ 5) : gMet l w bs yX5_isScanned cX5_isScanned 1 (some FieldType.boolean) 0 0 [(8, a_this)] (s, m) 0 (some (0, (if (s 35 a_this ≠ 0) ∧ (s 36 a_this ≠ 0) then 1 else 0 : Int))) (s, m) := by
  refine g_start hl (by decide) (Nat.le_of_ble_eq_true rfl) rfl fun X h hE => ?_
  have h : gOk X "Pagewright$Space" cX5_isScanned 1 0 0 0 := h
  show G X 0 0 0 [(8, a_this)] [] (s, m)
  refine G_typ fun hT_s => ?_
  have t1 : 0 ≤ s 35 a_this ∧ s 35 a_this ≤ 1 := hT_s.1 35 a_this
  have t2 : 0 ≤ s 36 a_this ∧ s 36 a_this ≤ 1 := hT_s.1 36 a_this
  suffices J1 : ∀ v1 : Int, v1 = (if (s 35 a_this ≠ 0) ∧ (s 36 a_this ≠ 0) then 1 else 0 : Int) → G X 0 0 19 [(8, a_this)] [(0, v1)] (s, m) by
    have J2 : (s 35 a_this ≠ 0) ∧ (s 36 a_this ≠ 0) → G X 0 0 14 [(8, a_this)] [] (s, m) := by
      intro h3
      refine g_iconst h 14 dX5_isScanned_14 ?_
      refine g_goto h 15 19 dX5_isScanned_15 (by decide) ?_
      exact J1 _ (if_pos h3).symm
    have J3 : ¬ ((s 35 a_this ≠ 0) ∧ (s 36 a_this ≠ 0)) → G X 0 0 18 [(8, a_this)] [] (s, m) := by
      intro h4
      refine g_iconst h 18 dX5_isScanned_18 ?_
      exact J1 _ (if_neg h4).symm
    refine g_aload_nq h 0 dX5_isScanned_0 rfl rfl ?_
    refine gf_Space_living h 1 dX5_isScanned_1 kw_258 (by omega) ?_
    refine g_if_eq h 4 18 (gRi (by omega)) dX5_isScanned_4 (by decide) (fun h1 => ?_) (fun h1 => ?_)
    · exact J3 (fun q => (fun q => q h1) q.1)
    · refine g_aload_nq h 7 dX5_isScanned_7 rfl rfl ?_
      refine gf_Space_merging h 8 dX5_isScanned_8 kw_260 (by omega) ?_
      refine g_if_eq h 11 18 (gRi (by omega)) dX5_isScanned_11 (by decide) (fun h2 => ?_) (fun h2 => ?_)
      · exact J3 (fun q => (fun q => q h2) q.2)
      · exact J2 ⟨h1, h2⟩
  intro v1 e1
  subst e1
  exact g_iret h 19 dX5_isScanned_19 hE rfl (g_nb (by first | omega | (split <;> decide))) ⟨(Nat.le_of_ble_eq_true rfl), (Nat.le_of_ble_eq_true rfl)⟩
-- Pagewright$Space.mapped
def FX5_mapped (a_this a_from a_count : Int) (s : S2) : Option (Int × S2) :=
  rgd 0 32 <| gd (0 ≤ a_this ∧ a_this ≤ 5) <| gd (0 ≤ a_from ∧ a_from ≤ 31) <| gd (1 ≤ a_count ∧ a_count ≤ 32) <| gl2 1000 (fun k1 (x_mapped1 : Int) (x_i1 : Int) (s1 : S2) => if ((0 ≤ x_i1) ∧ (x_i1 < a_from + a_count)) ∧ (x_i1 < 32) then gd ((-2147483648) ≤ x_mapped1 + (if s1 2 (32 * a_this + x_i1) ≠ 0 then 1 else 0 : Int) ∧ x_mapped1 + (if s1 2 (32 * a_this + x_i1) ≠ 0 then 1 else 0 : Int) ≤ 2147483647) <| k1 (x_mapped1 + (if s1 2 (32 * a_this + x_i1) ≠ 0 then 1 else 0 : Int)) (x_i1 + 1) s1 else some (x_mapped1, s1)) 0 a_from s
theorem rgX5_mapped {a_this a_from a_count : Int} {s s0 : S2} {r0 : Int} (hF : FX5_mapped a_this a_from a_count s = some (r0, s0)) : 0 ≤ r0 ∧ r0 ≤ 32 := (rgd_some hF).2
set_option maxRecDepth 100000 in
set_option maxHeartbeats 4000000 in
theorem ctX5_mapped {l : Launch} {w : gW} {bs : Nat} (hl : l.stackTraces = false) {a_this a_from a_count : Int} {s m s0 : S2} {r0 : Int} (hF : FX5_mapped a_this a_from a_count s = some (r0, s0)) : gMet l w bs yX5_mapped cX5_mapped 5 (some FieldType.int) 0 0 [(8, a_this), (0, a_from), (0, a_count)] (s, m) 0 (some (0, r0)) (s0, m) := by
  unfold FX5_mapped at hF
  obtain ⟨hF, hr⟩ := rgd_some hF
  obtain ⟨q_a_this, hF⟩ := gd_some hF
  obtain ⟨q_a_from, hF⟩ := gd_some hF
  obtain ⟨q_a_count, hF⟩ := gd_some hF
  refine g_start hl (by decide) (Nat.le_of_ble_eq_true rfl) rfl fun X h hE => ?_
  have h : gOk X "Pagewright$Space" cX5_mapped 5 0 0 0 := h
  have hE : gEnd X l w bs 0 (some FieldType.int) 0 (some (0, r0)) (s0, m) := hE
  show G X 0 0 0 [(8, a_this), (0, a_from), (0, a_count), (1, 0), (1, 0)] [] (s, m)
  refine g_iconst h 0 dX5_mapped_0 ?_
  refine g_istore_n h 1 dX5_mapped_1 (Nat.le_of_ble_eq_true rfl) rfl (L' := [(8, a_this), (0, a_from), (0, a_count), (0, 0), (1, 0)]) rfl ?_
  refine g_iload_n h 2 dX5_mapped_2 rfl ?_
  refine g_istore h 3 dX5_mapped_3 (Nat.le_of_ble_eq_true rfl) rfl (L' := [(8, a_this), (0, a_from), (0, a_count), (0, 0), (0, a_from)]) rfl ?_
  obtain ⟨f1, ef1, hF⟩ := glx2 hF
  have J7 : ∀ (n1 : Nat) (x_mapped1 x_i1 : Int) (s1 : S2), ((-2147483648) ≤ x_mapped1 ∧ x_mapped1 ≤ 2147483647) → (0 ≤ x_i1 ∧ x_i1 ≤ 32) → gl2 n1 f1 x_mapped1 x_i1 s1 = some (r0, s0) → G X 0 0 5 [(8, a_this), (0, a_from), (0, a_count), (0, x_mapped1), (0, x_i1)] [] (s1, m) := by
    intro n1
    induction n1 with
    | zero => intro x_mapped1 x_i1 s1 _ _ hF; exact (gl2_0 hF).elim
    | succ n1 ih1 =>
      intro x_mapped1 x_i1 s1 q1 q2 hF
      obtain ⟨k1, ek1, hF⟩ := glu2 hF ef1
      have J2 : ((0 ≤ x_i1) ∧ (x_i1 < a_from + a_count)) ∧ (x_i1 < 32) → G X 0 0 25 [(8, a_this), (0, a_from), (0, a_count), (0, x_mapped1), (0, x_i1)] [] (s1, m) := by
        intro h4
        have hF := ite_t h4 hF
        refine G_typ fun hT_s1 => ?_
        have t1 : 0 ≤ s1 2 (32 * a_this + x_i1) ∧ s1 2 (32 * a_this + x_i1) ≤ 1 := hT_s1.1 2 (32 * a_this + x_i1)
        refine g_iload_n h 25 dX5_mapped_25 rfl ?_
        suffices J4 : ∀ v1 : Int, v1 = (if s1 2 (32 * a_this + x_i1) ≠ 0 then 1 else 0 : Int) → G X 0 0 44 [(8, a_this), (0, a_from), (0, a_count), (0, x_mapped1), (0, x_i1)] [(0, v1), (0, x_mapped1)] (s1, m) by
          have J5 : s1 2 (32 * a_this + x_i1) ≠ 0 → G X 0 0 39 [(8, a_this), (0, a_from), (0, a_count), (0, x_mapped1), (0, x_i1)] [(0, x_mapped1)] (s1, m) := by
            intro h6
            refine g_iconst h 39 dX5_mapped_39 ?_
            refine g_goto h 40 44 dX5_mapped_40 (by decide) ?_
            exact J4 _ (if_pos h6).symm
          have J6 : ¬ (s1 2 (32 * a_this + x_i1) ≠ 0) → G X 0 0 43 [(8, a_this), (0, a_from), (0, a_count), (0, x_mapped1), (0, x_i1)] [(0, x_mapped1)] (s1, m) := by
            intro h7
            refine g_iconst h 43 dX5_mapped_43 ?_
            exact J4 _ (if_neg h7).symm
          refine g_aload_nq h 26 dX5_mapped_26 rfl rfl ?_
          refine gf_Space_entries h 27 dX5_mapped_27 kw_253 (by omega) ?_
          refine g_iload h 30 dX5_mapped_30 rfl ?_
          refine al_Space_entries h 32 dX5_mapped_32 (by omega) (by omega) ?_
          refine gf_Entry_mapped h 33 dX5_mapped_33 kw_192 (by omega) ?_
          refine g_if_eq h 36 43 (gRi (by omega)) dX5_mapped_36 (by decide) (fun h5 => ?_) (fun h5 => ?_)
          · exact J6 (fun q => q h5)
          · exact J5 h5
        intro v1 e1
        subst e1
        refine g_iadd h 44 dX5_mapped_44 ?_
        refine g_istore_n h 45 dX5_mapped_45 (Nat.le_of_ble_eq_true rfl) rfl (L' := [(8, a_this), (0, a_from), (0, a_count), (0, x_mapped1 + (if s1 2 (32 * a_this + x_i1) ≠ 0 then 1 else 0 : Int)), (0, x_i1)]) rfl ?_
        refine g_iinc h 46 dX5_mapped_46 rfl rfl (L' := [(8, a_this), (0, a_from), (0, a_count), (0, x_mapped1 + (if s1 2 (32 * a_this + x_i1) ≠ 0 then 1 else 0 : Int)), (0, x_i1 + 1)]) rfl ?_
        refine g_goto h 49 5 dX5_mapped_49 (by decide) ?_
        obtain ⟨q3, hF⟩ := gd_some hF
        rw [ek1] at hF
        exact ih1 _ _ _ (by omega) (by omega) hF
      have J3 : ¬ (((0 ≤ x_i1) ∧ (x_i1 < a_from + a_count)) ∧ (x_i1 < 32)) → G X 0 0 52 [(8, a_this), (0, a_from), (0, a_count), (0, x_mapped1), (0, x_i1)] [] (s1, m) := by
        intro h8
        have hF := ite_f h8 hF
        refine g_iload_n h 52 dX5_mapped_52 rfl ?_
        obtain ⟨e1, e2⟩ := some_2 hF
        rw [← e1, ← e2] at hE
        exact g_iret h 53 dX5_mapped_53 hE rfl rfl ⟨(Nat.le_of_ble_eq_true rfl), (Nat.le_of_ble_eq_true rfl)⟩
      refine g_iload h 5 dX5_mapped_5 rfl ?_
      refine g_if_lt h 7 52 (gRi (by omega)) dX5_mapped_7 (by decide) (fun h1 => ?_) (fun h1 => ?_)
      · exact J3 (fun q => (fun q => (Int.not_le.mpr h1) q.1) q.1)
      · refine g_iload h 10 dX5_mapped_10 rfl ?_
        refine g_iload_n h 12 dX5_mapped_12 rfl ?_
        refine g_iload_n h 13 dX5_mapped_13 rfl ?_
        refine g_iadd h 14 dX5_mapped_14 ?_
        refine g_icmp_ge h 15 52 (gRi (by omega)) (gRi (by omega)) dX5_mapped_15 (by decide) (fun h2 => ?_) (fun h2 => ?_)
        · exact J3 (fun q => (fun q => (Int.not_lt.mpr h2) q.2) q.1)
        · refine g_iload h 18 dX5_mapped_18 rfl ?_
          refine g_bipush h 20 dX5_mapped_20 (by decide) ?_
          refine g_icmp_ge h 22 52 (gRi (by omega)) (gRi (by omega)) dX5_mapped_22 (by decide) (fun h3 => ?_) (fun h3 => ?_)
          · exact J3 (fun q => (Int.not_lt.mpr h3) q.2)
          · exact J2 ⟨⟨h1, h2⟩, h3⟩
  exact J7 _ _ _ _ (by omega) (by omega) hF
-- Pagewright.asNumber
set_option maxRecDepth 100000 in
theorem cpX7_asNumber {l : Launch} {w : gW} {bs : Nat} (hl : l.stackTraces = false) {a_is : Int} {s m : S2} (q_a_is : 0 ≤ a_is ∧ a_is ≤ 1) : gMet l w bs yX7_asNumber cX7_asNumber 1 (some FieldType.int) 0 0 [(0, a_is)] (s, m) 0 (some (0, (if a_is ≠ 0 then 1 else 0 : Int))) (s, m) := by
  refine g_start hl (by decide) (Nat.le_of_ble_eq_true rfl) rfl fun X h hE => ?_
  have h : gOk X "Pagewright" cX7_asNumber 1 0 0 0 := h
  show G X 0 0 0 [(0, a_is)] [] (s, m)
  suffices J1 : ∀ v1 : Int, v1 = (if a_is ≠ 0 then 1 else 0 : Int) → G X 0 0 9 [(0, a_is)] [(0, v1)] (s, m) by
    have J2 : a_is ≠ 0 → G X 0 0 4 [(0, a_is)] [] (s, m) := by
      intro h2
      refine g_iconst h 4 dX7_asNumber_4 ?_
      refine g_goto h 5 9 dX7_asNumber_5 (by decide) ?_
      exact J1 _ (if_pos h2).symm
    have J3 : ¬ (a_is ≠ 0) → G X 0 0 8 [(0, a_is)] [] (s, m) := by
      intro h3
      refine g_iconst h 8 dX7_asNumber_8 ?_
      exact J1 _ (if_neg h3).symm
    refine g_iload_n h 0 dX7_asNumber_0 rfl ?_
    refine g_if_eq h 1 8 (gRi (by omega)) dX7_asNumber_1 (by decide) (fun h1 => ?_) (fun h1 => ?_)
    · exact J3 (fun q => q h1)
    · exact J2 h1
  intro v1 e1
  subst e1
  exact g_iret h 9 dX7_asNumber_9 hE rfl rfl ⟨(Nat.le_of_ble_eq_true rfl), (Nat.le_of_ble_eq_true rfl)⟩
-- Pagewright.begin
def FX7_begin (a_group : Int) (s : S2) : Option (Int × S2) :=
  rgd 0 5 <| gd (0 ≤ a_group ∧ a_group ≤ 2) <| gd (0 ≤ (s 41 0) + 1 ∧ (s 41 0) + 1 ≤ 6) <| bn (upd2 s 41 0 ((s 41 0) + 1)) fun s1 => gd (0 ≤ (if s 41 0 < 6 then s 41 0 else 5 : Int) ∧ (if s 41 0 < 6 then s 41 0 else 5 : Int) ≤ 5) <| bn (upd2 s1 33 (if s 41 0 < 6 then s 41 0 else 5 : Int) a_group) fun s2 => bn (upd2 s2 35 (if s 41 0 < 6 then s 41 0 else 5 : Int) 1) fun s3 => some ((if s 41 0 < 6 then s 41 0 else 5 : Int), s3)
theorem rgX7_begin {a_group : Int} {s s0 : S2} {r0 : Int} (hF : FX7_begin a_group s = some (r0, s0)) : 0 ≤ r0 ∧ r0 ≤ 5 := (rgd_some hF).2
set_option maxRecDepth 100000 in
set_option maxHeartbeats 4000000 in
theorem ctX7_begin {l : Launch} {w : gW} {bs : Nat} (hl : l.stackTraces = false) {a_group : Int} {s m s0 : S2} {r0 : Int} (hF : FX7_begin a_group s = some (r0, s0)) : gMet l w bs yX7_begin cX7_begin 3 (some (FieldType.object "Pagewright$Space")) 0 0 [(10, 0), (0, a_group)] (s, m) 0 (some (8, r0)) (s0, m) := by
  unfold FX7_begin at hF
  obtain ⟨hF, hr⟩ := rgd_some hF
  obtain ⟨q_a_group, hF⟩ := gd_some hF
  refine g_start hl (by decide) (Nat.le_of_ble_eq_true rfl) rfl fun X h hE => ?_
  have h : gOk X "Pagewright" cX7_begin 3 0 0 0 := h
  have hE : gEnd X l w bs 0 (some (FieldType.object "Pagewright$Space")) 0 (some (8, r0)) (s0, m) := hE
  show G X 0 0 0 [(10, 0), (0, a_group), (1, 0)] [] (s, m)
  refine G_typ fun hT_s => ?_
  have t1 : 0 ≤ s 41 0 ∧ s 41 0 ≤ 6 := hT_s.1 41 0
  refine g_aload_nq h 0 dX7_begin_0 rfl rfl ?_
  refine gf_spaces h 1 dX7_begin_1 kw_361 ?_
  suffices J1 : ∀ v1 : Int, v1 = (if s 41 0 < 6 then s 41 0 else 5 : Int) → G X 0 0 21 [(10, 0), (0, a_group), (1, 0)] [(0, v1), (12, 0)] (s, m) by
    have J2 : s 41 0 < 6 → G X 0 0 13 [(10, 0), (0, a_group), (1, 0)] [(12, 0)] (s, m) := by
      intro h2
      refine g_aload_nq h 13 dX7_begin_13 rfl rfl ?_
      refine gf_made h 14 dX7_begin_14 kw_371 ?_
      refine g_goto h 17 21 dX7_begin_17 (by decide) ?_
      exact J1 _ (if_pos h2).symm
    have J3 : ¬ (s 41 0 < 6) → G X 0 0 20 [(10, 0), (0, a_group), (1, 0)] [(12, 0)] (s, m) := by
      intro h3
      refine g_iconst h 20 dX7_begin_20 ?_
      exact J1 _ (if_neg h3).symm
    refine g_aload_nq h 4 dX7_begin_4 rfl rfl ?_
    refine gf_made h 5 dX7_begin_5 kw_371 ?_
    refine g_bipush h 8 dX7_begin_8 (by decide) ?_
    refine g_icmp_ge h 10 20 (gRi (by omega)) (gRi (by omega)) dX7_begin_10 (by decide) (fun h1 => ?_) (fun h1 => ?_)
    · exact J3 (Int.not_lt.mpr h1)
    · exact J2 h1
  intro v1 e1
  subst e1
  refine al_spaces h 21 dX7_begin_21 (by omega) ?_
  refine g_astore_n h 22 dX7_begin_22 (Nat.le_of_ble_eq_true rfl) rfl (L' := [(10, 0), (0, a_group), (8, (if s 41 0 < 6 then s 41 0 else 5 : Int))]) rfl ?_
  refine g_aload_nq h 23 dX7_begin_23 rfl rfl ?_
  refine g_dup h 24 dX7_begin_24 (show (10 : Nat) ≠ 2 by decide) ?_
  refine gf_made h 25 dX7_begin_25 kw_371 ?_
  refine g_iconst h 28 dX7_begin_28 ?_
  refine g_iadd h 29 dX7_begin_29 ?_
  obtain ⟨q1, hF⟩ := gd_some hF
  obtain ⟨s1, es1, hF⟩ := bn_ex hF
  refine pf_made h 30 dX7_begin_30 kw_371 (by omega) ?_
  rw [← es1]
  refine g_aload_nq h 33 dX7_begin_33 rfl rfl ?_
  obtain ⟨q2, hF⟩ := gd_some hF
  refine g_iload_n h 34 dX7_begin_34 rfl ?_
  obtain ⟨s2, es2, hF⟩ := bn_ex hF
  refine pf_Space_group h 35 dX7_begin_35 kw_255 (by omega) (by omega) ?_
  rw [← es2]
  refine g_aload_nq h 38 dX7_begin_38 rfl rfl ?_
  refine g_iconst h 39 dX7_begin_39 ?_
  obtain ⟨s3, es3, hF⟩ := bn_ex hF
  refine pf_Space_living h 40 dX7_begin_40 kw_259 (by omega) (by omega) ?_
  rw [← es3]
  refine g_aload_nq h 43 dX7_begin_43 rfl rfl ?_
  obtain ⟨e1, e2⟩ := some_2 hF
  rw [← e1, ← e2] at hE
  exact g_aret h 44 dX7_begin_44 hE rfl ⟨(Nat.le_of_ble_eq_true rfl), (Nat.le_of_ble_eq_true rfl)⟩
-- Pagewright.bringToEnd
def FX7_bringToEnd (a_page a_list : Int) (s : S2) : Option (Int × S2) :=
  gd (0 ≤ a_page ∧ a_page ≤ 23) <| gd (0 ≤ a_list ∧ a_list ≤ 1) <| bn (upd2 s 40 0 ((s 40 0) + 1)) fun s1 => bn (upd2 s1 18 a_page (s1 40 0)) fun s2 => bn (upd2 s2 17 a_page a_list) fun s3 => some (0, s3)
set_option maxRecDepth 100000 in
set_option maxHeartbeats 4000000 in
theorem ctX7_bringToEnd {l : Launch} {w : gW} {bs : Nat} (hl : l.stackTraces = false) {a_page a_list : Int} {s m s0 : S2} {r0 : Int} (hF : FX7_bringToEnd a_page a_list s = some (r0, s0)) : gMet l w bs yX7_bringToEnd cX7_bringToEnd 3 none 0 0 [(10, 0), (5, a_page), (0, a_list)] (s, m) 0 none (s0, m) := by
  unfold FX7_bringToEnd at hF
  obtain ⟨q_a_page, hF⟩ := gd_some hF
  obtain ⟨q_a_list, hF⟩ := gd_some hF
  refine g_start hl (by decide) (Nat.le_of_ble_eq_true rfl) rfl fun X h hE => ?_
  have h : gOk X "Pagewright" cX7_bringToEnd 3 0 0 0 := h
  have hE : gEnd X l w bs 0 none 0 none (s0, m) := hE
  show G X 0 0 0 [(10, 0), (5, a_page), (0, a_list)] [] (s, m)
  refine g_aload_nq h 0 dX7_bringToEnd_0 rfl rfl ?_
  refine g_dup h 1 dX7_bringToEnd_1 (show (10 : Nat) ≠ 2 by decide) ?_
  refine gf_lastTurn h 2 dX7_bringToEnd_2 kw_370 ?_
  refine g_iconst h 5 dX7_bringToEnd_5 ?_
  refine g_iadd h 6 dX7_bringToEnd_6 ?_
  obtain ⟨s1, es1, hF⟩ := bn_ex hF
  refine pf_lastTurn h 7 dX7_bringToEnd_7 kw_370 ?_
  rw [← es1]
  refine g_aload_nq h 10 dX7_bringToEnd_10 rfl rfl ?_
  refine g_aload_nq h 11 dX7_bringToEnd_11 rfl rfl ?_
  refine gf_lastTurn h 12 dX7_bringToEnd_12 kw_370 ?_
  obtain ⟨s2, es2, hF⟩ := bn_ex hF
  refine pf_Page_turn h 15 dX7_bringToEnd_15 kw_289 (by omega) ?_
  rw [← es2]
  refine g_aload_nq h 18 dX7_bringToEnd_18 rfl rfl ?_
  refine g_iload_n h 19 dX7_bringToEnd_19 rfl ?_
  obtain ⟨s3, es3, hF⟩ := bn_ex hF
  refine pf_Page_list h 20 dX7_bringToEnd_20 kw_288 (by omega) (by omega) ?_
  rw [← es3]
  obtain ⟨e1, e2⟩ := some_2 hF
  rw [← e2] at hE
  exact g_vret h 23 dX7_bringToEnd_23 hE rfl ⟨(Nat.le_of_ble_eq_true rfl), (Nat.le_of_ble_eq_true rfl)⟩
-- Pagewright.isJoined
set_option maxRecDepth 100000 in
theorem cpX7_isJoined {l : Launch} {w : gW} {bs : Nat} (hl : l.stackTraces = false) {a_block : Int} {s m : S2} (q_a_block : 0 ≤ a_block ∧ a_block ≤ 47) : gMet l w bs yX7_isJoined cX7_isJoined 2 (some FieldType.boolean) 0 0 [(10, 0), (0, a_block)] (s, m) 0 (some (0, (if ((0 ≤ a_block) ∧ (a_block < 48)) ∧ (s 46 a_block ≠ 0) then 1 else 0 : Int))) (s, m) := by
  refine g_start hl (by decide) (Nat.le_of_ble_eq_true rfl) rfl fun X h hE => ?_
  have h : gOk X "Pagewright" cX7_isJoined 2 0 0 0 := h
  show G X 0 0 0 [(10, 0), (0, a_block)] [] (s, m)
  refine G_typ fun hT_s => ?_
  have t1 : 0 ≤ s 46 a_block ∧ s 46 a_block ≤ 1 := hT_s.1 46 a_block
  suffices J1 : ∀ v1 : Int, v1 = (if ((0 ≤ a_block) ∧ (a_block < 48)) ∧ (s 46 a_block ≠ 0) then 1 else 0 : Int) → G X 0 0 27 [(10, 0), (0, a_block)] [(0, v1)] (s, m) by
    have J2 : ((0 ≤ a_block) ∧ (a_block < 48)) ∧ (s 46 a_block ≠ 0) → G X 0 0 22 [(10, 0), (0, a_block)] [] (s, m) := by
      intro h4
      refine g_iconst h 22 dX7_isJoined_22 ?_
      refine g_goto h 23 27 dX7_isJoined_23 (by decide) ?_
      exact J1 _ (if_pos h4).symm
    have J3 : ¬ (((0 ≤ a_block) ∧ (a_block < 48)) ∧ (s 46 a_block ≠ 0)) → G X 0 0 26 [(10, 0), (0, a_block)] [] (s, m) := by
      intro h5
      refine g_iconst h 26 dX7_isJoined_26 ?_
      exact J1 _ (if_neg h5).symm
    refine g_iload_n h 0 dX7_isJoined_0 rfl ?_
    refine g_if_lt h 1 26 (gRi (by omega)) dX7_isJoined_1 (by decide) (fun h1 => ?_) (fun h1 => ?_)
    · exact J3 (fun q => (fun q => (Int.not_le.mpr h1) q.1) q.1)
    · refine g_iload_n h 4 dX7_isJoined_4 rfl ?_
      refine g_aload_nq h 5 dX7_isJoined_5 rfl rfl ?_
      refine gf_joined h 6 dX7_isJoined_6 kw_367 ?_
      refine an_joined h 9 dX7_isJoined_9 ?_
      refine g_icmp_ge h 10 26 (gRi (by omega)) (gRi (by omega)) dX7_isJoined_10 (by decide) (fun h2 => ?_) (fun h2 => ?_)
      · exact J3 (fun q => (fun q => (Int.not_lt.mpr h2) q.2) q.1)
      · refine g_aload_nq h 13 dX7_isJoined_13 rfl rfl ?_
        refine gf_joined h 14 dX7_isJoined_14 kw_367 ?_
        refine g_iload_n h 17 dX7_isJoined_17 rfl ?_
        refine al_joined h 18 dX7_isJoined_18 (by omega) ?_
        refine g_if_eq h 19 26 (gRi (by omega)) dX7_isJoined_19 (by decide) (fun h3 => ?_) (fun h3 => ?_)
        · exact J3 (fun q => (fun q => q h3) q.2)
        · exact J2 ⟨⟨h1, h2⟩, h3⟩
  intro v1 e1
  subst e1
  exact g_iret h 27 dX7_isJoined_27 hE rfl (g_nb (by first | omega | (split <;> decide))) ⟨(Nat.le_of_ble_eq_true rfl), (Nat.le_of_ble_eq_true rfl)⟩
-- Pagewright.isStorable
set_option maxRecDepth 100000 in
theorem cpX7_isStorable {l : Launch} {w : gW} {bs : Nat} (hl : l.stackTraces = false) {a_entry a_page : Int} {s m : S2} (q_a_entry : 0 ≤ a_entry ∧ a_entry ≤ 191) (q_a_page : 0 ≤ a_page ∧ a_page ≤ 23) : gMet l w bs yX7_isStorable cX7_isStorable 2 (some FieldType.boolean) 0 0 [(4, a_entry), (5, a_page)] (s, m) 0 (some (0, (if s 15 a_page = 2 then s 6 a_entry else (if s 20 a_page = 1 then 1 else 0 : Int) : Int))) (s, m) := by
  refine g_start hl (by decide) (Nat.le_of_ble_eq_true rfl) rfl fun X h hE => ?_
  have h : gOk X "Pagewright" cX7_isStorable 2 0 0 0 := h
  show G X 0 0 0 [(4, a_entry), (5, a_page)] [] (s, m)
  refine G_typ fun hT_s => ?_
  have t1 : 0 ≤ s 15 a_page ∧ s 15 a_page ≤ 2 := hT_s.1 15 a_page
  have t2 : 0 ≤ s 6 a_entry ∧ s 6 a_entry ≤ 1 := hT_s.1 6 a_entry
  have t3 : 0 ≤ s 20 a_page ∧ s 20 a_page ≤ 192 := hT_s.1 20 a_page
  suffices J1 : ∀ v2 : Int, v2 = (if s 15 a_page = 2 then s 6 a_entry else (if s 20 a_page = 1 then 1 else 0 : Int) : Int) → G X 0 0 28 [(4, a_entry), (5, a_page)] [(0, v2)] (s, m) by
    have J2 : s 15 a_page = 2 → G X 0 0 8 [(4, a_entry), (5, a_page)] [] (s, m) := by
      intro h2
      refine g_aload_nq h 8 dX7_isStorable_8 rfl rfl ?_
      refine gf_Entry_shared h 9 dX7_isStorable_9 kw_206 (by omega) ?_
      refine g_goto h 12 28 dX7_isStorable_12 (by decide) ?_
      exact J1 _ (if_pos h2).symm
    have J3 : ¬ (s 15 a_page = 2) → G X 0 0 15 [(4, a_entry), (5, a_page)] [] (s, m) := by
      intro h3
      suffices J4 : ∀ v1 : Int, v1 = (if s 20 a_page = 1 then 1 else 0 : Int) → G X 0 0 28 [(4, a_entry), (5, a_page)] [(0, v1)] (s, m) by
        have J5 : s 20 a_page = 1 → G X 0 0 23 [(4, a_entry), (5, a_page)] [] (s, m) := by
          intro h5
          refine g_iconst h 23 dX7_isStorable_23 ?_
          refine g_goto h 24 28 dX7_isStorable_24 (by decide) ?_
          exact J4 _ (if_pos h5).symm
        have J6 : ¬ (s 20 a_page = 1) → G X 0 0 27 [(4, a_entry), (5, a_page)] [] (s, m) := by
          intro h6
          refine g_iconst h 27 dX7_isStorable_27 ?_
          exact J4 _ (if_neg h6).symm
        refine g_aload_nq h 15 dX7_isStorable_15 rfl rfl ?_
        refine gf_Page_holders h 16 dX7_isStorable_16 kw_294 (by omega) ?_
        refine g_iconst h 19 dX7_isStorable_19 ?_
        refine g_icmp_ne h 20 27 (gRi (by omega)) (gRi (by omega)) dX7_isStorable_20 (by decide) (fun h4 => ?_) (fun h4 => ?_)
        · exact J6 h4
        · exact J5 h4
      intro v1 e1
      subst e1
      exact J1 _ (if_neg h3).symm
    refine g_aload_nq h 0 dX7_isStorable_0 rfl rfl ?_
    refine gf_Page_kind h 1 dX7_isStorable_1 kw_284 (by omega) ?_
    refine g_iconst h 4 dX7_isStorable_4 ?_
    refine g_icmp_ne h 5 15 (gRi (by omega)) (gRi (by omega)) dX7_isStorable_5 (by decide) (fun h1 => ?_) (fun h1 => ?_)
    · exact J3 h1
    · exact J2 h1
  intro v2 e2
  subst e2
  exact g_iret h 28 dX7_isStorable_28 hE rfl (g_nb (by first | omega | (split <;> decide))) ⟨(Nat.le_of_ble_eq_true rfl), (Nat.le_of_ble_eq_true rfl)⟩
-- Pagewright.mergedTwin
def FX7_mergedTwin (a_like : Int) (s : S2) : Option (Int × S2) :=
  rgd (-1) 23 <| gd (0 ≤ a_like ∧ a_like ≤ 23) <| gl1 1000 (fun k1 (x_i_page1 : Int) (s1 : S2) => if x_i_page1 < 24 then if ((s1 15 x_i_page1 = 1) ∧ (s1 22 x_i_page1 ≠ 0)) ∧ (s1 16 x_i_page1 = s1 16 a_like) then some (x_i_page1, s1) else k1 (x_i_page1 + 1) s1 else some ((-1), s1)) 0 s
theorem rgX7_mergedTwin {a_like : Int} {s s0 : S2} {r0 : Int} (hF : FX7_mergedTwin a_like s = some (r0, s0)) : (-1) ≤ r0 ∧ r0 ≤ 23 := (rgd_some hF).2
set_option maxRecDepth 100000 in
set_option maxHeartbeats 4000000 in
theorem ctX7_mergedTwin {l : Launch} {w : gW} {bs : Nat} (hl : l.stackTraces = false) {a_like : Int} {s m s0 : S2} {r0 : Int} (hF : FX7_mergedTwin a_like s = some (r0, s0)) : gMet l w bs yX7_mergedTwin cX7_mergedTwin 6 (some (FieldType.object "Pagewright$Page")) 0 0 [(10, 0), (5, a_like)] (s, m) 0 (some (5, r0)) (s0, m) := by
  unfold FX7_mergedTwin at hF
  obtain ⟨hF, hr⟩ := rgd_some hF
  obtain ⟨q_a_like, hF⟩ := gd_some hF
  refine g_start hl (by decide) (Nat.le_of_ble_eq_true rfl) rfl fun X h hE => ?_
  have h : gOk X "Pagewright" cX7_mergedTwin 6 0 0 0 := h
  have hE : gEnd X l w bs 0 (some (FieldType.object "Pagewright$Page")) 0 (some (5, r0)) (s0, m) := hE
  show G X 0 0 0 [(10, 0), (5, a_like), (1, 0), (1, 0), (1, 0), (1, 0)] [] (s, m)
  refine g_aload_nq h 0 dX7_mergedTwin_0 rfl rfl ?_
  refine gf_pages h 1 dX7_mergedTwin_1 kw_362 ?_
  refine g_astore_n h 4 dX7_mergedTwin_4 (Nat.le_of_ble_eq_true rfl) rfl (L' := [(10, 0), (5, a_like), (13, 0), (1, 0), (1, 0), (1, 0)]) rfl ?_
  refine g_aload_nq h 5 dX7_mergedTwin_5 rfl rfl ?_
  refine an_pages h 6 dX7_mergedTwin_6 ?_
  refine g_istore_n h 7 dX7_mergedTwin_7 (Nat.le_of_ble_eq_true rfl) rfl (L' := [(10, 0), (5, a_like), (13, 0), (0, 24), (1, 0), (1, 0)]) rfl ?_
  refine g_iconst h 8 dX7_mergedTwin_8 ?_
  refine g_istore h 9 dX7_mergedTwin_9 (Nat.le_of_ble_eq_true rfl) rfl (L' := [(10, 0), (5, a_like), (13, 0), (0, 24), (0, 0), (1, 0)]) rfl ?_
  obtain ⟨f1, ef1, hF⟩ := glx1 hF
  have J6 : ∀ (n1 : Nat) (x_i_page1 : Int) (s1 : S2), (0 ≤ x_i_page1 ∧ x_i_page1 ≤ 24) → gl1 n1 f1 x_i_page1 s1 = some (r0, s0) → G X 0 0 11 [(10, 0), (5, a_like), (13, 0), (0, 24), (0, x_i_page1), (1, 0)] [] (s1, m) := by
    intro n1
    induction n1 with
    | zero => intro x_i_page1 s1 _ hF; exact (gl1_0 hF).elim
    | succ n1 ih1 =>
      intro x_i_page1 s1 q1 hF
      obtain ⟨k1, ek1, hF⟩ := glu1 hF ef1
      have J2 : x_i_page1 < 24 → G X 0 0 17 [(10, 0), (5, a_like), (13, 0), (0, 24), (0, x_i_page1), (1, 0)] [] (s1, m) := by
        intro h2
        have hF := ite_t h2 hF
        refine g_aload_nq h 17 dX7_mergedTwin_17 rfl rfl ?_
        refine g_iload h 18 dX7_mergedTwin_18 rfl ?_
        refine al_pages h 20 dX7_mergedTwin_20 (by omega) ?_
        refine g_astore h 21 dX7_mergedTwin_21 (Nat.le_of_ble_eq_true rfl) rfl (L' := [(10, 0), (5, a_like), (13, 0), (0, 24), (0, x_i_page1), (5, x_i_page1)]) rfl ?_
        refine G_typ fun hT_s1 => ?_
        have t1 : 0 ≤ s1 15 x_i_page1 ∧ s1 15 x_i_page1 ≤ 2 := hT_s1.1 15 x_i_page1
        have t2 : 0 ≤ s1 22 x_i_page1 ∧ s1 22 x_i_page1 ≤ 1 := hT_s1.1 22 x_i_page1
        have t3 : 0 ≤ s1 16 x_i_page1 ∧ s1 16 x_i_page1 ≤ 99999 := hT_s1.1 16 x_i_page1
        have t4 : 0 ≤ s1 16 a_like ∧ s1 16 a_like ≤ 99999 := hT_s1.1 16 a_like
        have J4 : ((s1 15 x_i_page1 = 1) ∧ (s1 22 x_i_page1 ≠ 0)) ∧ (s1 16 x_i_page1 = s1 16 a_like) → G X 0 0 52 [(10, 0), (5, a_like), (13, 0), (0, 24), (0, x_i_page1), (5, x_i_page1)] [] (s1, m) := by
          intro h6
          have hF := ite_t h6 hF
          refine g_aloadq h 52 dX7_mergedTwin_52 rfl rfl ?_
          obtain ⟨e1, e2⟩ := some_2 hF
          rw [← e1, ← e2] at hE
          exact g_aret h 54 dX7_mergedTwin_54 hE rfl ⟨(Nat.le_of_ble_eq_true rfl), (Nat.le_of_ble_eq_true rfl)⟩
        have J5 : ¬ (((s1 15 x_i_page1 = 1) ∧ (s1 22 x_i_page1 ≠ 0)) ∧ (s1 16 x_i_page1 = s1 16 a_like)) → G X 0 0 55 [(10, 0), (5, a_like), (13, 0), (0, 24), (0, x_i_page1), (5, x_i_page1)] [] (s1, m) := by
          intro h7
          have hF := ite_f h7 hF
          refine g_iinc h 55 dX7_mergedTwin_55 rfl rfl (L' := [(10, 0), (5, a_like), (13, 0), (0, 24), (0, x_i_page1 + 1), (5, x_i_page1)]) rfl ?_
          refine g_goto h 58 11 dX7_mergedTwin_58 (by decide) ?_
          refine G_weak (L' := [(10, 0), (5, a_like), (13, 0), (0, 24), (0, x_i_page1 + 1), (1, 0)]) ⟨Or.inr rfl, Or.inr rfl, Or.inr rfl, Or.inr rfl, Or.inr rfl, Or.inl rfl, trivial⟩ ?_
          rw [ek1] at hF
          exact ih1 _ _ (by omega) hF
        refine g_aloadq h 23 dX7_mergedTwin_23 rfl rfl ?_
        refine gf_Page_kind h 25 dX7_mergedTwin_25 kw_284 (by omega) ?_
        refine g_iconst h 28 dX7_mergedTwin_28 ?_
        refine g_icmp_ne h 29 55 (gRi (by omega)) (gRi (by omega)) dX7_mergedTwin_29 (by decide) (fun h3 => ?_) (fun h3 => ?_)
        · exact J5 (fun q => (fun q => h3 q.1) q.1)
        · refine g_aloadq h 32 dX7_mergedTwin_32 rfl rfl ?_
          refine gf_Page_merged h 34 dX7_mergedTwin_34 kw_297 (by omega) ?_
          refine g_if_eq h 37 55 (gRi (by omega)) dX7_mergedTwin_37 (by decide) (fun h4 => ?_) (fun h4 => ?_)
          · exact J5 (fun q => (fun q => (fun q => q h4) q.2) q.1)
          · refine g_aloadq h 40 dX7_mergedTwin_40 rfl rfl ?_
            refine gf_Page_value h 42 dX7_mergedTwin_42 kw_286 (by omega) ?_
            refine g_aload_nq h 45 dX7_mergedTwin_45 rfl rfl ?_
            refine gf_Page_value h 46 dX7_mergedTwin_46 kw_286 (by omega) ?_
            refine g_icmp_ne h 49 55 (gRi (by omega)) (gRi (by omega)) dX7_mergedTwin_49 (by decide) (fun h5 => ?_) (fun h5 => ?_)
            · exact J5 (fun q => h5 q.2)
            · exact J4 ⟨⟨h3, h4⟩, h5⟩
      have J3 : ¬ (x_i_page1 < 24) → G X 0 0 61 [(10, 0), (5, a_like), (13, 0), (0, 24), (0, x_i_page1), (1, 0)] [] (s1, m) := by
        intro h8
        have hF := ite_f h8 hF
        refine g_nullq h 61 5 rfl dX7_mergedTwin_61 ?_
        obtain ⟨e1, e2⟩ := some_2 hF
        rw [← e1, ← e2] at hE
        exact g_aret h 62 dX7_mergedTwin_62 hE rfl ⟨(Nat.le_of_ble_eq_true rfl), (Nat.le_of_ble_eq_true rfl)⟩
      refine g_iload h 11 dX7_mergedTwin_11 rfl ?_
      refine g_iload_n h 13 dX7_mergedTwin_13 rfl ?_
      refine g_icmp_ge h 14 61 (gRi (by omega)) (gRi (by omega)) dX7_mergedTwin_14 (by decide) (fun h1 => ?_) (fun h1 => ?_)
      · exact J3 (Int.not_lt.mpr h1)
      · exact J2 h1
  exact J6 _ _ _ (by omega) hF
-- Pagewright.noteEviction
def FX7_noteEviction (a_page : Int) (s : S2) : Option (Int × S2) :=
  gd (0 ≤ a_page ∧ a_page ≤ 23) <| bn (fun (s1 : S2) => some (0, s1)) fun k1 => gd ((-2147483648) ≤ ((s 24 a_page) * 8) + (s 25 a_page) ∧ ((s 24 a_page) * 8) + (s 25 a_page) ≤ 2147483647) <| if (0 ≤ ((s 24 a_page) * 8) + (s 25 a_page)) ∧ (((s 24 a_page) * 8) + (s 25 a_page) < 24) then bn (upd2 s 45 (((s 24 a_page) * 8) + (s 25 a_page)) ((s 48 2) + 1)) fun s2 => k1 s2 else k1 s
set_option maxRecDepth 100000 in
set_option maxHeartbeats 4000000 in
theorem ctX7_noteEviction {l : Launch} {w : gW} {bs : Nat} (hl : l.stackTraces = false) {a_page : Int} {s m s0 : S2} {r0 : Int} (hF : FX7_noteEviction a_page s = some (r0, s0)) : gMet l w bs yX7_noteEviction cX7_noteEviction 3 none 0 0 [(10, 0), (5, a_page)] (s, m) 0 none (s0, m) := by
  unfold FX7_noteEviction at hF
  obtain ⟨q_a_page, hF⟩ := gd_some hF
  refine g_start hl (by decide) (Nat.le_of_ble_eq_true rfl) rfl fun X h hE => ?_
  have h : gOk X "Pagewright" cX7_noteEviction 3 0 0 0 := h
  have hE : gEnd X l w bs 0 none 0 none (s0, m) := hE
  show G X 0 0 0 [(10, 0), (5, a_page), (1, 0)] [] (s, m)
  refine G_typ fun hT_s => ?_
  have t1 : 0 ≤ s 24 a_page ∧ s 24 a_page ≤ 2 := hT_s.1 24 a_page
  have t2 : 0 ≤ s 25 a_page ∧ s 25 a_page ≤ 7 := hT_s.1 25 a_page
  refine g_aload_nq h 0 dX7_noteEviction_0 rfl rfl ?_
  refine gf_Page_file h 1 dX7_noteEviction_1 kw_301 (by omega) ?_
  refine g_bipush h 4 dX7_noteEviction_4 (by decide) ?_
  refine g_imul h 6 dX7_noteEviction_6 ?_
  refine g_aload_nq h 7 dX7_noteEviction_7 rfl rfl ?_
  refine gf_Page_index h 8 dX7_noteEviction_8 kw_303 (by omega) ?_
  refine g_iadd h 11 dX7_noteEviction_11 ?_
  refine g_istore_n h 12 dX7_noteEviction_12 (Nat.le_of_ble_eq_true rfl) rfl (L' := [(10, 0), (5, a_page), (0, ((s 24 a_page) * 8) + (s 25 a_page))]) rfl ?_
  obtain ⟨k1, ek1, hF⟩ := bn_ex hF
  have J1 : ∀ (s1 : S2), k1 s1 = some (r0, s0) → G X 0 0 37 [(10, 0), (5, a_page), (0, ((s 24 a_page) * 8) + (s 25 a_page))] [] (s1, m) := by
    intro s1 hF
    rw [ek1] at hF
    obtain ⟨e1, e2⟩ := some_2 hF
    rw [← e2] at hE
    exact g_vret h 37 dX7_noteEviction_37 hE rfl ⟨(Nat.le_of_ble_eq_true rfl), (Nat.le_of_ble_eq_true rfl)⟩
  obtain ⟨q1, hF⟩ := gd_some hF
  have J2 : (0 ≤ ((s 24 a_page) * 8) + (s 25 a_page)) ∧ (((s 24 a_page) * 8) + (s 25 a_page) < 24) → G X 0 0 23 [(10, 0), (5, a_page), (0, ((s 24 a_page) * 8) + (s 25 a_page))] [] (s, m) := by
    intro h3
    have hF := ite_t h3 hF
    refine g_aload_nq h 23 dX7_noteEviction_23 rfl rfl ?_
    refine gf_evictedAs h 24 dX7_noteEviction_24 kw_366 ?_
    refine g_iload_n h 27 dX7_noteEviction_27 rfl ?_
    refine g_aload_nq h 28 dX7_noteEviction_28 rfl rfl ?_
    refine gf_counts h 29 dX7_noteEviction_29 kw_369 ?_
    refine g_iconst h 32 dX7_noteEviction_32 ?_
    refine al_counts h 33 dX7_noteEviction_33 (by omega) ?_
    refine g_iconst h 34 dX7_noteEviction_34 ?_
    refine g_iadd h 35 dX7_noteEviction_35 ?_
    obtain ⟨s2, es2, hF⟩ := bn_ex hF
    refine as_evictedAs h 36 dX7_noteEviction_36 (by omega) ?_
    rw [← es2]
    exact J1 _ hF
  have J3 : ¬ ((0 ≤ ((s 24 a_page) * 8) + (s 25 a_page)) ∧ (((s 24 a_page) * 8) + (s 25 a_page) < 24)) → G X 0 0 37 [(10, 0), (5, a_page), (0, ((s 24 a_page) * 8) + (s 25 a_page))] [] (s, m) := by
    intro h4
    have hF := ite_f h4 hF
    exact J1 _ hF
  refine g_iload_n h 13 dX7_noteEviction_13 rfl ?_
  refine g_if_lt h 14 37 (gRi (by omega)) dX7_noteEviction_14 (by decide) (fun h1 => ?_) (fun h1 => ?_)
  · exact J3 (fun q => (Int.not_le.mpr h1) q.1)
  · refine g_iload_n h 17 dX7_noteEviction_17 rfl ?_
    refine g_bipush h 18 dX7_noteEviction_18 (by decide) ?_
    refine g_icmp_ge h 20 37 (gRi (by omega)) (gRi (by omega)) dX7_noteEviction_20 (by decide) (fun h2 => ?_) (fun h2 => ?_)
    · exact J3 (fun q => (Int.not_lt.mpr h2) q.2)
    · exact J2 ⟨h1, h2⟩
-- Pagewright.pageIn
def FX7_pageIn (a_frame : Int) (s : S2) : Option (Int × S2) :=
  rgd (-1) 23 <| gd ((-2147483648) ≤ a_frame ∧ a_frame ≤ 2147483647) <| some ((if (0 ≤ a_frame) ∧ (a_frame < 24) then a_frame else (-1) : Int), s)
theorem rgX7_pageIn {a_frame : Int} {s s0 : S2} {r0 : Int} (hF : FX7_pageIn a_frame s = some (r0, s0)) : (-1) ≤ r0 ∧ r0 ≤ 23 := (rgd_some hF).2
set_option maxRecDepth 100000 in
set_option maxHeartbeats 4000000 in
theorem ctX7_pageIn {l : Launch} {w : gW} {bs : Nat} (hl : l.stackTraces = false) {a_frame : Int} {s m s0 : S2} {r0 : Int} (hF : FX7_pageIn a_frame s = some (r0, s0)) : gMet l w bs yX7_pageIn cX7_pageIn 2 (some (FieldType.object "Pagewright$Page")) 0 0 [(10, 0), (0, a_frame)] (s, m) 0 (some (5, r0)) (s0, m) := by
  unfold FX7_pageIn at hF
  obtain ⟨hF, hr⟩ := rgd_some hF
  obtain ⟨q_a_frame, hF⟩ := gd_some hF
  refine g_start hl (by decide) (Nat.le_of_ble_eq_true rfl) rfl fun X h hE => ?_
  have h : gOk X "Pagewright" cX7_pageIn 2 0 0 0 := h
  have hE : gEnd X l w bs 0 (some (FieldType.object "Pagewright$Page")) 0 (some (5, r0)) (s0, m) := hE
  show G X 0 0 0 [(10, 0), (0, a_frame)] [] (s, m)
  suffices J1 : ∀ v1 : Int, v1 = (if (0 ≤ a_frame) ∧ (a_frame < 24) then a_frame else (-1) : Int) → G X 0 0 20 [(10, 0), (0, a_frame)] [(5, v1)] (s, m) by
    have J2 : (0 ≤ a_frame) ∧ (a_frame < 24) → G X 0 0 10 [(10, 0), (0, a_frame)] [] (s, m) := by
      intro h3
      refine g_aload_nq h 10 dX7_pageIn_10 rfl rfl ?_
      refine gf_pages h 11 dX7_pageIn_11 kw_362 ?_
      refine g_iload_n h 14 dX7_pageIn_14 rfl ?_
      refine al_pages h 15 dX7_pageIn_15 (by omega) ?_
      refine g_goto h 16 20 dX7_pageIn_16 (by decide) ?_
      exact J1 _ (if_pos h3).symm
    have J3 : ¬ ((0 ≤ a_frame) ∧ (a_frame < 24)) → G X 0 0 19 [(10, 0), (0, a_frame)] [] (s, m) := by
      intro h4
      refine g_nullq h 19 5 rfl dX7_pageIn_19 ?_
      exact J1 _ (if_neg h4).symm
    refine g_iload_n h 0 dX7_pageIn_0 rfl ?_
    refine g_if_lt h 1 19 (gRi (by omega)) dX7_pageIn_1 (by decide) (fun h1 => ?_) (fun h1 => ?_)
    · exact J3 (fun q => (Int.not_le.mpr h1) q.1)
    · refine g_iload_n h 4 dX7_pageIn_4 rfl ?_
      refine g_bipush h 5 dX7_pageIn_5 (by decide) ?_
      refine g_icmp_ge h 7 19 (gRi (by omega)) (gRi (by omega)) dX7_pageIn_7 (by decide) (fun h2 => ?_) (fun h2 => ?_)
      · exact J3 (fun q => (Int.not_lt.mpr h2) q.2)
      · exact J2 ⟨h1, h2⟩
  intro v1 e1
  subst e1
  obtain ⟨e1, e2⟩ := some_2 hF
  rw [← e1, ← e2] at hE
  exact g_aret h 20 dX7_pageIn_20 hE rfl ⟨(Nat.le_of_ble_eq_true rfl), (Nat.le_of_ble_eq_true rfl)⟩
-- Pagewright.passToNextSpace
def FX7_passToNextSpace (s : S2) : Option (Int × S2) :=
  bn (upd2 s 43 0 0) fun s1 => gd (0 ≤ (s1 42 0) + 1 ∧ (s1 42 0) + 1 ≤ 6) <| bn (upd2 s1 42 0 ((s1 42 0) + 1)) fun s2 => bn (fun (s3 : S2) => some (0, s3)) fun k1 => if 6 ≤ s2 42 0 then bn (upd2 s2 42 0 0) fun s4 => gl1 1000 (fun k2 (x_i_space1 : Int) (s5 : S2) => if x_i_space1 < 6 then gl1 1000 (fun k3 (x_i_entry1 : Int) (s6 : S2) => if x_i_entry1 < 32 then gd (0 ≤ 32 * x_i_space1 + x_i_entry1 ∧ 32 * x_i_space1 + x_i_entry1 ≤ 191) <| bn (upd2 s6 12 (32 * x_i_space1 + x_i_entry1) 0) fun s7 => k3 (x_i_entry1 + 1) s7 else k2 (x_i_space1 + 1) s6) 0 s5 else k1 s5) 0 s4 else k1 s2
set_option maxRecDepth 100000 in
set_option maxHeartbeats 4000000 in
theorem ctX7_passToNextSpace {l : Launch} {w : gW} {bs : Nat} (hl : l.stackTraces = false) {s m s0 : S2} {r0 : Int} (hF : FX7_passToNextSpace s = some (r0, s0)) : gMet l w bs yX7_passToNextSpace cX7_passToNextSpace 9 none 0 0 [(10, 0)] (s, m) 0 none (s0, m) := by
  unfold FX7_passToNextSpace at hF
  refine g_start hl (by decide) (Nat.le_of_ble_eq_true rfl) rfl fun X h hE => ?_
  have h : gOk X "Pagewright" cX7_passToNextSpace 9 0 0 0 := h
  have hE : gEnd X l w bs 0 none 0 none (s0, m) := hE
  show G X 0 0 0 [(10, 0), (1, 0), (1, 0), (1, 0), (1, 0), (1, 0), (1, 0), (1, 0), (1, 0)] [] (s, m)
  refine g_aload_nq h 0 dX7_passToNextSpace_0 rfl rfl ?_
  refine g_iconst h 1 dX7_passToNextSpace_1 ?_
  obtain ⟨s1, es1, hF⟩ := bn_ex hF
  refine pf_scanAddress h 2 dX7_passToNextSpace_2 kw_373 (by omega) ?_
  rw [← es1]
  refine g_aload_nq h 5 dX7_passToNextSpace_5 rfl rfl ?_
  refine G_typ fun hT_s1 => ?_
  have t1 : 0 ≤ s1 42 0 ∧ s1 42 0 ≤ 6 := hT_s1.1 42 0
  refine g_dup h 6 dX7_passToNextSpace_6 (show (10 : Nat) ≠ 2 by decide) ?_
  refine gf_scanSpace h 7 dX7_passToNextSpace_7 kw_372 ?_
  refine g_iconst h 10 dX7_passToNextSpace_10 ?_
  refine g_iadd h 11 dX7_passToNextSpace_11 ?_
  obtain ⟨q1, hF⟩ := gd_some hF
  obtain ⟨s2, es2, hF⟩ := bn_ex hF
  refine pf_scanSpace h 12 dX7_passToNextSpace_12 kw_372 (by omega) ?_
  rw [← es2]
  obtain ⟨k1, ek1, hF⟩ := bn_ex hF
  have J1 : ∀ (s3 : S2), k1 s3 = some (r0, s0) → G X 0 0 96 [(10, 0), (1, 0), (1, 0), (1, 0), (1, 0), (1, 0), (1, 0), (1, 0), (1, 0)] [] (s3, m) := by
    intro s3 hF
    rw [ek1] at hF
    obtain ⟨e1, e2⟩ := some_2 hF
    rw [← e2] at hE
    exact g_vret h 96 dX7_passToNextSpace_96 hE rfl ⟨(Nat.le_of_ble_eq_true rfl), (Nat.le_of_ble_eq_true rfl)⟩
  refine G_typ fun hT_s2 => ?_
  have t2 : 0 ≤ s2 42 0 ∧ s2 42 0 ≤ 6 := hT_s2.1 42 0
  have J2 : 6 ≤ s2 42 0 → G X 0 0 24 [(10, 0), (1, 0), (1, 0), (1, 0), (1, 0), (1, 0), (1, 0), (1, 0), (1, 0)] [] (s2, m) := by
    intro h2
    have hF := ite_t h2 hF
    refine g_aload_nq h 24 dX7_passToNextSpace_24 rfl rfl ?_
    refine g_iconst h 25 dX7_passToNextSpace_25 ?_
    obtain ⟨s4, es4, hF⟩ := bn_ex hF
    refine pf_scanSpace h 26 dX7_passToNextSpace_26 kw_372 (by omega) ?_
    rw [← es4]
    refine g_aload_nq h 29 dX7_passToNextSpace_29 rfl rfl ?_
    refine gf_spaces h 30 dX7_passToNextSpace_30 kw_361 ?_
    refine g_astore_n h 33 dX7_passToNextSpace_33 (Nat.le_of_ble_eq_true rfl) rfl (L' := [(10, 0), (12, 0), (1, 0), (1, 0), (1, 0), (1, 0), (1, 0), (1, 0), (1, 0)]) rfl ?_
    refine g_aload_nq h 34 dX7_passToNextSpace_34 rfl rfl ?_
    refine an_spaces h 35 dX7_passToNextSpace_35 ?_
    refine g_istore_n h 36 dX7_passToNextSpace_36 (Nat.le_of_ble_eq_true rfl) rfl (L' := [(10, 0), (12, 0), (0, 6), (1, 0), (1, 0), (1, 0), (1, 0), (1, 0), (1, 0)]) rfl ?_
    refine g_iconst h 37 dX7_passToNextSpace_37 ?_
    refine g_istore_n h 38 dX7_passToNextSpace_38 (Nat.le_of_ble_eq_true rfl) rfl (L' := [(10, 0), (12, 0), (0, 6), (0, 0), (1, 0), (1, 0), (1, 0), (1, 0), (1, 0)]) rfl ?_
    obtain ⟨f1, ef1, hF⟩ := glx1 hF
    have J11 : ∀ (n1 : Nat) (x_i_space1 : Int) (s5 : S2), (0 ≤ x_i_space1 ∧ x_i_space1 ≤ 6) → gl1 n1 f1 x_i_space1 s5 = some (r0, s0) → G X 0 0 39 [(10, 0), (12, 0), (0, 6), (0, x_i_space1), (1, 0), (1, 0), (1, 0), (1, 0), (1, 0)] [] (s5, m) := by
      intro n1
      induction n1 with
      | zero => intro x_i_space1 s5 _ hF; exact (gl1_0 hF).elim
      | succ n1 ih1 =>
        intro x_i_space1 s5 q2 hF
        obtain ⟨k2, ek2, hF⟩ := glu1 hF ef1
        have J5 : x_i_space1 < 6 → G X 0 0 44 [(10, 0), (12, 0), (0, 6), (0, x_i_space1), (1, 0), (1, 0), (1, 0), (1, 0), (1, 0)] [] (s5, m) := by
          intro h4
          have hF := ite_t h4 hF
          refine g_aload_nq h 44 dX7_passToNextSpace_44 rfl rfl ?_
          refine g_iload_n h 45 dX7_passToNextSpace_45 rfl ?_
          refine al_spaces h 46 dX7_passToNextSpace_46 (by omega) ?_
          refine g_astore h 47 dX7_passToNextSpace_47 (Nat.le_of_ble_eq_true rfl) rfl (L' := [(10, 0), (12, 0), (0, 6), (0, x_i_space1), (8, x_i_space1), (1, 0), (1, 0), (1, 0), (1, 0)]) rfl ?_
          refine g_aloadq h 49 dX7_passToNextSpace_49 rfl rfl ?_
          refine gf_Space_entries h 51 dX7_passToNextSpace_51 kw_254 (by omega) ?_
          refine g_astore h 54 dX7_passToNextSpace_54 (Nat.le_of_ble_eq_true rfl) rfl (L' := [(10, 0), (12, 0), (0, 6), (0, x_i_space1), (8, x_i_space1), (20, x_i_space1), (1, 0), (1, 0), (1, 0)]) rfl ?_
          refine g_aloadq h 56 dX7_passToNextSpace_56 rfl rfl ?_
          refine an_Space_entries h 58 dX7_passToNextSpace_58 (by omega) ?_
          refine g_istore h 59 dX7_passToNextSpace_59 (Nat.le_of_ble_eq_true rfl) rfl (L' := [(10, 0), (12, 0), (0, 6), (0, x_i_space1), (8, x_i_space1), (20, x_i_space1), (0, 32), (1, 0), (1, 0)]) rfl ?_
          refine g_iconst h 61 dX7_passToNextSpace_61 ?_
          refine g_istore h 62 dX7_passToNextSpace_62 (Nat.le_of_ble_eq_true rfl) rfl (L' := [(10, 0), (12, 0), (0, 6), (0, x_i_space1), (8, x_i_space1), (20, x_i_space1), (0, 32), (0, 0), (1, 0)]) rfl ?_
          obtain ⟨f2, ef2, hF⟩ := glx1 hF
          have J10 : ∀ (n2 : Nat) (x_i_entry1 : Int) (s6 : S2), (0 ≤ x_i_entry1 ∧ x_i_entry1 ≤ 32) → gl1 n2 f2 x_i_entry1 s6 = some (r0, s0) → G X 0 0 64 [(10, 0), (12, 0), (0, 6), (0, x_i_space1), (8, x_i_space1), (20, x_i_space1), (0, 32), (0, x_i_entry1), (1, 0)] [] (s6, m) := by
            intro n2
            induction n2 with
            | zero => intro x_i_entry1 s6 _ hF; exact (gl1_0 hF).elim
            | succ n2 ih2 =>
              intro x_i_entry1 s6 q3 hF
              obtain ⟨k3, ek3, hF⟩ := glu1 hF ef2
              have J8 : x_i_entry1 < 32 → G X 0 0 71 [(10, 0), (12, 0), (0, 6), (0, x_i_space1), (8, x_i_space1), (20, x_i_space1), (0, 32), (0, x_i_entry1), (1, 0)] [] (s6, m) := by
                intro h6
                have hF := ite_t h6 hF
                refine g_aloadq h 71 dX7_passToNextSpace_71 rfl rfl ?_
                refine g_iload h 73 dX7_passToNextSpace_73 rfl ?_
                refine al_Space_entries h 75 dX7_passToNextSpace_75 (by omega) (by omega) ?_
                refine g_astore h 76 dX7_passToNextSpace_76 (Nat.le_of_ble_eq_true rfl) rfl (L' := [(10, 0), (12, 0), (0, 6), (0, x_i_space1), (8, x_i_space1), (20, x_i_space1), (0, 32), (0, x_i_entry1), (4, 32 * x_i_space1 + x_i_entry1)]) rfl ?_
                refine g_aloadq h 78 dX7_passToNextSpace_78 rfl rfl ?_
                obtain ⟨q4, hF⟩ := gd_some hF
                refine g_iconst h 80 dX7_passToNextSpace_80 ?_
                obtain ⟨s7, es7, hF⟩ := bn_ex hF
                refine pf_Entry_looked h 81 dX7_passToNextSpace_81 kw_220 (by omega) (by omega) ?_
                rw [← es7]
                refine g_iinc h 84 dX7_passToNextSpace_84 rfl rfl (L' := [(10, 0), (12, 0), (0, 6), (0, x_i_space1), (8, x_i_space1), (20, x_i_space1), (0, 32), (0, x_i_entry1 + 1), (4, 32 * x_i_space1 + x_i_entry1)]) rfl ?_
                refine g_goto h 87 64 dX7_passToNextSpace_87 (by decide) ?_
                refine G_weak (L' := [(10, 0), (12, 0), (0, 6), (0, x_i_space1), (8, x_i_space1), (20, x_i_space1), (0, 32), (0, x_i_entry1 + 1), (1, 0)]) ⟨Or.inr rfl, Or.inr rfl, Or.inr rfl, Or.inr rfl, Or.inr rfl, Or.inr rfl, Or.inr rfl, Or.inr rfl, Or.inl rfl, trivial⟩ ?_
                rw [ek3] at hF
                exact ih2 _ _ (by omega) hF
              have J9 : ¬ (x_i_entry1 < 32) → G X 0 0 90 [(10, 0), (12, 0), (0, 6), (0, x_i_space1), (8, x_i_space1), (20, x_i_space1), (0, 32), (0, x_i_entry1), (1, 0)] [] (s6, m) := by
                intro h7
                have hF := ite_f h7 hF
                refine g_iinc h 90 dX7_passToNextSpace_90 rfl rfl (L' := [(10, 0), (12, 0), (0, 6), (0, x_i_space1 + 1), (8, x_i_space1), (20, x_i_space1), (0, 32), (0, x_i_entry1), (1, 0)]) rfl ?_
                refine g_goto h 93 39 dX7_passToNextSpace_93 (by decide) ?_
                refine G_weak (L' := [(10, 0), (12, 0), (0, 6), (0, x_i_space1 + 1), (1, 0), (1, 0), (1, 0), (1, 0), (1, 0)]) ⟨Or.inr rfl, Or.inr rfl, Or.inr rfl, Or.inr rfl, Or.inl rfl, Or.inl rfl, Or.inl rfl, Or.inl rfl, Or.inr rfl, trivial⟩ ?_
                rw [ek2] at hF
                exact ih1 _ _ (by omega) hF
              refine g_iload h 64 dX7_passToNextSpace_64 rfl ?_
              refine g_iload h 66 dX7_passToNextSpace_66 rfl ?_
              refine g_icmp_ge h 68 90 (gRi (by omega)) (gRi (by omega)) dX7_passToNextSpace_68 (by decide) (fun h5 => ?_) (fun h5 => ?_)
              · exact J9 (Int.not_lt.mpr h5)
              · exact J8 h5
          exact J10 _ _ _ (by omega) hF
        have J6 : ¬ (x_i_space1 < 6) → G X 0 0 96 [(10, 0), (12, 0), (0, 6), (0, x_i_space1), (1, 0), (1, 0), (1, 0), (1, 0), (1, 0)] [] (s5, m) := by
          intro h8
          have hF := ite_f h8 hF
          refine G_weak (L' := [(10, 0), (1, 0), (1, 0), (1, 0), (1, 0), (1, 0), (1, 0), (1, 0), (1, 0)]) ⟨Or.inr rfl, Or.inl rfl, Or.inl rfl, Or.inl rfl, Or.inr rfl, Or.inr rfl, Or.inr rfl, Or.inr rfl, Or.inr rfl, trivial⟩ ?_
          exact J1 _ hF
        refine g_iload_n h 39 dX7_passToNextSpace_39 rfl ?_
        refine g_iload_n h 40 dX7_passToNextSpace_40 rfl ?_
        refine g_icmp_ge h 41 96 (gRi (by omega)) (gRi (by omega)) dX7_passToNextSpace_41 (by decide) (fun h3 => ?_) (fun h3 => ?_)
        · exact J6 (Int.not_lt.mpr h3)
        · exact J5 h3
    exact J11 _ _ _ (by omega) hF
  have J3 : ¬ (6 ≤ s2 42 0) → G X 0 0 96 [(10, 0), (1, 0), (1, 0), (1, 0), (1, 0), (1, 0), (1, 0), (1, 0), (1, 0)] [] (s2, m) := by
    intro h9
    have hF := ite_f h9 hF
    exact J1 _ hF
  refine g_aload_nq h 15 dX7_passToNextSpace_15 rfl rfl ?_
  refine gf_scanSpace h 16 dX7_passToNextSpace_16 kw_372 ?_
  refine g_bipush h 19 dX7_passToNextSpace_19 (by decide) ?_
  refine g_icmp_lt h 21 96 (gRi (by omega)) (gRi (by omega)) dX7_passToNextSpace_21 (by decide) (fun h1 => ?_) (fun h1 => ?_)
  · exact J3 (Int.not_le.mpr h1)
  · exact J2 h1
-- Pagewright.setJoined
def FX7_setJoined (a_block a_is : Int) (s : S2) : Option (Int × S2) :=
  gd (0 ≤ a_block ∧ a_block ≤ 47) <| gd (0 ≤ a_is ∧ a_is ≤ 1) <| bn (fun (s1 : S2) => some (0, s1)) fun k1 => if (0 ≤ a_block) ∧ (a_block < 48) then bn (upd2 s 46 a_block a_is) fun s2 => k1 s2 else k1 s
set_option maxRecDepth 100000 in
set_option maxHeartbeats 4000000 in
theorem ctX7_setJoined {l : Launch} {w : gW} {bs : Nat} (hl : l.stackTraces = false) {a_block a_is : Int} {s m s0 : S2} {r0 : Int} (hF : FX7_setJoined a_block a_is s = some (r0, s0)) : gMet l w bs yX7_setJoined cX7_setJoined 3 none 0 0 [(10, 0), (0, a_block), (0, a_is)] (s, m) 0 none (s0, m) := by
  unfold FX7_setJoined at hF
  obtain ⟨q_a_block, hF⟩ := gd_some hF
  obtain ⟨q_a_is, hF⟩ := gd_some hF
  refine g_start hl (by decide) (Nat.le_of_ble_eq_true rfl) rfl fun X h hE => ?_
  have h : gOk X "Pagewright" cX7_setJoined 3 0 0 0 := h
  have hE : gEnd X l w bs 0 none 0 none (s0, m) := hE
  show G X 0 0 0 [(10, 0), (0, a_block), (0, a_is)] [] (s, m)
  obtain ⟨k1, ek1, hF⟩ := bn_ex hF
  have J1 : ∀ (s1 : S2), k1 s1 = some (r0, s0) → G X 0 0 20 [(10, 0), (0, a_block), (0, a_is)] [] (s1, m) := by
    intro s1 hF
    rw [ek1] at hF
    obtain ⟨e1, e2⟩ := some_2 hF
    rw [← e2] at hE
    exact g_vret h 20 dX7_setJoined_20 hE rfl ⟨(Nat.le_of_ble_eq_true rfl), (Nat.le_of_ble_eq_true rfl)⟩
  have J2 : (0 ≤ a_block) ∧ (a_block < 48) → G X 0 0 13 [(10, 0), (0, a_block), (0, a_is)] [] (s, m) := by
    intro h3
    have hF := ite_t h3 hF
    refine g_aload_nq h 13 dX7_setJoined_13 rfl rfl ?_
    refine gf_joined h 14 dX7_setJoined_14 kw_367 ?_
    refine g_iload_n h 17 dX7_setJoined_17 rfl ?_
    refine g_iload_n h 18 dX7_setJoined_18 rfl ?_
    obtain ⟨s2, es2, hF⟩ := bn_ex hF
    refine as_joined h 19 dX7_setJoined_19 (by omega) (by omega) ?_
    rw [← es2]
    exact J1 _ hF
  have J3 : ¬ ((0 ≤ a_block) ∧ (a_block < 48)) → G X 0 0 20 [(10, 0), (0, a_block), (0, a_is)] [] (s, m) := by
    intro h4
    have hF := ite_f h4 hF
    exact J1 _ hF
  refine g_iload_n h 0 dX7_setJoined_0 rfl ?_
  refine g_if_lt h 1 20 (gRi (by omega)) dX7_setJoined_1 (by decide) (fun h1 => ?_) (fun h1 => ?_)
  · exact J3 (fun q => (Int.not_le.mpr h1) q.1)
  · refine g_iload_n h 4 dX7_setJoined_4 rfl ?_
    refine g_aload_nq h 5 dX7_setJoined_5 rfl rfl ?_
    refine gf_joined h 6 dX7_setJoined_6 kw_367 ?_
    refine an_joined h 9 dX7_setJoined_9 ?_
    refine g_icmp_ge h 10 20 (gRi (by omega)) (gRi (by omega)) dX7_setJoined_10 (by decide) (fun h2 => ?_) (fun h2 => ?_)
    · exact J3 (fun q => (Int.not_lt.mpr h2) q.2)
    · exact J2 ⟨h1, h2⟩
-- Pagewright.touch
def FX7_touch (a_page a_value : Int) (s : S2) : Option (Int × S2) :=
  rgd (-2147483648) 2147483647 <| gd (0 ≤ a_page ∧ a_page ≤ 23) <| gd ((-1) ≤ a_value ∧ a_value ≤ 99999) <| bn (upd2 s 19 a_page 1) fun s1 => bn (fun (s2 : S2) => some (s 16 a_page, s2)) fun k1 => if a_value ≠ (-1) then bn (upd2 s1 16 a_page a_value) fun s3 => bn (upd2 s3 23 a_page (if s3 15 a_page = 2 then 1 else 0 : Int)) fun s4 => k1 s4 else k1 s1
theorem rgX7_touch {a_page a_value : Int} {s s0 : S2} {r0 : Int} (hF : FX7_touch a_page a_value s = some (r0, s0)) : (-2147483648) ≤ r0 ∧ r0 ≤ 2147483647 := (rgd_some hF).2
set_option maxRecDepth 100000 in
set_option maxHeartbeats 4000000 in
theorem ctX7_touch {l : Launch} {w : gW} {bs : Nat} (hl : l.stackTraces = false) {a_page a_value : Int} {s m s0 : S2} {r0 : Int} (hF : FX7_touch a_page a_value s = some (r0, s0)) : gMet l w bs yX7_touch cX7_touch 3 (some FieldType.int) 0 0 [(5, a_page), (0, a_value)] (s, m) 0 (some (0, r0)) (s0, m) := by
  unfold FX7_touch at hF
  obtain ⟨hF, hr⟩ := rgd_some hF
  obtain ⟨q_a_page, hF⟩ := gd_some hF
  obtain ⟨q_a_value, hF⟩ := gd_some hF
  refine g_start hl (by decide) (Nat.le_of_ble_eq_true rfl) rfl fun X h hE => ?_
  have h : gOk X "Pagewright" cX7_touch 3 0 0 0 := h
  have hE : gEnd X l w bs 0 (some FieldType.int) 0 (some (0, r0)) (s0, m) := hE
  show G X 0 0 0 [(5, a_page), (0, a_value), (1, 0)] [] (s, m)
  refine G_typ fun hT_s => ?_
  have t1 : 0 ≤ s 16 a_page ∧ s 16 a_page ≤ 99999 := hT_s.1 16 a_page
  refine g_aload_nq h 0 dX7_touch_0 rfl rfl ?_
  refine gf_Page_value h 1 dX7_touch_1 kw_286 (by omega) ?_
  refine g_istore_n h 4 dX7_touch_4 (Nat.le_of_ble_eq_true rfl) rfl (L' := [(5, a_page), (0, a_value), (0, s 16 a_page)]) rfl ?_
  refine g_aload_nq h 5 dX7_touch_5 rfl rfl ?_
  refine g_iconst h 6 dX7_touch_6 ?_
  obtain ⟨s1, es1, hF⟩ := bn_ex hF
  refine pf_Page_seen h 7 dX7_touch_7 kw_291 (by omega) (by omega) ?_
  rw [← es1]
  obtain ⟨k1, ek1, hF⟩ := bn_ex hF
  have J1 : ∀ (s2 : S2), k1 s2 = some (r0, s0) → G X 0 0 37 [(5, a_page), (0, a_value), (0, s 16 a_page)] [] (s2, m) := by
    intro s2 hF
    rw [ek1] at hF
    refine g_iload_n h 37 dX7_touch_37 rfl ?_
    obtain ⟨e1, e2⟩ := some_2 hF
    rw [← e1, ← e2] at hE
    exact g_iret h 38 dX7_touch_38 hE rfl rfl ⟨(Nat.le_of_ble_eq_true rfl), (Nat.le_of_ble_eq_true rfl)⟩
  have J2 : a_value ≠ (-1) → G X 0 0 15 [(5, a_page), (0, a_value), (0, s 16 a_page)] [] (s1, m) := by
    intro h2
    have hF := ite_t h2 hF
    refine g_aload_nq h 15 dX7_touch_15 rfl rfl ?_
    refine g_iload_n h 16 dX7_touch_16 rfl ?_
    obtain ⟨s3, es3, hF⟩ := bn_ex hF
    refine pf_Page_value h 17 dX7_touch_17 kw_286 (by omega) (by omega) ?_
    rw [← es3]
    refine g_aload_nq h 20 dX7_touch_20 rfl rfl ?_
    refine G_typ fun hT_s3 => ?_
    have t2 : 0 ≤ s3 15 a_page ∧ s3 15 a_page ≤ 2 := hT_s3.1 15 a_page
    suffices J4 : ∀ v1 : Int, v1 = (if s3 15 a_page = 2 then 1 else 0 : Int) → G X 0 0 34 [(5, a_page), (0, a_value), (0, s 16 a_page)] [(0, v1), (5, a_page)] (s3, m) by
      have J5 : s3 15 a_page = 2 → G X 0 0 29 [(5, a_page), (0, a_value), (0, s 16 a_page)] [(5, a_page)] (s3, m) := by
        intro h4
        refine g_iconst h 29 dX7_touch_29 ?_
        refine g_goto h 30 34 dX7_touch_30 (by decide) ?_
        exact J4 _ (if_pos h4).symm
      have J6 : ¬ (s3 15 a_page = 2) → G X 0 0 33 [(5, a_page), (0, a_value), (0, s 16 a_page)] [(5, a_page)] (s3, m) := by
        intro h5
        refine g_iconst h 33 dX7_touch_33 ?_
        exact J4 _ (if_neg h5).symm
      refine g_aload_nq h 21 dX7_touch_21 rfl rfl ?_
      refine gf_Page_kind h 22 dX7_touch_22 kw_284 (by omega) ?_
      refine g_iconst h 25 dX7_touch_25 ?_
      refine g_icmp_ne h 26 33 (gRi (by omega)) (gRi (by omega)) dX7_touch_26 (by decide) (fun h3 => ?_) (fun h3 => ?_)
      · exact J6 h3
      · exact J5 h3
    intro v1 e1
    subst e1
    obtain ⟨s4, es4, hF⟩ := bn_ex hF
    refine pf_Page_dirty h 34 dX7_touch_34 kw_299 (by omega) (by omega) ?_
    rw [← es4]
    exact J1 _ hF
  have J3 : ¬ (a_value ≠ (-1)) → G X 0 0 37 [(5, a_page), (0, a_value), (0, s 16 a_page)] [] (s1, m) := by
    intro h6
    have hF := ite_f h6 hF
    exact J1 _ hF
  refine g_iload_n h 10 dX7_touch_10 rfl ?_
  refine g_iconst h 11 dX7_touch_11 ?_
  refine g_icmp_eq h 12 37 (gRi (by omega)) (gRi (by omega)) dX7_touch_12 (by decide) (fun h1 => ?_) (fun h1 => ?_)
  · exact J3 (fun q => q h1)
  · exact J2 h1
-- Pagewright.within
set_option maxRecDepth 100000 in
theorem cpX7_within {l : Launch} {w : gW} {bs : Nat} (hl : l.stackTraces = false) {a_number a_lowest a_highest : Int} {s m : S2} (q_a_number : (-2147483648) ≤ a_number ∧ a_number ≤ 2147483647) (q_a_lowest : (-2147483648) ≤ a_lowest ∧ a_lowest ≤ 2147483647) (q_a_highest : (-2147483648) ≤ a_highest ∧ a_highest ≤ 2147483647) : gMet l w bs yX7_within cX7_within 3 (some FieldType.boolean) 0 0 [(0, a_number), (0, a_lowest), (0, a_highest)] (s, m) 0 (some (0, (if (a_lowest ≤ a_number) ∧ (a_number ≤ a_highest) then 1 else 0 : Int))) (s, m) := by
  refine g_start hl (by decide) (Nat.le_of_ble_eq_true rfl) rfl fun X h hE => ?_
  have h : gOk X "Pagewright" cX7_within 3 0 0 0 := h
  show G X 0 0 0 [(0, a_number), (0, a_lowest), (0, a_highest)] [] (s, m)
  suffices J1 : ∀ v1 : Int, v1 = (if (a_lowest ≤ a_number) ∧ (a_number ≤ a_highest) then 1 else 0 : Int) → G X 0 0 15 [(0, a_number), (0, a_lowest), (0, a_highest)] [(0, v1)] (s, m) by
    have J2 : (a_lowest ≤ a_number) ∧ (a_number ≤ a_highest) → G X 0 0 10 [(0, a_number), (0, a_lowest), (0, a_highest)] [] (s, m) := by
      intro h3
      refine g_iconst h 10 dX7_within_10 ?_
      refine g_goto h 11 15 dX7_within_11 (by decide) ?_
      exact J1 _ (if_pos h3).symm
    have J3 : ¬ ((a_lowest ≤ a_number) ∧ (a_number ≤ a_highest)) → G X 0 0 14 [(0, a_number), (0, a_lowest), (0, a_highest)] [] (s, m) := by
      intro h4
      refine g_iconst h 14 dX7_within_14 ?_
      exact J1 _ (if_neg h4).symm
    refine g_iload_n h 0 dX7_within_0 rfl ?_
    refine g_iload_n h 1 dX7_within_1 rfl ?_
    refine g_icmp_lt h 2 14 (gRi (by omega)) (gRi (by omega)) dX7_within_2 (by decide) (fun h1 => ?_) (fun h1 => ?_)
    · exact J3 (fun q => (Int.not_le.mpr h1) q.1)
    · refine g_iload_n h 5 dX7_within_5 rfl ?_
      refine g_iload_n h 6 dX7_within_6 rfl ?_
      refine g_icmp_gt h 7 14 (gRi (by omega)) (gRi (by omega)) dX7_within_7 (by decide) (fun h2 => ?_) (fun h2 => ?_)
      · exact J3 (fun q => (Int.not_le.mpr h2) q.2)
      · exact J2 ⟨h1, h2⟩
  intro v1 e1
  subst e1
  exact g_iret h 15 dX7_within_15 hE rfl (g_nb (by first | omega | (split <;> decide))) ⟨(Nat.le_of_ble_eq_true rfl), (Nat.le_of_ble_eq_true rfl)⟩
-- Pagewright.writeBack
def FX7_writeBack (a_page : Int) (s : S2) : Option (Int × S2) :=
  gd (0 ≤ a_page ∧ a_page ≤ 23) <| bn (fun (s1 : S2) => some (0, s1)) fun k1 => gd ((-2147483648) ≤ ((s 24 a_page) * 8) + (s 25 a_page) ∧ ((s 24 a_page) * 8) + (s 25 a_page) ≤ 2147483647) <| if (0 ≤ ((s 24 a_page) * 8) + (s 25 a_page)) ∧ (((s 24 a_page) * 8) + (s 25 a_page) < 24) then bn (upd2 s 44 (((s 24 a_page) * 8) + (s 25 a_page)) (s 16 a_page)) fun s2 => bn (upd2 s2 48 5 ((s2 48 5) + 1)) fun s3 => bn (upd2 s3 23 a_page 0) fun s4 => k1 s4 else k1 s
set_option maxRecDepth 100000 in
set_option maxHeartbeats 4000000 in
theorem ctX7_writeBack {l : Launch} {w : gW} {bs : Nat} (hl : l.stackTraces = false) {a_page : Int} {s m s0 : S2} {r0 : Int} (hF : FX7_writeBack a_page s = some (r0, s0)) : gMet l w bs yX7_writeBack cX7_writeBack 3 none 0 0 [(10, 0), (5, a_page)] (s, m) 0 none (s0, m) := by
  unfold FX7_writeBack at hF
  obtain ⟨q_a_page, hF⟩ := gd_some hF
  refine g_start hl (by decide) (Nat.le_of_ble_eq_true rfl) rfl fun X h hE => ?_
  have h : gOk X "Pagewright" cX7_writeBack 3 0 0 0 := h
  have hE : gEnd X l w bs 0 none 0 none (s0, m) := hE
  show G X 0 0 0 [(10, 0), (5, a_page), (1, 0)] [] (s, m)
  refine G_typ fun hT_s => ?_
  have t1 : 0 ≤ s 24 a_page ∧ s 24 a_page ≤ 2 := hT_s.1 24 a_page
  have t2 : 0 ≤ s 25 a_page ∧ s 25 a_page ≤ 7 := hT_s.1 25 a_page
  refine g_aload_nq h 0 dX7_writeBack_0 rfl rfl ?_
  refine gf_Page_file h 1 dX7_writeBack_1 kw_301 (by omega) ?_
  refine g_bipush h 4 dX7_writeBack_4 (by decide) ?_
  refine g_imul h 6 dX7_writeBack_6 ?_
  refine g_aload_nq h 7 dX7_writeBack_7 rfl rfl ?_
  refine gf_Page_index h 8 dX7_writeBack_8 kw_303 (by omega) ?_
  refine g_iadd h 11 dX7_writeBack_11 ?_
  refine g_istore_n h 12 dX7_writeBack_12 (Nat.le_of_ble_eq_true rfl) rfl (L' := [(10, 0), (5, a_page), (0, ((s 24 a_page) * 8) + (s 25 a_page))]) rfl ?_
  obtain ⟨k1, ek1, hF⟩ := bn_ex hF
  have J1 : ∀ (s1 : S2), k1 s1 = some (r0, s0) → G X 0 0 48 [(10, 0), (5, a_page), (0, ((s 24 a_page) * 8) + (s 25 a_page))] [] (s1, m) := by
    intro s1 hF
    rw [ek1] at hF
    obtain ⟨e1, e2⟩ := some_2 hF
    rw [← e2] at hE
    exact g_vret h 48 dX7_writeBack_48 hE rfl ⟨(Nat.le_of_ble_eq_true rfl), (Nat.le_of_ble_eq_true rfl)⟩
  obtain ⟨q1, hF⟩ := gd_some hF
  have J2 : (0 ≤ ((s 24 a_page) * 8) + (s 25 a_page)) ∧ (((s 24 a_page) * 8) + (s 25 a_page) < 24) → G X 0 0 23 [(10, 0), (5, a_page), (0, ((s 24 a_page) * 8) + (s 25 a_page))] [] (s, m) := by
    intro h3
    have hF := ite_t h3 hF
    refine g_aload_nq h 23 dX7_writeBack_23 rfl rfl ?_
    refine gf_onDisk h 24 dX7_writeBack_24 kw_365 ?_
    refine g_iload_n h 27 dX7_writeBack_27 rfl ?_
    have t3 : 0 ≤ s 16 a_page ∧ s 16 a_page ≤ 99999 := hT_s.1 16 a_page
    refine g_aload_nq h 28 dX7_writeBack_28 rfl rfl ?_
    refine gf_Page_value h 29 dX7_writeBack_29 kw_286 (by omega) ?_
    obtain ⟨s2, es2, hF⟩ := bn_ex hF
    refine as_onDisk h 32 dX7_writeBack_32 (by omega) (by omega) ?_
    rw [← es2]
    refine g_aload_nq h 33 dX7_writeBack_33 rfl rfl ?_
    refine gf_counts h 34 dX7_writeBack_34 kw_369 ?_
    refine g_iconst h 37 dX7_writeBack_37 ?_
    refine g_dup2 h 38 dX7_writeBack_38 (show (0 : Nat) ≠ 2 by decide) (show (19 : Nat) ≠ 2 by decide) ?_
    refine al_counts h 39 dX7_writeBack_39 (by omega) ?_
    refine g_iconst h 40 dX7_writeBack_40 ?_
    refine g_iadd h 41 dX7_writeBack_41 ?_
    obtain ⟨s3, es3, hF⟩ := bn_ex hF
    refine as_counts h 42 dX7_writeBack_42 (by omega) ?_
    rw [← es3]
    refine g_aload_nq h 43 dX7_writeBack_43 rfl rfl ?_
    refine g_iconst h 44 dX7_writeBack_44 ?_
    obtain ⟨s4, es4, hF⟩ := bn_ex hF
    refine pf_Page_dirty h 45 dX7_writeBack_45 kw_299 (by omega) (by omega) ?_
    rw [← es4]
    exact J1 _ hF
  have J3 : ¬ ((0 ≤ ((s 24 a_page) * 8) + (s 25 a_page)) ∧ (((s 24 a_page) * 8) + (s 25 a_page) < 24)) → G X 0 0 48 [(10, 0), (5, a_page), (0, ((s 24 a_page) * 8) + (s 25 a_page))] [] (s, m) := by
    intro h4
    have hF := ite_f h4 hF
    exact J1 _ hF
  refine g_iload_n h 13 dX7_writeBack_13 rfl ?_
  refine g_if_lt h 14 48 (gRi (by omega)) dX7_writeBack_14 (by decide) (fun h1 => ?_) (fun h1 => ?_)
  · exact J3 (fun q => (Int.not_le.mpr h1) q.1)
  · refine g_iload_n h 17 dX7_writeBack_17 rfl ?_
    refine g_bipush h 18 dX7_writeBack_18 (by decide) ?_
    refine g_icmp_ge h 20 48 (gRi (by omega)) (gRi (by omega)) dX7_writeBack_20 (by decide) (fun h2 => ?_) (fun h2 => ?_)
    · exact J3 (fun q => (Int.not_lt.mpr h2) q.2)
    · exact J2 ⟨h1, h2⟩
-- Pagewright$Cache.messages
def FX0_messages (a_this : Int) (s : S2) : Option (Int × S2) :=
  rgd 0 4 <| gd (0 ≤ a_this ∧ a_this ≤ 1) <| gl2 1000 (fun k1 (x_messages1 : Int) (x_i1 : Int) (s1 : S2) => if (x_i1 < s1 1 a_this) ∧ (x_i1 < 4) then gd ((-2147483648) ≤ x_messages1 + (if (0 ≤ s1 37 (s1 50 (4 * a_this + x_i1))) ∧ (gAnd (s1 14 (s1 37 (s1 50 (4 * a_this + x_i1)))) (a_this + 1) ≠ 0) then 1 else 0 : Int) ∧ x_messages1 + (if (0 ≤ s1 37 (s1 50 (4 * a_this + x_i1))) ∧ (gAnd (s1 14 (s1 37 (s1 50 (4 * a_this + x_i1)))) (a_this + 1) ≠ 0) then 1 else 0 : Int) ≤ 2147483647) <| k1 (x_messages1 + (if (0 ≤ s1 37 (s1 50 (4 * a_this + x_i1))) ∧ (gAnd (s1 14 (s1 37 (s1 50 (4 * a_this + x_i1)))) (a_this + 1) ≠ 0) then 1 else 0 : Int)) (x_i1 + 1) s1 else some (x_messages1, s1)) 0 0 s
theorem rgX0_messages {a_this : Int} {s s0 : S2} {r0 : Int} (hF : FX0_messages a_this s = some (r0, s0)) : 0 ≤ r0 ∧ r0 ≤ 4 := (rgd_some hF).2
set_option maxRecDepth 100000 in
set_option maxHeartbeats 4000000 in
theorem ctX0_messages {l : Launch} {w : gW} {bs : Nat} (hl : l.stackTraces = false) {a_this : Int} {s m s0 : S2} {r0 : Int} (hF : FX0_messages a_this s = some (r0, s0)) : gMet l w bs yX0_messages cX0_messages 3 (some FieldType.int) 1 0 [(3, a_this)] (s, m) 0 (some (0, r0)) (s0, m) := by
  unfold FX0_messages at hF
  obtain ⟨hF, hr⟩ := rgd_some hF
  obtain ⟨q_a_this, hF⟩ := gd_some hF
  refine g_start hl (by decide) (Nat.le_of_ble_eq_true rfl) rfl fun X h hE => ?_
  have h : gOk X "Pagewright$Cache" cX0_messages 3 1 0 0 := h
  have hE : gEnd X l w bs 0 (some FieldType.int) 0 (some (0, r0)) (s0, m) := hE
  show G X 0 0 0 [(3, a_this), (1, 0), (1, 0)] [] (s, m)
  refine g_iconst h 0 dX0_messages_0 ?_
  refine g_istore_n h 1 dX0_messages_1 (Nat.le_of_ble_eq_true rfl) rfl (L' := [(3, a_this), (0, 0), (1, 0)]) rfl ?_
  refine g_iconst h 2 dX0_messages_2 ?_
  refine g_istore_n h 3 dX0_messages_3 (Nat.le_of_ble_eq_true rfl) rfl (L' := [(3, a_this), (0, 0), (0, 0)]) rfl ?_
  obtain ⟨f1, ef1, hF⟩ := glx2 hF
  have J7 : ∀ (n1 : Nat) (x_messages1 x_i1 : Int) (s1 : S2), ((-2147483648) ≤ x_messages1 ∧ x_messages1 ≤ 2147483647) → (0 ≤ x_i1 ∧ x_i1 ≤ 4) → gl2 n1 f1 x_messages1 x_i1 s1 = some (r0, s0) → G X 0 0 4 [(3, a_this), (0, x_messages1), (0, x_i1)] [] (s1, m) := by
    intro n1
    induction n1 with
    | zero => intro x_messages1 x_i1 s1 _ _ hF; exact (gl2_0 hF).elim
    | succ n1 ih1 =>
      intro x_messages1 x_i1 s1 q1 q2 hF
      obtain ⟨k1, ek1, hF⟩ := glu2 hF ef1
      refine G_typ fun hT_s1 => ?_
      have t1 : 0 ≤ s1 1 a_this ∧ s1 1 a_this ≤ 4 := hT_s1.1 1 a_this
      have J2 : (x_i1 < s1 1 a_this) ∧ (x_i1 < 4) → G X 0 0 17 [(3, a_this), (0, x_messages1), (0, x_i1)] [] (s1, m) := by
        intro h3
        have hF := ite_t h3 hF
        have t2 : 0 ≤ s1 50 (4 * a_this + x_i1) ∧ s1 50 (4 * a_this + x_i1) ≤ 7 := hT_s1.1 50 (4 * a_this + x_i1)
        have t3 : (-1) ≤ s1 37 (s1 50 (4 * a_this + x_i1)) ∧ s1 37 (s1 50 (4 * a_this + x_i1)) ≤ 191 := hT_s1.1 37 (s1 50 (4 * a_this + x_i1))
        have t4 : 0 ≤ s1 14 (s1 37 (s1 50 (4 * a_this + x_i1))) ∧ s1 14 (s1 37 (s1 50 (4 * a_this + x_i1))) ≤ 3 := hT_s1.1 14 (s1 37 (s1 50 (4 * a_this + x_i1)))
        have t5 : 0 ≤ gAnd (s1 14 (s1 37 (s1 50 (4 * a_this + x_i1)))) (a_this + 1) ∧ gAnd (s1 14 (s1 37 (s1 50 (4 * a_this + x_i1)))) (a_this + 1) ≤ 3 := gAnd_03 (by omega)
        refine g_iload_n h 17 dX0_messages_17 rfl ?_
        suffices J4 : ∀ v1 : Int, v1 = (if (0 ≤ s1 37 (s1 50 (4 * a_this + x_i1))) ∧ (gAnd (s1 14 (s1 37 (s1 50 (4 * a_this + x_i1)))) (a_this + 1) ≠ 0) then 1 else 0 : Int) → G X 0 0 39 [(3, a_this), (0, x_messages1), (0, x_i1)] [(0, v1), (0, x_messages1)] (s1, m) by
          have J5 : (0 ≤ s1 37 (s1 50 (4 * a_this + x_i1))) ∧ (gAnd (s1 14 (s1 37 (s1 50 (4 * a_this + x_i1)))) (a_this + 1) ≠ 0) → G X 0 0 34 [(3, a_this), (0, x_messages1), (0, x_i1)] [(0, x_messages1)] (s1, m) := by
            intro h5
            refine g_iconst h 34 dX0_messages_34 ?_
            refine g_goto h 35 39 dX0_messages_35 (by decide) ?_
            exact J4 _ (if_pos h5).symm
          have J6 : ¬ ((0 ≤ s1 37 (s1 50 (4 * a_this + x_i1))) ∧ (gAnd (s1 14 (s1 37 (s1 50 (4 * a_this + x_i1)))) (a_this + 1) ≠ 0)) → G X 0 0 38 [(3, a_this), (0, x_messages1), (0, x_i1)] [(0, x_messages1)] (s1, m) := by
            intro h6
            refine g_iconst h 38 dX0_messages_38 ?_
            exact J4 _ (if_neg h6).symm
          refine g_aload_nq h 18 dX0_messages_18 rfl rfl ?_
          refine g_aload_nq h 19 dX0_messages_19 rfl rfl ?_
          refine gf_Cache_all h 20 dX0_messages_20 kw_352 (by omega) ?_
          refine g_iload_n h 23 dX0_messages_23 rfl ?_
          refine al_Cache_all h 24 dX0_messages_24 (by omega) (by omega) ?_
          refine gf_Translation_entry h 25 dX0_messages_25 kw_341 (by omega) ?_
          refine g_callV h hE 28 dX0_messages_28 (cpX0_isTold (a_this := a_this) (a_entry := s1 37 (s1 50 (4 * a_this + x_i1))) hl (by omega) (by omega)) mwX0_isTold kw_687 (by decide) (show _ ∧ _ < (2 : Int) by omega) rfl (Nat.le_of_ble_eq_true rfl) rfl (Nat.le_of_ble_eq_true rfl) ⟨Nat.le_of_ble_eq_true rfl, Nat.le_of_ble_eq_true rfl⟩ rfl rfl ?_
          show G X 0 0 31 [(3, a_this), (0, x_messages1), (0, x_i1)] [(0, (if (0 ≤ s1 37 (s1 50 (4 * a_this + x_i1))) ∧ (gAnd (s1 14 (s1 37 (s1 50 (4 * a_this + x_i1)))) (a_this + 1) ≠ 0) then 1 else 0 : Int)), (0, x_messages1)] (s1, m)
          refine g_if_eq h 31 38 (gRi gR_ite) dX0_messages_31 (by decide) (fun h4 => ?_) (fun h4 => ?_)
          · exact J6 (iz_f h4)
          · exact J5 (iz_t h4)
        intro v1 e1
        subst e1
        refine g_iadd h 39 dX0_messages_39 ?_
        refine g_istore_n h 40 dX0_messages_40 (Nat.le_of_ble_eq_true rfl) rfl (L' := [(3, a_this), (0, x_messages1 + (if (0 ≤ s1 37 (s1 50 (4 * a_this + x_i1))) ∧ (gAnd (s1 14 (s1 37 (s1 50 (4 * a_this + x_i1)))) (a_this + 1) ≠ 0) then 1 else 0 : Int)), (0, x_i1)]) rfl ?_
        refine g_iinc h 41 dX0_messages_41 rfl rfl (L' := [(3, a_this), (0, x_messages1 + (if (0 ≤ s1 37 (s1 50 (4 * a_this + x_i1))) ∧ (gAnd (s1 14 (s1 37 (s1 50 (4 * a_this + x_i1)))) (a_this + 1) ≠ 0) then 1 else 0 : Int)), (0, x_i1 + 1)]) rfl ?_
        refine g_goto h 44 4 dX0_messages_44 (by decide) ?_
        obtain ⟨q3, hF⟩ := gd_some hF
        rw [ek1] at hF
        exact ih1 _ _ _ (by omega) (by omega) hF
      have J3 : ¬ ((x_i1 < s1 1 a_this) ∧ (x_i1 < 4)) → G X 0 0 47 [(3, a_this), (0, x_messages1), (0, x_i1)] [] (s1, m) := by
        intro h7
        have hF := ite_f h7 hF
        refine g_iload_n h 47 dX0_messages_47 rfl ?_
        obtain ⟨e1, e2⟩ := some_2 hF
        rw [← e1, ← e2] at hE
        exact g_iret h 48 dX0_messages_48 hE rfl rfl ⟨(Nat.le_of_ble_eq_true rfl), (Nat.le_of_ble_eq_true rfl)⟩
      refine g_iload_n h 4 dX0_messages_4 rfl ?_
      refine g_aload_nq h 5 dX0_messages_5 rfl rfl ?_
      refine gf_Cache_size h 6 dX0_messages_6 kw_353 (by omega) ?_
      refine g_icmp_ge h 9 47 (gRi (by omega)) (gRi (by omega)) dX0_messages_9 (by decide) (fun h1 => ?_) (fun h1 => ?_)
      · exact J3 (fun q => (Int.not_lt.mpr h1) q.1)
      · refine g_iload_n h 12 dX0_messages_12 rfl ?_
        refine g_iconst h 13 dX0_messages_13 ?_
        refine g_icmp_ge h 14 47 (gRi (by omega)) (gRi (by omega)) dX0_messages_14 (by decide) (fun h2 => ?_) (fun h2 => ?_)
        · exact J3 (fun q => (Int.not_lt.mpr h2) q.2)
        · exact J2 ⟨h1, h2⟩
  exact J7 _ _ _ _ (by omega) (by omega) hF
-- Pagewright$Cache.obey
def FX0_obey (a_this : Int) (s : S2) : Option (Int × S2) :=
  rgd 0 4 <| gd (0 ≤ a_this ∧ a_this ≤ 1) <| gd ((-2147483648) ≤ (s 1 a_this) - 1 ∧ (s 1 a_this) - 1 ≤ 2147483647) <| gl2 1000 (fun k1 (x_messages1 : Int) (x_i1 : Int) (s1 : S2) => if (0 ≤ x_i1) ∧ (x_i1 < 4) then bn (fun (x_messages2 : Int) (s2 : S2) => k1 x_messages2 (x_i1 + (-1)) s2) fun k2 => if (0 ≤ s1 37 (s1 50 (4 * a_this + x_i1))) ∧ (gAnd (s1 14 (s1 37 (s1 50 (4 * a_this + x_i1)))) (a_this + 1) ≠ 0) then cb (FX0_dismiss a_this x_i1 s1) fun r1 s3 => gd ((-2147483648) ≤ x_messages1 + 1 ∧ x_messages1 + 1 ≤ 2147483647) <| k2 (x_messages1 + 1) s3 else k2 x_messages1 s1 else some (x_messages1, s1)) 0 ((s 1 a_this) - 1) s
theorem rgX0_obey {a_this : Int} {s s0 : S2} {r0 : Int} (hF : FX0_obey a_this s = some (r0, s0)) : 0 ≤ r0 ∧ r0 ≤ 4 := (rgd_some hF).2
set_option maxRecDepth 100000 in
set_option maxHeartbeats 4000000 in
theorem ctX0_obey {l : Launch} {w : gW} {bs : Nat} (hl : l.stackTraces = false) {a_this : Int} {s m s0 : S2} {r0 : Int} (hF : FX0_obey a_this s = some (r0, s0)) : gMet l w bs yX0_obey cX0_obey 3 (some FieldType.int) 1 0 [(3, a_this)] (s, m) 0 (some (0, r0)) (s0, m) := by
  unfold FX0_obey at hF
  obtain ⟨hF, hr⟩ := rgd_some hF
  obtain ⟨q_a_this, hF⟩ := gd_some hF
  refine g_start hl (by decide) (Nat.le_of_ble_eq_true rfl) rfl fun X h hE => ?_
  have h : gOk X "Pagewright$Cache" cX0_obey 3 1 0 0 := h
  have hE : gEnd X l w bs 0 (some FieldType.int) 0 (some (0, r0)) (s0, m) := hE
  show G X 0 0 0 [(3, a_this), (1, 0), (1, 0)] [] (s, m)
  refine g_iconst h 0 dX0_obey_0 ?_
  refine g_istore_n h 1 dX0_obey_1 (Nat.le_of_ble_eq_true rfl) rfl (L' := [(3, a_this), (0, 0), (1, 0)]) rfl ?_
  refine G_typ fun hT_s => ?_
  have t1 : 0 ≤ s 1 a_this ∧ s 1 a_this ≤ 4 := hT_s.1 1 a_this
  refine g_aload_nq h 2 dX0_obey_2 rfl rfl ?_
  refine gf_Cache_size h 3 dX0_obey_3 kw_353 (by omega) ?_
  refine g_iconst h 6 dX0_obey_6 ?_
  refine g_isub h 7 dX0_obey_7 ?_
  refine g_istore_n h 8 dX0_obey_8 (Nat.le_of_ble_eq_true rfl) rfl (L' := [(3, a_this), (0, 0), (0, (s 1 a_this) - 1)]) rfl ?_
  obtain ⟨q5, hF⟩ := gd_some hF
  obtain ⟨f1, ef1, hF⟩ := glx2 hF
  have J7 : ∀ (n1 : Nat) (x_messages1 x_i1 : Int) (s1 : S2), ((-2147483648) ≤ x_messages1 ∧ x_messages1 ≤ 2147483647) → ((-2147483648) ≤ x_i1 ∧ x_i1 ≤ 2147483647) → gl2 n1 f1 x_messages1 x_i1 s1 = some (r0, s0) → G X 0 0 9 [(3, a_this), (0, x_messages1), (0, x_i1)] [] (s1, m) := by
    intro n1
    induction n1 with
    | zero => intro x_messages1 x_i1 s1 _ _ hF; exact (gl2_0 hF).elim
    | succ n1 ih1 =>
      intro x_messages1 x_i1 s1 q1 q2 hF
      obtain ⟨k1, ek1, hF⟩ := glu2 hF ef1
      have J2 : (0 ≤ x_i1) ∧ (x_i1 < 4) → G X 0 0 18 [(3, a_this), (0, x_messages1), (0, x_i1)] [] (s1, m) := by
        intro h3
        have hF := ite_t h3 hF
        obtain ⟨k2, ek2, hF⟩ := bn_ex hF
        have J4 : ∀ (x_messages2 : Int) (s2 : S2), ((-2147483648) ≤ x_messages2 ∧ x_messages2 ≤ 2147483647) → k2 x_messages2 s2 = some (r0, s0) → G X 0 0 42 [(3, a_this), (0, x_messages2), (0, x_i1)] [] (s2, m) := by
          intro x_messages2 s2 q4 hF
          rw [ek2] at hF
          refine g_iinc h 42 dX0_obey_42 rfl rfl (L' := [(3, a_this), (0, x_messages2), (0, x_i1 + (-1))]) rfl ?_
          refine g_goto h 45 9 dX0_obey_45 (by decide) ?_
          rw [ek1] at hF
          exact ih1 _ _ _ (by omega) (by omega) hF
        refine G_typ fun hT_s1 => ?_
        have t2 : 0 ≤ s1 50 (4 * a_this + x_i1) ∧ s1 50 (4 * a_this + x_i1) ≤ 7 := hT_s1.1 50 (4 * a_this + x_i1)
        have t3 : (-1) ≤ s1 37 (s1 50 (4 * a_this + x_i1)) ∧ s1 37 (s1 50 (4 * a_this + x_i1)) ≤ 191 := hT_s1.1 37 (s1 50 (4 * a_this + x_i1))
        have t4 : 0 ≤ s1 14 (s1 37 (s1 50 (4 * a_this + x_i1))) ∧ s1 14 (s1 37 (s1 50 (4 * a_this + x_i1))) ≤ 3 := hT_s1.1 14 (s1 37 (s1 50 (4 * a_this + x_i1)))
        have t5 : 0 ≤ gAnd (s1 14 (s1 37 (s1 50 (4 * a_this + x_i1)))) (a_this + 1) ∧ gAnd (s1 14 (s1 37 (s1 50 (4 * a_this + x_i1)))) (a_this + 1) ≤ 3 := gAnd_03 (by omega)
        have J5 : (0 ≤ s1 37 (s1 50 (4 * a_this + x_i1))) ∧ (gAnd (s1 14 (s1 37 (s1 50 (4 * a_this + x_i1)))) (a_this + 1) ≠ 0) → G X 0 0 34 [(3, a_this), (0, x_messages1), (0, x_i1)] [] (s1, m) := by
          intro h5
          have hF := ite_t h5 hF
          refine g_iinc h 34 dX0_obey_34 rfl rfl (L' := [(3, a_this), (0, x_messages1 + 1), (0, x_i1)]) rfl ?_
          refine g_aload_nq h 37 dX0_obey_37 rfl rfl ?_
          refine g_iload_n h 38 dX0_obey_38 rfl ?_
          obtain ⟨r1, s3, c1, hF⟩ := cb_some hF
          refine g_callV h hE 39 dX0_obey_39 (ctX0_dismiss hl c1) mwX0_dismiss kw_691 (by decide) (show _ ∧ _ < (2 : Int) by omega) rfl (Nat.le_of_ble_eq_true rfl) rfl (Nat.le_of_ble_eq_true rfl) ⟨Nat.le_of_ble_eq_true rfl, Nat.le_of_ble_eq_true rfl⟩ rfl rfl ?_
          show G X 0 0 42 [(3, a_this), (0, x_messages1 + 1), (0, x_i1)] [] (s3, m)
          obtain ⟨q3, hF⟩ := gd_some hF
          exact J4 _ _ (by omega) hF
        have J6 : ¬ ((0 ≤ s1 37 (s1 50 (4 * a_this + x_i1))) ∧ (gAnd (s1 14 (s1 37 (s1 50 (4 * a_this + x_i1)))) (a_this + 1) ≠ 0)) → G X 0 0 42 [(3, a_this), (0, x_messages1), (0, x_i1)] [] (s1, m) := by
          intro h6
          have hF := ite_f h6 hF
          exact J4 _ _ (by omega) hF
        refine g_aload_nq h 18 dX0_obey_18 rfl rfl ?_
        refine g_aload_nq h 19 dX0_obey_19 rfl rfl ?_
        refine gf_Cache_all h 20 dX0_obey_20 kw_352 (by omega) ?_
        refine g_iload_n h 23 dX0_obey_23 rfl ?_
        refine al_Cache_all h 24 dX0_obey_24 (by omega) (by omega) ?_
        refine gf_Translation_entry h 25 dX0_obey_25 kw_341 (by omega) ?_
        refine g_callV h hE 28 dX0_obey_28 (cpX0_isTold (a_this := a_this) (a_entry := s1 37 (s1 50 (4 * a_this + x_i1))) hl (by omega) (by omega)) mwX0_isTold kw_687 (by decide) (show _ ∧ _ < (2 : Int) by omega) rfl (Nat.le_of_ble_eq_true rfl) rfl (Nat.le_of_ble_eq_true rfl) ⟨Nat.le_of_ble_eq_true rfl, Nat.le_of_ble_eq_true rfl⟩ rfl rfl ?_
        show G X 0 0 31 [(3, a_this), (0, x_messages1), (0, x_i1)] [(0, (if (0 ≤ s1 37 (s1 50 (4 * a_this + x_i1))) ∧ (gAnd (s1 14 (s1 37 (s1 50 (4 * a_this + x_i1)))) (a_this + 1) ≠ 0) then 1 else 0 : Int))] (s1, m)
        refine g_if_eq h 31 42 (gRi gR_ite) dX0_obey_31 (by decide) (fun h4 => ?_) (fun h4 => ?_)
        · exact J6 (iz_f h4)
        · exact J5 (iz_t h4)
      have J3 : ¬ ((0 ≤ x_i1) ∧ (x_i1 < 4)) → G X 0 0 48 [(3, a_this), (0, x_messages1), (0, x_i1)] [] (s1, m) := by
        intro h7
        have hF := ite_f h7 hF
        refine g_iload_n h 48 dX0_obey_48 rfl ?_
        obtain ⟨e1, e2⟩ := some_2 hF
        rw [← e1, ← e2] at hE
        exact g_iret h 49 dX0_obey_49 hE rfl rfl ⟨(Nat.le_of_ble_eq_true rfl), (Nat.le_of_ble_eq_true rfl)⟩
      refine g_iload_n h 9 dX0_obey_9 rfl ?_
      refine g_if_lt h 10 48 (gRi (by omega)) dX0_obey_10 (by decide) (fun h1 => ?_) (fun h1 => ?_)
      · exact J3 (fun q => (Int.not_le.mpr h1) q.1)
      · refine g_iload_n h 13 dX0_obey_13 rfl ?_
        refine g_iconst h 14 dX0_obey_14 ?_
        refine g_icmp_ge h 15 48 (gRi (by omega)) (gRi (by omega)) dX0_obey_15 (by decide) (fun h2 => ?_) (fun h2 => ?_)
        · exact J3 (fun q => (Int.not_lt.mpr h2) q.2)
        · exact J2 ⟨h1, h2⟩
  exact J7 _ _ _ _ (by omega) (by omega) hF
-- Pagewright$Cache.take
def FX0_take (a_this a_entry a_page : Int) (s : S2) : Option (Int × S2) :=
  gd (0 ≤ a_this ∧ a_this ≤ 1) <| gd (0 ≤ a_entry ∧ a_entry ≤ 191) <| gd (0 ≤ a_page ∧ a_page ≤ 23) <| gl1 1000 (fun k1 (x_place1 : Int) (s1 : S2) => gd (((x_place1 < s1 1 a_this) ∧ (x_place1 < 4)) → 0 ≤ x_place1 ∧ x_place1 ≤ 3) <| if ((x_place1 < s1 1 a_this) ∧ (x_place1 < 4)) ∧ (s1 37 (s1 50 (4 * a_this + x_place1)) ≠ a_entry) then k1 (x_place1 + 1) s1 else bn (fun (x_place2 : Int) (s2 : S2) => gd ((-2147483648) ≤ x_place2 + 1 ∧ x_place2 + 1 ≤ 2147483647) <| gd (0 ≤ (if s2 1 a_this < x_place2 + 1 then x_place2 + 1 else s2 1 a_this : Int) ∧ (if s2 1 a_this < x_place2 + 1 then x_place2 + 1 else s2 1 a_this : Int) ≤ 4) <| bn (upd2 s2 1 a_this (if s2 1 a_this < x_place2 + 1 then x_place2 + 1 else s2 1 a_this : Int)) fun s4 => gd (0 ≤ x_place2 ∧ x_place2 ≤ 3) <| bn (upd2 s4 37 (s4 50 (4 * a_this + x_place2)) a_entry) fun s5 => bn (upd2 s5 38 (s4 50 (4 * a_this + x_place2)) a_page) fun s6 => bn (upd2 s6 39 (s4 50 (4 * a_this + x_place2)) (s6 10 a_entry)) fun s7 => bn (upd2 s7 14 a_entry (gAnd (s7 14 a_entry) (gXor (a_this + 1) (-1)))) fun s8 => some (0, s8)) fun k2 => if 4 ≤ x_place1 then cb (FX0_dismiss a_this 0 s1) fun r1 s3 => k2 3 s3 else k2 x_place1 s1) 0 s
set_option maxRecDepth 100000 in
set_option maxHeartbeats 4000000 in
theorem ctX0_take {l : Launch} {w : gW} {bs : Nat} (hl : l.stackTraces = false) {a_this a_entry a_page : Int} {s m s0 : S2} {r0 : Int} (hF : FX0_take a_this a_entry a_page s = some (r0, s0)) : gMet l w bs yX0_take cX0_take 5 none 1 0 [(3, a_this), (4, a_entry), (5, a_page)] (s, m) 0 none (s0, m) := by
  unfold FX0_take at hF
  obtain ⟨q_a_this, hF⟩ := gd_some hF
  obtain ⟨q_a_entry, hF⟩ := gd_some hF
  obtain ⟨q_a_page, hF⟩ := gd_some hF
  refine g_start hl (by decide) (Nat.le_of_ble_eq_true rfl) rfl fun X h hE => ?_
  have h : gOk X "Pagewright$Cache" cX0_take 5 1 0 0 := h
  have hE : gEnd X l w bs 0 none 0 none (s0, m) := hE
  show G X 0 0 0 [(3, a_this), (4, a_entry), (5, a_page), (1, 0), (1, 0)] [] (s, m)
  refine g_iconst h 0 dX0_take_0 ?_
  refine g_istore_n h 1 dX0_take_1 (Nat.le_of_ble_eq_true rfl) rfl (L' := [(3, a_this), (4, a_entry), (5, a_page), (0, 0), (1, 0)]) rfl ?_
  obtain ⟨f1, ef1, hF⟩ := glx1 hF
  have J7 : ∀ (n1 : Nat) (x_place1 : Int) (s1 : S2), ((-2147483648) ≤ x_place1 ∧ x_place1 ≤ 2147483647) → gl1 n1 f1 x_place1 s1 = some (r0, s0) → G X 0 0 2 [(3, a_this), (4, a_entry), (5, a_page), (0, x_place1), (1, 0)] [] (s1, m) := by
    intro n1
    induction n1 with
    | zero => intro x_place1 s1 _ hF; exact (gl1_0 hF).elim
    | succ n1 ih1 =>
      intro x_place1 s1 q1 hF
      obtain ⟨k1, ek1, hF⟩ := glu1 hF ef1
      refine G_typ fun hT_s1 => ?_
      have t1 : 0 ≤ s1 1 a_this ∧ s1 1 a_this ≤ 4 := hT_s1.1 1 a_this
      have t2 : 0 ≤ s1 50 (4 * a_this + x_place1) ∧ s1 50 (4 * a_this + x_place1) ≤ 7 := hT_s1.1 50 (4 * a_this + x_place1)
      have t3 : (-1) ≤ s1 37 (s1 50 (4 * a_this + x_place1)) ∧ s1 37 (s1 50 (4 * a_this + x_place1)) ≤ 191 := hT_s1.1 37 (s1 50 (4 * a_this + x_place1))
      obtain ⟨q2, hF⟩ := gd_some hF
      have J2 : ((x_place1 < s1 1 a_this) ∧ (x_place1 < 4)) ∧ (s1 37 (s1 50 (4 * a_this + x_place1)) ≠ a_entry) → G X 0 0 28 [(3, a_this), (4, a_entry), (5, a_page), (0, x_place1), (1, 0)] [] (s1, m) := by
        intro h4
        have hF := ite_t h4 hF
        refine g_iinc h 28 dX0_take_28 rfl rfl (L' := [(3, a_this), (4, a_entry), (5, a_page), (0, x_place1 + 1), (1, 0)]) rfl ?_
        refine g_goto h 31 2 dX0_take_31 (by decide) ?_
        rw [ek1] at hF
        exact ih1 _ _ (by omega) hF
      have J3 : ¬ (((x_place1 < s1 1 a_this) ∧ (x_place1 < 4)) ∧ (s1 37 (s1 50 (4 * a_this + x_place1)) ≠ a_entry)) → G X 0 0 34 [(3, a_this), (4, a_entry), (5, a_page), (0, x_place1), (1, 0)] [] (s1, m) := by
        intro h5
        have hF := ite_f h5 hF
        obtain ⟨k2, ek2, hF⟩ := bn_ex hF
        have J4 : ∀ (x_place2 : Int) (s2 : S2), ((-2147483648) ≤ x_place2 ∧ x_place2 ≤ 2147483647) → k2 x_place2 s2 = some (r0, s0) → G X 0 0 46 [(3, a_this), (4, a_entry), (5, a_page), (0, x_place2), (1, 0)] [] (s2, m) := by
          intro x_place2 s2 q3 hF
          rw [ek2] at hF
          refine g_aload_nq h 46 dX0_take_46 rfl rfl ?_
          refine G_typ fun hT_s2 => ?_
          have t4 : 0 ≤ s2 1 a_this ∧ s2 1 a_this ≤ 4 := hT_s2.1 1 a_this
          refine g_aload_nq h 47 dX0_take_47 rfl rfl ?_
          refine gf_Cache_size h 48 dX0_take_48 kw_353 (by omega) ?_
          refine g_iload_n h 51 dX0_take_51 rfl ?_
          refine g_iconst h 52 dX0_take_52 ?_
          refine g_iadd h 53 dX0_take_53 ?_
          obtain ⟨q4, hF⟩ := gd_some hF
          refine g_maxW h 54 dX0_take_54 kw_813 kw_814 kw_116 kw_815 (Nat.le_of_ble_eq_true rfl) (Nat.le_of_ble_eq_true rfl) (gRi (by omega)) (gRi (by omega)) ⟨(Nat.le_of_ble_eq_true rfl), (Nat.le_of_ble_eq_true rfl)⟩ rfl ?_
          show G X 0 0 57 [(3, a_this), (4, a_entry), (5, a_page), (0, x_place2), (1, 0)] [(0, (if s2 1 a_this < x_place2 + 1 then x_place2 + 1 else s2 1 a_this : Int)), (3, a_this)] (s2, m)
          obtain ⟨q5, hF⟩ := gd_some hF
          obtain ⟨s4, es4, hF⟩ := bn_ex hF
          refine pf_Cache_size h 57 dX0_take_57 kw_353 (by omega) (by omega) ?_
          rw [← es4]
          refine G_typ fun hT_s4 => ?_
          have t5 : 0 ≤ s4 50 (4 * a_this + x_place2) ∧ s4 50 (4 * a_this + x_place2) ≤ 7 := hT_s4.1 50 (4 * a_this + x_place2)
          obtain ⟨q6, hF⟩ := gd_some hF
          refine g_aload_nq h 60 dX0_take_60 rfl rfl ?_
          refine gf_Cache_all h 61 dX0_take_61 kw_352 (by omega) ?_
          refine g_iload_n h 64 dX0_take_64 rfl ?_
          refine al_Cache_all h 65 dX0_take_65 (by omega) (by omega) ?_
          refine g_astore h 66 dX0_take_66 (Nat.le_of_ble_eq_true rfl) rfl (L' := [(3, a_this), (4, a_entry), (5, a_page), (0, x_place2), (9, s4 50 (4 * a_this + x_place2))]) rfl ?_
          refine g_aloadq h 68 dX0_take_68 rfl rfl ?_
          refine g_aload_nq h 70 dX0_take_70 rfl rfl ?_
          obtain ⟨s5, es5, hF⟩ := bn_ex hF
          refine pf_Translation_entry h 71 dX0_take_71 kw_341 (by omega) (by omega) ?_
          rw [← es5]
          refine g_aloadq h 74 dX0_take_74 rfl rfl ?_
          refine g_aload_nq h 76 dX0_take_76 rfl rfl ?_
          refine gf_Page_frame h 77 dX0_take_77 kw_281 (by omega) ?_
          obtain ⟨s6, es6, hF⟩ := bn_ex hF
          refine pf_Translation_frame h 80 dX0_take_80 kw_342 (by omega) (by omega) ?_
          rw [← es6]
          refine g_aloadq h 83 dX0_take_83 rfl rfl ?_
          refine G_typ fun hT_s6 => ?_
          have t6 : 0 ≤ s6 10 a_entry ∧ s6 10 a_entry ≤ 1 := hT_s6.1 10 a_entry
          refine g_aload_nq h 85 dX0_take_85 rfl rfl ?_
          refine gf_Entry_writable h 86 dX0_take_86 kw_215 (by omega) ?_
          obtain ⟨s7, es7, hF⟩ := bn_ex hF
          refine pf_Translation_writable h 89 dX0_take_89 kw_343 (by omega) (by omega) ?_
          rw [← es7]
          refine g_aload_nq h 92 dX0_take_92 rfl rfl ?_
          refine G_typ fun hT_s7 => ?_
          have t7 : 0 ≤ s7 14 a_entry ∧ s7 14 a_entry ≤ 3 := hT_s7.1 14 a_entry
          refine g_dup h 93 dX0_take_93 (show (4 : Nat) ≠ 2 by decide) ?_
          refine gf_Entry_told h 94 dX0_take_94 kw_222 (by omega) ?_
          refine g_aload_nq h 97 dX0_take_97 rfl rfl ?_
          refine gf_Cache_bit h 98 dX0_take_98 kw_351 (by omega) ?_
          refine g_iconst h 101 dX0_take_101 ?_
          refine g_ixor h 102 dX0_take_102 ?_
          have t8 : 0 ≤ gAnd (s7 14 a_entry) (gXor (a_this + 1) (-1)) ∧ gAnd (s7 14 a_entry) (gXor (a_this + 1) (-1)) ≤ 3 := gAnd_03 (by omega)
          refine g_iand h 103 dX0_take_103 ?_
          obtain ⟨s8, es8, hF⟩ := bn_ex hF
          refine pf_Entry_told h 104 dX0_take_104 kw_222 (by omega) (by omega) ?_
          rw [← es8]
          obtain ⟨e1, e2⟩ := some_2 hF
          rw [← e2] at hE
          exact g_vret h 107 dX0_take_107 hE rfl ⟨(Nat.le_of_ble_eq_true rfl), (Nat.le_of_ble_eq_true rfl)⟩
        have J5 : 4 ≤ x_place1 → G X 0 0 39 [(3, a_this), (4, a_entry), (5, a_page), (0, x_place1), (1, 0)] [] (s1, m) := by
          intro h7
          have hF := ite_t h7 hF
          refine g_aload_nq h 39 dX0_take_39 rfl rfl ?_
          refine g_iconst h 40 dX0_take_40 ?_
          obtain ⟨r1, s3, c1, hF⟩ := cb_some hF
          refine g_callV h hE 41 dX0_take_41 (ctX0_dismiss hl c1) mwX0_dismiss kw_691 (by decide) (show _ ∧ _ < (2 : Int) by omega) rfl (Nat.le_of_ble_eq_true rfl) rfl (Nat.le_of_ble_eq_true rfl) ⟨Nat.le_of_ble_eq_true rfl, Nat.le_of_ble_eq_true rfl⟩ rfl rfl ?_
          show G X 0 0 44 [(3, a_this), (4, a_entry), (5, a_page), (0, x_place1), (1, 0)] [] (s3, m)
          refine g_iconst h 44 dX0_take_44 ?_
          refine g_istore_n h 45 dX0_take_45 (Nat.le_of_ble_eq_true rfl) rfl (L' := [(3, a_this), (4, a_entry), (5, a_page), (0, 3), (1, 0)]) rfl ?_
          exact J4 _ _ (by omega) hF
        have J6 : ¬ (4 ≤ x_place1) → G X 0 0 46 [(3, a_this), (4, a_entry), (5, a_page), (0, x_place1), (1, 0)] [] (s1, m) := by
          intro h8
          have hF := ite_f h8 hF
          exact J4 _ _ (by omega) hF
        refine g_iload_n h 34 dX0_take_34 rfl ?_
        refine g_iconst h 35 dX0_take_35 ?_
        refine g_icmp_lt h 36 46 (gRi (by omega)) (gRi (by omega)) dX0_take_36 (by decide) (fun h6 => ?_) (fun h6 => ?_)
        · exact J6 (Int.not_le.mpr h6)
        · exact J5 h6
      refine g_iload_n h 2 dX0_take_2 rfl ?_
      refine g_aload_nq h 3 dX0_take_3 rfl rfl ?_
      refine gf_Cache_size h 4 dX0_take_4 kw_353 (by omega) ?_
      refine g_icmp_ge h 7 34 (gRi (by omega)) (gRi (by omega)) dX0_take_7 (by decide) (fun h1 => ?_) (fun h1 => ?_)
      · exact J3 (fun q => (fun q => (Int.not_lt.mpr h1) q.1) q.1)
      · refine g_iload_n h 10 dX0_take_10 rfl ?_
        refine g_iconst h 11 dX0_take_11 ?_
        refine g_icmp_ge h 12 34 (gRi (by omega)) (gRi (by omega)) dX0_take_12 (by decide) (fun h2 => ?_) (fun h2 => ?_)
        · exact J3 (fun q => (fun q => (Int.not_lt.mpr h2) q.2) q.1)
        · refine g_aload_nq h 15 dX0_take_15 rfl rfl ?_
          refine gf_Cache_all h 16 dX0_take_16 kw_352 (by omega) ?_
          refine g_iload_n h 19 dX0_take_19 rfl ?_
          refine al_Cache_all h 20 dX0_take_20 (by omega) (by omega) ?_
          refine gf_Translation_entry h 21 dX0_take_21 kw_341 (by omega) ?_
          refine g_aload_nq h 24 dX0_take_24 rfl rfl ?_
          refine g_acmp_eq h 25 34 (show -1 ≤ _ ∧ _ < (192 : Int) by omega) (show -1 ≤ _ ∧ _ < (192 : Int) by omega) (by decide) dX0_take_25 (by decide) (fun h3 => ?_) (fun h3 => ?_)
          · exact J3 (fun q => (fun q => q h3) q.2)
          · exact J2 ⟨⟨h1, h2⟩, h3⟩
  exact J7 _ _ _ (by omega) hF
-- Pagewright$Entry.becomeOut
def FX1_becomeOut (a_this a_to : Int) (s : S2) : Option (Int × S2) :=
  gd (0 ≤ a_this ∧ a_this ≤ 191) <| gd ((-1) ≤ a_to ∧ a_to ≤ 17) <| cb (FX1_becomeAbsent a_this s) fun r1 s1 => bn (fun (s2 : S2) => some (0, s2)) fun k1 => if 0 ≤ a_to then bn (upd2 s1 8 a_this 2) fun s3 => bn (upd2 s3 11 a_this a_to) fun s4 => gd (0 ≤ (s4 30 a_to) + 1 ∧ (s4 30 a_to) + 1 ≤ 192) <| bn (upd2 s4 30 a_to ((s4 30 a_to) + 1)) fun s5 => k1 s5 else k1 s1
set_option maxRecDepth 100000 in
set_option maxHeartbeats 4000000 in
theorem ctX1_becomeOut {l : Launch} {w : gW} {bs : Nat} (hl : l.stackTraces = false) {a_this a_to : Int} {s m s0 : S2} {r0 : Int} (hF : FX1_becomeOut a_this a_to s = some (r0, s0)) : gMet l w bs yX1_becomeOut cX1_becomeOut 2 none 1 0 [(4, a_this), (6, a_to)] (s, m) 0 none (s0, m) := by
  unfold FX1_becomeOut at hF
  obtain ⟨q_a_this, hF⟩ := gd_some hF
  obtain ⟨q_a_to, hF⟩ := gd_some hF
  refine g_start hl (by decide) (Nat.le_of_ble_eq_true rfl) rfl fun X h hE => ?_
  have h : gOk X "Pagewright$Entry" cX1_becomeOut 2 1 0 0 := h
  have hE : gEnd X l w bs 0 none 0 none (s0, m) := hE
  show G X 0 0 0 [(4, a_this), (6, a_to)] [] (s, m)
  refine g_aload_nq h 0 dX1_becomeOut_0 rfl rfl ?_
  obtain ⟨r1, s1, c1, hF⟩ := cb_some hF
  refine g_callV h hE 1 dX1_becomeOut_1 (ctX1_becomeAbsent hl c1) mwX1_becomeAbsent kw_589 (by decide) (show _ ∧ _ < (192 : Int) by omega) rfl (Nat.le_of_ble_eq_true rfl) rfl (Nat.le_of_ble_eq_true rfl) ⟨Nat.le_of_ble_eq_true rfl, Nat.le_of_ble_eq_true rfl⟩ rfl rfl ?_
  show G X 0 0 4 [(4, a_this), (6, a_to)] [] (s1, m)
  obtain ⟨k1, ek1, hF⟩ := bn_ex hF
  have J1 : ∀ (s2 : S2), k1 s2 = some (r0, s0) → G X 0 0 28 [(4, a_this), (6, a_to)] [] (s2, m) := by
    intro s2 hF
    rw [ek1] at hF
    obtain ⟨e1, e2⟩ := some_2 hF
    rw [← e2] at hE
    exact g_vret h 28 dX1_becomeOut_28 hE rfl ⟨(Nat.le_of_ble_eq_true rfl), (Nat.le_of_ble_eq_true rfl)⟩
  have J2 : 0 ≤ a_to → G X 0 0 8 [(4, a_this), (6, a_to)] [] (s1, m) := by
    intro h2
    have hF := ite_t h2 hF
    refine g_aload_nq h 8 dX1_becomeOut_8 rfl rfl ?_
    refine g_iconst h 9 dX1_becomeOut_9 ?_
    obtain ⟨s3, es3, hF⟩ := bn_ex hF
    refine pf_Entry_state h 10 dX1_becomeOut_10 kw_209 (by omega) (by omega) ?_
    rw [← es3]
    refine g_aload_nq h 13 dX1_becomeOut_13 rfl rfl ?_
    refine g_aload_nq h 14 dX1_becomeOut_14 rfl rfl ?_
    obtain ⟨s4, es4, hF⟩ := bn_ex hF
    refine pf_Entry_record h 15 dX1_becomeOut_15 kw_217 (by omega) (by omega) ?_
    rw [← es4]
    refine g_aload_nq h 18 dX1_becomeOut_18 rfl rfl ?_
    refine G_typ fun hT_s4 => ?_
    have t1 : 0 ≤ s4 30 a_to ∧ s4 30 a_to ≤ 192 := hT_s4.1 30 a_to
    refine g_dup h 19 dX1_becomeOut_19 (show (6 : Nat) ≠ 2 by decide) ?_
    refine gf_Record_holders h 20 dX1_becomeOut_20 kw_151 (by omega) ?_
    refine g_iconst h 23 dX1_becomeOut_23 ?_
    refine g_iadd h 24 dX1_becomeOut_24 ?_
    obtain ⟨q1, hF⟩ := gd_some hF
    obtain ⟨s5, es5, hF⟩ := bn_ex hF
    refine pf_Record_holders h 25 dX1_becomeOut_25 kw_151 (by omega) (by omega) ?_
    rw [← es5]
    exact J1 _ hF
  have J3 : ¬ (0 ≤ a_to) → G X 0 0 28 [(4, a_this), (6, a_to)] [] (s1, m) := by
    intro h3
    have hF := ite_f h3 hF
    exact J1 _ hF
  refine g_aload_nq h 4 dX1_becomeOut_4 rfl rfl ?_
  refine g_ifnull h 5 28 dX1_becomeOut_5 (by decide) (fun h1 => ?_) (fun h1 => ?_)
  · exact J3 (Int.not_le.mpr h1)
  · exact J2 h1
-- Pagewright$Entry.clear
def FX1_clear (a_this : Int) (s : S2) : Option (Int × S2) :=
  gd (0 ≤ a_this ∧ a_this ≤ 191) <| bn (upd2 s 2 a_this 0) fun s1 => bn (upd2 s1 3 a_this 0) fun s2 => bn (upd2 s2 4 a_this (-1)) fun s3 => bn (upd2 s3 5 a_this 0) fun s4 => bn (upd2 s4 6 a_this 0) fun s5 => bn (upd2 s5 7 a_this 0) fun s6 => bn (upd2 s6 12 a_this 0) fun s7 => cb (FX1_becomeAbsent a_this s7) fun r1 s8 => some (0, s8)
set_option maxRecDepth 100000 in
set_option maxHeartbeats 4000000 in
theorem ctX1_clear {l : Launch} {w : gW} {bs : Nat} (hl : l.stackTraces = false) {a_this : Int} {s m s0 : S2} {r0 : Int} (hF : FX1_clear a_this s = some (r0, s0)) : gMet l w bs yX1_clear cX1_clear 1 none 1 0 [(4, a_this)] (s, m) 0 none (s0, m) := by
  unfold FX1_clear at hF
  obtain ⟨q_a_this, hF⟩ := gd_some hF
  refine g_start hl (by decide) (Nat.le_of_ble_eq_true rfl) rfl fun X h hE => ?_
  have h : gOk X "Pagewright$Entry" cX1_clear 1 1 0 0 := h
  have hE : gEnd X l w bs 0 none 0 none (s0, m) := hE
  show G X 0 0 0 [(4, a_this)] [] (s, m)
  refine g_aload_nq h 0 dX1_clear_0 rfl rfl ?_
  refine g_iconst h 1 dX1_clear_1 ?_
  obtain ⟨s1, es1, hF⟩ := bn_ex hF
  refine pf_Entry_mapped h 2 dX1_clear_2 kw_193 (by omega) (by omega) ?_
  rw [← es1]
  refine g_aload_nq h 5 dX1_clear_5 rfl rfl ?_
  refine g_iconst h 6 dX1_clear_6 ?_
  obtain ⟨s2, es2, hF⟩ := bn_ex hF
  refine pf_Entry_rights h 7 dX1_clear_7 kw_195 (by omega) (by omega) ?_
  rw [← es2]
  refine g_aload_nq h 10 dX1_clear_10 rfl rfl ?_
  refine g_iconst h 11 dX1_clear_11 ?_
  obtain ⟨s3, es3, hF⟩ := bn_ex hF
  refine pf_Entry_file h 12 dX1_clear_12 kw_198 (by omega) (by omega) ?_
  rw [← es3]
  refine g_aload_nq h 15 dX1_clear_15 rfl rfl ?_
  refine g_iconst h 16 dX1_clear_16 ?_
  obtain ⟨s4, es4, hF⟩ := bn_ex hF
  refine pf_Entry_index h 17 dX1_clear_17 kw_201 (by omega) (by omega) ?_
  rw [← es4]
  refine g_aload_nq h 20 dX1_clear_20 rfl rfl ?_
  refine g_iconst h 21 dX1_clear_21 ?_
  obtain ⟨s5, es5, hF⟩ := bn_ex hF
  refine pf_Entry_shared h 22 dX1_clear_22 kw_204 (by omega) (by omega) ?_
  rw [← es5]
  refine g_aload_nq h 25 dX1_clear_25 rfl rfl ?_
  refine g_iconst h 26 dX1_clear_26 ?_
  obtain ⟨s6, es6, hF⟩ := bn_ex hF
  refine pf_Entry_grows h 27 dX1_clear_27 kw_207 (by omega) (by omega) ?_
  rw [← es6]
  refine g_aload_nq h 30 dX1_clear_30 rfl rfl ?_
  refine g_iconst h 31 dX1_clear_31 ?_
  obtain ⟨s7, es7, hF⟩ := bn_ex hF
  refine pf_Entry_looked h 32 dX1_clear_32 kw_219 (by omega) (by omega) ?_
  rw [← es7]
  refine g_aload_nq h 35 dX1_clear_35 rfl rfl ?_
  obtain ⟨r1, s8, c1, hF⟩ := cb_some hF
  refine g_callV h hE 36 dX1_clear_36 (ctX1_becomeAbsent hl c1) mwX1_becomeAbsent kw_589 (by decide) (show _ ∧ _ < (192 : Int) by omega) rfl (Nat.le_of_ble_eq_true rfl) rfl (Nat.le_of_ble_eq_true rfl) ⟨Nat.le_of_ble_eq_true rfl, Nat.le_of_ble_eq_true rfl⟩ rfl rfl ?_
  show G X 0 0 39 [(4, a_this)] [] (s8, m)
  obtain ⟨e1, e2⟩ := some_2 hF
  rw [← e2] at hE
  exact g_vret h 39 dX1_clear_39 hE rfl ⟨(Nat.le_of_ble_eq_true rfl), (Nat.le_of_ble_eq_true rfl)⟩
-- Pagewright$Entry.forbidStores
def FX1_forbidStores (a_this : Int) (s : S2) : Option (Int × S2) :=
  gd (0 ≤ a_this ∧ a_this ≤ 191) <| bn (fun (s1 : S2) => some (0, s1)) fun k1 => if s 10 a_this ≠ 0 then cb (FX1_tellProcessors a_this s) fun r1 s2 => bn (upd2 s2 10 a_this 0) fun s3 => k1 s3 else k1 s
set_option maxRecDepth 100000 in
set_option maxHeartbeats 4000000 in
theorem ctX1_forbidStores {l : Launch} {w : gW} {bs : Nat} (hl : l.stackTraces = false) {a_this : Int} {s m s0 : S2} {r0 : Int} (hF : FX1_forbidStores a_this s = some (r0, s0)) : gMet l w bs yX1_forbidStores cX1_forbidStores 1 none 1 0 [(4, a_this)] (s, m) 0 none (s0, m) := by
  unfold FX1_forbidStores at hF
  obtain ⟨q_a_this, hF⟩ := gd_some hF
  refine g_start hl (by decide) (Nat.le_of_ble_eq_true rfl) rfl fun X h hE => ?_
  have h : gOk X "Pagewright$Entry" cX1_forbidStores 1 1 0 0 := h
  have hE : gEnd X l w bs 0 none 0 none (s0, m) := hE
  show G X 0 0 0 [(4, a_this)] [] (s, m)
  obtain ⟨k1, ek1, hF⟩ := bn_ex hF
  have J1 : ∀ (s1 : S2), k1 s1 = some (r0, s0) → G X 0 0 16 [(4, a_this)] [] (s1, m) := by
    intro s1 hF
    rw [ek1] at hF
    obtain ⟨e1, e2⟩ := some_2 hF
    rw [← e2] at hE
    exact g_vret h 16 dX1_forbidStores_16 hE rfl ⟨(Nat.le_of_ble_eq_true rfl), (Nat.le_of_ble_eq_true rfl)⟩
  refine G_typ fun hT_s => ?_
  have t1 : 0 ≤ s 10 a_this ∧ s 10 a_this ≤ 1 := hT_s.1 10 a_this
  have J2 : s 10 a_this ≠ 0 → G X 0 0 7 [(4, a_this)] [] (s, m) := by
    intro h2
    have hF := ite_t h2 hF
    refine g_aload_nq h 7 dX1_forbidStores_7 rfl rfl ?_
    obtain ⟨r1, s2, c1, hF⟩ := cb_some hF
    refine g_callV h hE 8 dX1_forbidStores_8 (ctX1_tellProcessors hl c1) mwX1_tellProcessors kw_601 (by decide) (show _ ∧ _ < (192 : Int) by omega) rfl (Nat.le_of_ble_eq_true rfl) rfl (Nat.le_of_ble_eq_true rfl) ⟨Nat.le_of_ble_eq_true rfl, Nat.le_of_ble_eq_true rfl⟩ rfl rfl ?_
    show G X 0 0 11 [(4, a_this)] [] (s2, m)
    refine g_aload_nq h 11 dX1_forbidStores_11 rfl rfl ?_
    refine g_iconst h 12 dX1_forbidStores_12 ?_
    obtain ⟨s3, es3, hF⟩ := bn_ex hF
    refine pf_Entry_writable h 13 dX1_forbidStores_13 kw_214 (by omega) (by omega) ?_
    rw [← es3]
    exact J1 _ hF
  have J3 : ¬ (s 10 a_this ≠ 0) → G X 0 0 16 [(4, a_this)] [] (s, m) := by
    intro h3
    have hF := ite_f h3 hF
    exact J1 _ hF
  refine g_aload_nq h 0 dX1_forbidStores_0 rfl rfl ?_
  refine gf_Entry_writable h 1 dX1_forbidStores_1 kw_214 (by omega) ?_
  refine g_if_eq h 4 16 (gRi (by omega)) dX1_forbidStores_4 (by decide) (fun h1 => ?_) (fun h1 => ?_)
  · exact J3 (fun q => q h1)
  · exact J2 h1
-- Pagewright$Entry.resemble
def FX1_resemble (a_this a_parent : Int) (s : S2) : Option (Int × S2) :=
  gd (0 ≤ a_this ∧ a_this ≤ 191) <| gd (0 ≤ a_parent ∧ a_parent ≤ 191) <| if ¬ (s 2 a_parent ≠ 0) then some (0, s) else cb (FX1_establish a_this (s 3 a_parent) (s 4 a_parent) (s 5 a_parent) (s 6 a_parent) (s 7 a_parent) s) fun r1 s1 => bn (upd2 s1 8 a_this (s1 8 a_parent)) fun s2 => bn (upd2 s2 9 a_this (s2 9 a_parent)) fun s3 => bn (upd2 s3 11 a_this (s3 11 a_parent)) fun s4 => bn (fun (s5 : S2) => bn (fun (s7 : S2) => some (0, s7)) fun k2 => if 0 ≤ s5 11 a_this then gd (0 ≤ (s5 30 (s5 11 a_this)) + 1 ∧ (s5 30 (s5 11 a_this)) + 1 ≤ 192) <| bn (upd2 s5 30 (s5 11 a_this) ((s5 30 (s5 11 a_this)) + 1)) fun s8 => k2 s8 else k2 s5) fun k1 => if 0 ≤ s4 9 a_this then gd (0 ≤ (s4 20 (s4 9 a_this)) + 1 ∧ (s4 20 (s4 9 a_this)) + 1 ≤ 192) <| bn (upd2 s4 20 (s4 9 a_this) ((s4 20 (s4 9 a_this)) + 1)) fun s6 => k1 s6 else k1 s4
set_option maxRecDepth 100000 in
set_option maxHeartbeats 4000000 in
theorem ctX1_resemble {l : Launch} {w : gW} {bs : Nat} (hl : l.stackTraces = false) {a_this a_parent : Int} {s m s0 : S2} {r0 : Int} (hF : FX1_resemble a_this a_parent s = some (r0, s0)) : gMet l w bs yX1_resemble cX1_resemble 2 none 1 0 [(4, a_this), (4, a_parent)] (s, m) 0 none (s0, m) := by
  unfold FX1_resemble at hF
  obtain ⟨q_a_this, hF⟩ := gd_some hF
  obtain ⟨q_a_parent, hF⟩ := gd_some hF
  refine g_start hl (by decide) (Nat.le_of_ble_eq_true rfl) rfl fun X h hE => ?_
  have h : gOk X "Pagewright$Entry" cX1_resemble 2 1 0 0 := h
  have hE : gEnd X l w bs 0 none 0 none (s0, m) := hE
  show G X 0 0 0 [(4, a_this), (4, a_parent)] [] (s, m)
  refine G_typ fun hT_s => ?_
  have t1 : 0 ≤ s 2 a_parent ∧ s 2 a_parent ≤ 1 := hT_s.1 2 a_parent
  have J1 : ¬ (s 2 a_parent ≠ 0) → G X 0 0 7 [(4, a_this), (4, a_parent)] [] (s, m) := by
    intro h2
    have hF := ite_t h2 hF
    obtain ⟨e1, e2⟩ := some_2 hF
    rw [← e2] at hE
    exact g_vret h 7 dX1_resemble_7 hE rfl ⟨(Nat.le_of_ble_eq_true rfl), (Nat.le_of_ble_eq_true rfl)⟩
  have J2 : ¬ (¬ (s 2 a_parent ≠ 0)) → G X 0 0 8 [(4, a_this), (4, a_parent)] [] (s, m) := by
    intro h3
    have hF := ite_f h3 hF
    refine g_aload_nq h 8 dX1_resemble_8 rfl rfl ?_
    have t2 : 0 ≤ s 3 a_parent ∧ s 3 a_parent ≤ 3 := hT_s.1 3 a_parent
    refine g_aload_nq h 9 dX1_resemble_9 rfl rfl ?_
    refine gf_Entry_rights h 10 dX1_resemble_10 kw_195 (by omega) ?_
    have t3 : (-1) ≤ s 4 a_parent ∧ s 4 a_parent ≤ 2 := hT_s.1 4 a_parent
    refine g_aload_nq h 13 dX1_resemble_13 rfl rfl ?_
    refine gf_Entry_file h 14 dX1_resemble_14 kw_198 (by omega) ?_
    have t4 : 0 ≤ s 5 a_parent ∧ s 5 a_parent ≤ 7 := hT_s.1 5 a_parent
    refine g_aload_nq h 17 dX1_resemble_17 rfl rfl ?_
    refine gf_Entry_index h 18 dX1_resemble_18 kw_201 (by omega) ?_
    have t5 : 0 ≤ s 6 a_parent ∧ s 6 a_parent ≤ 1 := hT_s.1 6 a_parent
    refine g_aload_nq h 21 dX1_resemble_21 rfl rfl ?_
    refine gf_Entry_shared h 22 dX1_resemble_22 kw_204 (by omega) ?_
    have t6 : 0 ≤ s 7 a_parent ∧ s 7 a_parent ≤ 1 := hT_s.1 7 a_parent
    refine g_aload_nq h 25 dX1_resemble_25 rfl rfl ?_
    refine gf_Entry_grows h 26 dX1_resemble_26 kw_207 (by omega) ?_
    obtain ⟨r1, s1, c1, hF⟩ := cb_some hF
    refine g_callV h hE 29 dX1_resemble_29 (ctX1_establish hl c1) mwX1_establish kw_613 (by decide) (show _ ∧ _ < (192 : Int) by omega) rfl (Nat.le_of_ble_eq_true rfl) rfl (Nat.le_of_ble_eq_true rfl) ⟨Nat.le_of_ble_eq_true rfl, Nat.le_of_ble_eq_true rfl⟩ rfl rfl ?_
    show G X 0 0 32 [(4, a_this), (4, a_parent)] [] (s1, m)
    refine g_aload_nq h 32 dX1_resemble_32 rfl rfl ?_
    refine G_typ fun hT_s1 => ?_
    have t7 : 0 ≤ s1 8 a_parent ∧ s1 8 a_parent ≤ 2 := hT_s1.1 8 a_parent
    refine g_aload_nq h 33 dX1_resemble_33 rfl rfl ?_
    refine gf_Entry_state h 34 dX1_resemble_34 kw_209 (by omega) ?_
    obtain ⟨s2, es2, hF⟩ := bn_ex hF
    refine pf_Entry_state h 37 dX1_resemble_37 kw_209 (by omega) (by omega) ?_
    rw [← es2]
    refine g_aload_nq h 40 dX1_resemble_40 rfl rfl ?_
    refine G_typ fun hT_s2 => ?_
    have t8 : (-1) ≤ s2 9 a_parent ∧ s2 9 a_parent ≤ 23 := hT_s2.1 9 a_parent
    refine g_aload_nq h 41 dX1_resemble_41 rfl rfl ?_
    refine gf_Entry_page h 42 dX1_resemble_42 kw_212 (by omega) ?_
    obtain ⟨s3, es3, hF⟩ := bn_ex hF
    refine pf_Entry_page h 45 dX1_resemble_45 kw_212 (by omega) (by omega) ?_
    rw [← es3]
    refine g_aload_nq h 48 dX1_resemble_48 rfl rfl ?_
    refine G_typ fun hT_s3 => ?_
    have t9 : (-1) ≤ s3 11 a_parent ∧ s3 11 a_parent ≤ 17 := hT_s3.1 11 a_parent
    refine g_aload_nq h 49 dX1_resemble_49 rfl rfl ?_
    refine gf_Entry_record h 50 dX1_resemble_50 kw_217 (by omega) ?_
    obtain ⟨s4, es4, hF⟩ := bn_ex hF
    refine pf_Entry_record h 53 dX1_resemble_53 kw_217 (by omega) (by omega) ?_
    rw [← es4]
    obtain ⟨k1, ek1, hF⟩ := bn_ex hF
    have J3 : ∀ (s5 : S2), k1 s5 = some (r0, s0) → G X 0 0 76 [(4, a_this), (4, a_parent)] [] (s5, m) := by
      intro s5 hF
      rw [ek1] at hF
      obtain ⟨k2, ek2, hF⟩ := bn_ex hF
      have J6 : ∀ (s7 : S2), k2 s7 = some (r0, s0) → G X 0 0 96 [(4, a_this), (4, a_parent)] [] (s7, m) := by
        intro s7 hF
        rw [ek2] at hF
        obtain ⟨e1, e2⟩ := some_2 hF
        rw [← e2] at hE
        exact g_vret h 96 dX1_resemble_96 hE rfl ⟨(Nat.le_of_ble_eq_true rfl), (Nat.le_of_ble_eq_true rfl)⟩
      refine G_typ fun hT_s5 => ?_
      have t12 : (-1) ≤ s5 11 a_this ∧ s5 11 a_this ≤ 17 := hT_s5.1 11 a_this
      have J7 : 0 ≤ s5 11 a_this → G X 0 0 83 [(4, a_this), (4, a_parent)] [] (s5, m) := by
        intro h8
        have hF := ite_t h8 hF
        refine g_aload_nq h 83 dX1_resemble_83 rfl rfl ?_
        refine gf_Entry_record h 84 dX1_resemble_84 kw_217 (by omega) ?_
        have t13 : 0 ≤ s5 30 (s5 11 a_this) ∧ s5 30 (s5 11 a_this) ≤ 192 := hT_s5.1 30 (s5 11 a_this)
        refine g_dup h 87 dX1_resemble_87 (show (6 : Nat) ≠ 2 by decide) ?_
        refine gf_Record_holders h 88 dX1_resemble_88 kw_151 (by omega) ?_
        refine g_iconst h 91 dX1_resemble_91 ?_
        refine g_iadd h 92 dX1_resemble_92 ?_
        obtain ⟨q2, hF⟩ := gd_some hF
        obtain ⟨s8, es8, hF⟩ := bn_ex hF
        refine pf_Record_holders h 93 dX1_resemble_93 kw_151 (by omega) (by omega) ?_
        rw [← es8]
        exact J6 _ hF
      have J8 : ¬ (0 ≤ s5 11 a_this) → G X 0 0 96 [(4, a_this), (4, a_parent)] [] (s5, m) := by
        intro h9
        have hF := ite_f h9 hF
        exact J6 _ hF
      refine g_aload_nq h 76 dX1_resemble_76 rfl rfl ?_
      refine gf_Entry_record h 77 dX1_resemble_77 kw_217 (by omega) ?_
      refine g_ifnull h 80 96 dX1_resemble_80 (by decide) (fun h7 => ?_) (fun h7 => ?_)
      · exact J8 (Int.not_le.mpr h7)
      · exact J7 h7
    refine G_typ fun hT_s4 => ?_
    have t10 : (-1) ≤ s4 9 a_this ∧ s4 9 a_this ≤ 23 := hT_s4.1 9 a_this
    have J4 : 0 ≤ s4 9 a_this → G X 0 0 63 [(4, a_this), (4, a_parent)] [] (s4, m) := by
      intro h5
      have hF := ite_t h5 hF
      refine g_aload_nq h 63 dX1_resemble_63 rfl rfl ?_
      refine gf_Entry_page h 64 dX1_resemble_64 kw_212 (by omega) ?_
      have t11 : 0 ≤ s4 20 (s4 9 a_this) ∧ s4 20 (s4 9 a_this) ≤ 192 := hT_s4.1 20 (s4 9 a_this)
      refine g_dup h 67 dX1_resemble_67 (show (5 : Nat) ≠ 2 by decide) ?_
      refine gf_Page_holders h 68 dX1_resemble_68 kw_293 (by omega) ?_
      refine g_iconst h 71 dX1_resemble_71 ?_
      refine g_iadd h 72 dX1_resemble_72 ?_
      obtain ⟨q1, hF⟩ := gd_some hF
      obtain ⟨s6, es6, hF⟩ := bn_ex hF
      refine pf_Page_holders h 73 dX1_resemble_73 kw_293 (by omega) (by omega) ?_
      rw [← es6]
      exact J3 _ hF
    have J5 : ¬ (0 ≤ s4 9 a_this) → G X 0 0 76 [(4, a_this), (4, a_parent)] [] (s4, m) := by
      intro h6
      have hF := ite_f h6 hF
      exact J3 _ hF
    refine g_aload_nq h 56 dX1_resemble_56 rfl rfl ?_
    refine gf_Entry_page h 57 dX1_resemble_57 kw_212 (by omega) ?_
    refine g_ifnull h 60 76 dX1_resemble_60 (by decide) (fun h4 => ?_) (fun h4 => ?_)
    · exact J5 (Int.not_le.mpr h4)
    · exact J4 h4
  refine g_aload_nq h 0 dX1_resemble_0 rfl rfl ?_
  refine gf_Entry_mapped h 1 dX1_resemble_1 kw_193 (by omega) ?_
  refine g_if_ne h 4 8 (gRi (by omega)) dX1_resemble_4 (by decide) (fun h1 => ?_) (fun h1 => ?_)
  · exact J2 (fun q => q h1)
  · exact J1 (fun q => q h1)
-- Pagewright$Page.number
def FX2_number (a_this a_what : Int) (s : S2) : Option (Int × S2) :=
  rgd (-2147483648) 2147483647 <| gd (0 ≤ a_this ∧ a_this ≤ 23) <| gd (0 ≤ a_what ∧ a_what ≤ 7) <| if a_what = 1 then some (s 16 a_this, s) else if a_what = 2 then some (s 17 a_this, s) else if a_what = 3 then some ((if s 19 a_this ≠ 0 then 1 else 0 : Int), s) else if a_what = 4 then some (s 20 a_this, s) else if a_what = 5 then some (s 21 a_this, s) else if a_what = 6 then some ((if (if s 15 a_this = 2 then s 23 a_this else s 22 a_this : Int) ≠ 0 then 1 else 0 : Int), s) else some ((if s 15 a_this = 2 then (10 * (s 24 a_this)) + (s 25 a_this) else (-1) : Int), s)
theorem rgX2_number {a_this a_what : Int} {s s0 : S2} {r0 : Int} (hF : FX2_number a_this a_what s = some (r0, s0)) : (-2147483648) ≤ r0 ∧ r0 ≤ 2147483647 := (rgd_some hF).2
set_option maxRecDepth 100000 in
set_option maxHeartbeats 4000000 in
theorem ctX2_number {l : Launch} {w : gW} {bs : Nat} (hl : l.stackTraces = false) {a_this a_what : Int} {s m s0 : S2} {r0 : Int} (hF : FX2_number a_this a_what s = some (r0, s0)) : gMet l w bs yX2_number cX2_number 2 (some FieldType.int) 1 0 [(5, a_this), (0, a_what)] (s, m) 0 (some (0, r0)) (s0, m) := by
  unfold FX2_number at hF
  obtain ⟨hF, hr⟩ := rgd_some hF
  obtain ⟨q_a_this, hF⟩ := gd_some hF
  obtain ⟨q_a_what, hF⟩ := gd_some hF
  refine g_start hl (by decide) (Nat.le_of_ble_eq_true rfl) rfl fun X h hE => ?_
  have h : gOk X "Pagewright$Page" cX2_number 2 1 0 0 := h
  have hE : gEnd X l w bs 0 (some FieldType.int) 0 (some (0, r0)) (s0, m) := hE
  show G X 0 0 0 [(5, a_this), (0, a_what)] [] (s, m)
  refine g_iload_n h 0 dX2_number_0 rfl ?_
  by_cases h1 : a_what = 1
  · have hF := ite_t h1 hF
    refine g_tsIn h 1 dX2_number_1 1 40 h1 (by decide) (by decide) 39 (by decide) (by decide) ?_
    refine G_typ fun hT_s => ?_
    have t1 : 0 ≤ s 16 a_this ∧ s 16 a_this ≤ 99999 := hT_s.1 16 a_this
    refine g_aload_nq h 40 dX2_number_40 rfl rfl ?_
    refine gf_Page_value h 41 dX2_number_41 kw_285 (by omega) ?_
    obtain ⟨e1, e2⟩ := some_2 hF
    rw [← e1, ← e2] at hE
    exact g_iret h 44 dX2_number_44 hE rfl rfl ⟨(Nat.le_of_ble_eq_true rfl), (Nat.le_of_ble_eq_true rfl)⟩
  have hF := ite_f h1 hF
  by_cases h2 : a_what = 2
  · have hF := ite_t h2 hF
    refine g_tsIn h 1 dX2_number_1 2 45 h2 (by decide) (by decide) 44 (by decide) (by decide) ?_
    refine G_typ fun hT_s => ?_
    have t2 : 0 ≤ s 17 a_this ∧ s 17 a_this ≤ 1 := hT_s.1 17 a_this
    refine g_aload_nq h 45 dX2_number_45 rfl rfl ?_
    refine gf_Page_list h 46 dX2_number_46 kw_287 (by omega) ?_
    obtain ⟨e1, e2⟩ := some_2 hF
    rw [← e1, ← e2] at hE
    exact g_iret h 49 dX2_number_49 hE rfl rfl ⟨(Nat.le_of_ble_eq_true rfl), (Nat.le_of_ble_eq_true rfl)⟩
  have hF := ite_f h2 hF
  by_cases h3 : a_what = 3
  · have hF := ite_t h3 hF
    refine g_tsIn h 1 dX2_number_1 3 50 h3 (by decide) (by decide) 49 (by decide) (by decide) ?_
    refine G_typ fun hT_s => ?_
    have t3 : 0 ≤ s 19 a_this ∧ s 19 a_this ≤ 1 := hT_s.1 19 a_this
    refine g_aload_nq h 50 dX2_number_50 rfl rfl ?_
    refine gf_Page_seen h 51 dX2_number_51 kw_290 (by omega) ?_
    refine g_callSN (host := "Pagewright") h hE 54 dX2_number_54 (cpX7_asNumber (a_is := s 19 a_this) hl (by omega)) mwX7_asNumber (by decide) (Nat.le_of_ble_eq_true rfl) rfl (Nat.le_of_ble_eq_true rfl) ⟨Nat.le_of_ble_eq_true rfl, Nat.le_of_ble_eq_true rfl⟩ rfl rfl ?_
    show G X 0 0 57 [(5, a_this), (0, a_what)] [(0, (if s 19 a_this ≠ 0 then 1 else 0 : Int))] (s, m)
    obtain ⟨e1, e2⟩ := some_2 hF
    rw [← e1, ← e2] at hE
    exact g_iret h 57 dX2_number_57 hE rfl rfl ⟨(Nat.le_of_ble_eq_true rfl), (Nat.le_of_ble_eq_true rfl)⟩
  have hF := ite_f h3 hF
  by_cases h4 : a_what = 4
  · have hF := ite_t h4 hF
    refine g_tsIn h 1 dX2_number_1 4 58 h4 (by decide) (by decide) 57 (by decide) (by decide) ?_
    refine G_typ fun hT_s => ?_
    have t4 : 0 ≤ s 20 a_this ∧ s 20 a_this ≤ 192 := hT_s.1 20 a_this
    refine g_aload_nq h 58 dX2_number_58 rfl rfl ?_
    refine gf_Page_holders h 59 dX2_number_59 kw_292 (by omega) ?_
    obtain ⟨e1, e2⟩ := some_2 hF
    rw [← e1, ← e2] at hE
    exact g_iret h 62 dX2_number_62 hE rfl rfl ⟨(Nat.le_of_ble_eq_true rfl), (Nat.le_of_ble_eq_true rfl)⟩
  have hF := ite_f h4 hF
  by_cases h5 : a_what = 5
  · have hF := ite_t h5 hF
    refine g_tsIn h 1 dX2_number_1 5 63 h5 (by decide) (by decide) 62 (by decide) (by decide) ?_
    refine G_typ fun hT_s => ?_
    have t5 : 0 ≤ s 21 a_this ∧ s 21 a_this ≤ 2 := hT_s.1 21 a_this
    refine g_aload_nq h 63 dX2_number_63 rfl rfl ?_
    refine gf_Page_group h 64 dX2_number_64 kw_295 (by omega) ?_
    obtain ⟨e1, e2⟩ := some_2 hF
    rw [← e1, ← e2] at hE
    exact g_iret h 67 dX2_number_67 hE rfl rfl ⟨(Nat.le_of_ble_eq_true rfl), (Nat.le_of_ble_eq_true rfl)⟩
  have hF := ite_f h5 hF
  by_cases h6 : a_what = 6
  · have hF := ite_t h6 hF
    refine g_tsIn h 1 dX2_number_1 6 68 h6 (by decide) (by decide) 67 (by decide) (by decide) ?_
    refine G_typ fun hT_s => ?_
    have t6 : 0 ≤ s 15 a_this ∧ s 15 a_this ≤ 2 := hT_s.1 15 a_this
    have t7 : 0 ≤ s 23 a_this ∧ s 23 a_this ≤ 1 := hT_s.1 23 a_this
    have t8 : 0 ≤ s 22 a_this ∧ s 22 a_this ≤ 1 := hT_s.1 22 a_this
    suffices J1 : ∀ v1 : Int, v1 = (if s 15 a_this = 2 then s 23 a_this else s 22 a_this : Int) → G X 0 0 87 [(5, a_this), (0, a_what)] [(0, v1)] (s, m) by
      have J2 : s 15 a_this = 2 → G X 0 0 76 [(5, a_this), (0, a_what)] [] (s, m) := by
        intro h8
        refine g_aload_nq h 76 dX2_number_76 rfl rfl ?_
        refine gf_Page_dirty h 77 dX2_number_77 kw_298 (by omega) ?_
        refine g_goto h 80 87 dX2_number_80 (by decide) ?_
        exact J1 _ (if_pos h8).symm
      have J3 : ¬ (s 15 a_this = 2) → G X 0 0 83 [(5, a_this), (0, a_what)] [] (s, m) := by
        intro h9
        refine g_aload_nq h 83 dX2_number_83 rfl rfl ?_
        refine gf_Page_merged h 84 dX2_number_84 kw_296 (by omega) ?_
        exact J1 _ (if_neg h9).symm
      refine g_aload_nq h 68 dX2_number_68 rfl rfl ?_
      refine gf_Page_kind h 69 dX2_number_69 kw_283 (by omega) ?_
      refine g_iconst h 72 dX2_number_72 ?_
      refine g_icmp_ne h 73 83 (gRi (by omega)) (gRi (by omega)) dX2_number_73 (by decide) (fun h7 => ?_) (fun h7 => ?_)
      · exact J3 h7
      · exact J2 h7
    intro v1 e1
    subst e1
    refine g_callSN (host := "Pagewright") h hE 87 dX2_number_87 (cpX7_asNumber (a_is := (if s 15 a_this = 2 then s 23 a_this else s 22 a_this : Int)) hl (by omega)) mwX7_asNumber (by decide) (Nat.le_of_ble_eq_true rfl) rfl (Nat.le_of_ble_eq_true rfl) ⟨Nat.le_of_ble_eq_true rfl, Nat.le_of_ble_eq_true rfl⟩ rfl rfl ?_
    show G X 0 0 90 [(5, a_this), (0, a_what)] [(0, (if (if s 15 a_this = 2 then s 23 a_this else s 22 a_this : Int) ≠ 0 then 1 else 0 : Int))] (s, m)
    obtain ⟨e1, e2⟩ := some_2 hF
    rw [← e1, ← e2] at hE
    exact g_iret h 90 dX2_number_90 hE rfl rfl ⟨(Nat.le_of_ble_eq_true rfl), (Nat.le_of_ble_eq_true rfl)⟩
  have hF := ite_f h6 hF
  refine g_tsOut h 1 dX2_number_1 91 (gRi (by omega)) (by omega) (by decide) ?_
  refine G_typ fun hT_s => ?_
  have t9 : 0 ≤ s 15 a_this ∧ s 15 a_this ≤ 2 := hT_s.1 15 a_this
  have t10 : 0 ≤ s 24 a_this ∧ s 24 a_this ≤ 2 := hT_s.1 24 a_this
  have t11 : 0 ≤ s 25 a_this ∧ s 25 a_this ≤ 7 := hT_s.1 25 a_this
  suffices J4 : ∀ v2 : Int, v2 = (if s 15 a_this = 2 then (10 * (s 24 a_this)) + (s 25 a_this) else (-1) : Int) → G X 0 0 115 [(5, a_this), (0, a_what)] [(0, v2)] (s, m) by
    have J5 : s 15 a_this = 2 → G X 0 0 99 [(5, a_this), (0, a_what)] [] (s, m) := by
      intro h11
      refine g_bipush h 99 dX2_number_99 (by decide) ?_
      refine g_aload_nq h 101 dX2_number_101 rfl rfl ?_
      refine gf_Page_file h 102 dX2_number_102 kw_300 (by omega) ?_
      refine g_imul h 105 dX2_number_105 ?_
      refine g_aload_nq h 106 dX2_number_106 rfl rfl ?_
      refine gf_Page_index h 107 dX2_number_107 kw_302 (by omega) ?_
      refine g_iadd h 110 dX2_number_110 ?_
      refine g_goto h 111 115 dX2_number_111 (by decide) ?_
      exact J4 _ (if_pos h11).symm
    have J6 : ¬ (s 15 a_this = 2) → G X 0 0 114 [(5, a_this), (0, a_what)] [] (s, m) := by
      intro h12
      refine g_iconst h 114 dX2_number_114 ?_
      exact J4 _ (if_neg h12).symm
    refine g_aload_nq h 91 dX2_number_91 rfl rfl ?_
    refine gf_Page_kind h 92 dX2_number_92 kw_283 (by omega) ?_
    refine g_iconst h 95 dX2_number_95 ?_
    refine g_icmp_ne h 96 114 (gRi (by omega)) (gRi (by omega)) dX2_number_96 (by decide) (fun h10 => ?_) (fun h10 => ?_)
    · exact J6 h10
    · exact J5 h10
  intro v2 e2
  subst e2
  obtain ⟨e1, e2⟩ := some_2 hF
  rw [← e1, ← e2] at hE
  exact g_iret h 115 dX2_number_115 hE rfl rfl ⟨(Nat.le_of_ble_eq_true rfl), (Nat.le_of_ble_eq_true rfl)⟩
-- Pagewright$Records.keep
def FX4_keep (a_value : Int) (s : S2) : Option (Int × S2) :=
  rgd (-1) 17 <| gd (0 ≤ a_value ∧ a_value ≤ 99999) <| bn (fun (x_turn1 : Int) (s1 : S2) => bn (fun (v3 : Int) (s8 : S2) => cb (FX4_unused s8) fun r4 s10 => if (r4 < 0) ∨ (v3 = (-1)) then some ((-1), s10) else bn (fun (s11 : S2) => bn (upd2 s11 32 0 ((s11 32 0) + 1)) fun s15 => bn (upd2 s15 29 r4 (s15 32 0)) fun s16 => bn (upd2 s16 26 r4 a_value) fun s17 => gd (0 ≤ (if a_value < 100 then 1 else 2 : Int) ∧ (if a_value < 100 then 1 else 2 : Int) ≤ 2) <| bn (upd2 s17 27 r4 (if a_value < 100 then 1 else 2 : Int)) fun s18 => gd (0 ≤ v3 ∧ v3 ≤ 10) <| bn (upd2 s18 28 r4 v3) fun s19 => some (r4, s19)) fun k4 => if v3 = 10 then gd (0 ≤ (s10 31 0) + (if a_value < 100 then 1 else 2 : Int) ∧ (s10 31 0) + (if a_value < 100 then 1 else 2 : Int) ≤ 8) <| bn (upd2 s10 31 0 ((s10 31 0) + (if a_value < 100 then 1 else 2 : Int))) fun s12 => k4 s12 else bn (fun (s13 : S2) => k4 s13) fun k5 => if (0 ≤ v3) ∧ (v3 < 10) then bn (upd2 s10 49 v3 1) fun s14 => k5 s14 else k5 s10) fun k3 => gd ((¬ (10000 ≤ a_value)) → (-2147483648) ≤ (s1 31 0) + (if a_value < 100 then 1 else 2 : Int) ∧ (s1 31 0) + (if a_value < 100 then 1 else 2 : Int) ≤ 2147483647) <| if (¬ (10000 ≤ a_value)) ∧ ((s1 31 0) + (if a_value < 100 then 1 else 2 : Int) ≤ 8) then k3 10 s1 else cb (FX4_freePlace s1) fun r3 s9 => k3 r3 s9) fun k1 => gl1 1000 (fun k2 (x_turn2 : Int) (s2 : S2) => gd ((¬ (10000 ≤ a_value)) → (-2147483648) ≤ (s2 31 0) + (if a_value < 100 then 1 else 2 : Int) ∧ (s2 31 0) + (if a_value < 100 then 1 else 2 : Int) ≤ 2147483647) <| if ((¬ (10000 ≤ a_value)) ∧ (8 < (s2 31 0) + (if a_value < 100 then 1 else 2 : Int))) ∧ (x_turn2 < 18) then cb (FX4_oldestStored s2) fun r1 s3 => cb (FX4_freePlace s3) fun r2 s4 => if ((r1 < 0) ∨ (r2 < 0)) ∨ (10 ≤ r2) then k1 x_turn2 s4 else bn (upd2 s4 49 r2 1) fun s5 => bn (upd2 s5 28 r1 r2) fun s6 => gd (0 ≤ (s6 31 0) - (s6 27 r1) ∧ (s6 31 0) - (s6 27 r1) ≤ 8) <| bn (upd2 s6 31 0 ((s6 31 0) - (s6 27 r1))) fun s7 => k2 (x_turn2 + 1) s7 else k1 x_turn2 s2) 0 s
theorem rgX4_keep {a_value : Int} {s s0 : S2} {r0 : Int} (hF : FX4_keep a_value s = some (r0, s0)) : (-1) ≤ r0 ∧ r0 ≤ 17 := (rgd_some hF).2
set_option maxRecDepth 100000 in
set_option maxHeartbeats 4000000 in
theorem ctX4_keep {l : Launch} {w : gW} {bs : Nat} (hl : l.stackTraces = false) {a_value : Int} {s m s0 : S2} {r0 : Int} (hF : FX4_keep a_value s = some (r0, s0)) : gMet l w bs yX4_keep cX4_keep 7 (some (FieldType.object "Pagewright$Record")) 1 0 [(7, 0), (0, a_value)] (s, m) 0 (some (6, r0)) (s0, m) := by
  unfold FX4_keep at hF
  obtain ⟨hF, hr⟩ := rgd_some hF
  obtain ⟨q_a_value, hF⟩ := gd_some hF
  refine g_start hl (by decide) (Nat.le_of_ble_eq_true rfl) rfl fun X h hE => ?_
  have h : gOk X "Pagewright$Records" cX4_keep 7 1 0 0 := h
  have hE : gEnd X l w bs 0 (some (FieldType.object "Pagewright$Record")) 0 (some (6, r0)) (s0, m) := hE
  show G X 0 0 0 [(7, 0), (0, a_value), (1, 0), (1, 0), (1, 0), (1, 0), (1, 0)] [] (s, m)
  suffices J1 : ∀ v1 : Int, v1 = (if 10000 ≤ a_value then 1 else 0 : Int) → G X 0 0 12 [(7, 0), (0, a_value), (1, 0), (1, 0), (1, 0), (1, 0), (1, 0)] [(0, v1)] (s, m) by
    have J2 : 10000 ≤ a_value → G X 0 0 7 [(7, 0), (0, a_value), (1, 0), (1, 0), (1, 0), (1, 0), (1, 0)] [] (s, m) := by
      intro h2
      refine g_iconst h 7 dX4_keep_7 ?_
      refine g_goto h 8 12 dX4_keep_8 (by decide) ?_
      exact J1 _ (if_pos h2).symm
    have J3 : ¬ (10000 ≤ a_value) → G X 0 0 11 [(7, 0), (0, a_value), (1, 0), (1, 0), (1, 0), (1, 0), (1, 0)] [] (s, m) := by
      intro h3
      refine g_iconst h 11 dX4_keep_11 ?_
      exact J1 _ (if_neg h3).symm
    refine g_iload_n h 0 dX4_keep_0 rfl ?_
    refine g_sipush h 1 dX4_keep_1 (by decide) ?_
    refine g_icmp_lt h 4 11 (gRi (by omega)) (gRi (by omega)) dX4_keep_4 (by decide) (fun h1 => ?_) (fun h1 => ?_)
    · exact J3 (Int.not_le.mpr h1)
    · exact J2 h1
  intro v1 e1
  subst e1
  refine g_istore_n h 12 dX4_keep_12 (Nat.le_of_ble_eq_true rfl) rfl (L' := [(7, 0), (0, a_value), (0, (if 10000 ≤ a_value then 1 else 0 : Int)), (1, 0), (1, 0), (1, 0), (1, 0)]) rfl ?_
  suffices J4 : ∀ v2 : Int, v2 = (if a_value < 100 then 1 else 2 : Int) → G X 0 0 24 [(7, 0), (0, a_value), (0, (if 10000 ≤ a_value then 1 else 0 : Int)), (1, 0), (1, 0), (1, 0), (1, 0)] [(0, v2)] (s, m) by
    have J5 : a_value < 100 → G X 0 0 19 [(7, 0), (0, a_value), (0, (if 10000 ≤ a_value then 1 else 0 : Int)), (1, 0), (1, 0), (1, 0), (1, 0)] [] (s, m) := by
      intro h5
      refine g_iconst h 19 dX4_keep_19 ?_
      refine g_goto h 20 24 dX4_keep_20 (by decide) ?_
      exact J4 _ (if_pos h5).symm
    have J6 : ¬ (a_value < 100) → G X 0 0 23 [(7, 0), (0, a_value), (0, (if 10000 ≤ a_value then 1 else 0 : Int)), (1, 0), (1, 0), (1, 0), (1, 0)] [] (s, m) := by
      intro h6
      refine g_iconst h 23 dX4_keep_23 ?_
      exact J4 _ (if_neg h6).symm
    refine g_iload_n h 13 dX4_keep_13 rfl ?_
    refine g_bipush h 14 dX4_keep_14 (by decide) ?_
    refine g_icmp_ge h 16 23 (gRi (by omega)) (gRi (by omega)) dX4_keep_16 (by decide) (fun h4 => ?_) (fun h4 => ?_)
    · exact J6 (Int.not_lt.mpr h4)
    · exact J5 h4
  intro v2 e2
  subst e2
  refine g_istore_n h 24 dX4_keep_24 (Nat.le_of_ble_eq_true rfl) rfl (L' := [(7, 0), (0, a_value), (0, (if 10000 ≤ a_value then 1 else 0 : Int)), (0, (if a_value < 100 then 1 else 2 : Int)), (1, 0), (1, 0), (1, 0)]) rfl ?_
  refine g_iconst h 25 dX4_keep_25 ?_
  refine g_istore h 26 dX4_keep_26 (Nat.le_of_ble_eq_true rfl) rfl (L' := [(7, 0), (0, a_value), (0, (if 10000 ≤ a_value then 1 else 0 : Int)), (0, (if a_value < 100 then 1 else 2 : Int)), (0, 0), (1, 0), (1, 0)]) rfl ?_
  obtain ⟨k1, ek1, hF⟩ := bn_ex hF
  have J7 : ∀ (x_turn1 : Int) (s1 : S2), ((-2147483648) ≤ x_turn1 ∧ x_turn1 ≤ 2147483647) → k1 x_turn1 s1 = some (r0, s0) → G X 0 0 117 [(7, 0), (0, a_value), (0, (if 10000 ≤ a_value then 1 else 0 : Int)), (0, (if a_value < 100 then 1 else 2 : Int)), (0, x_turn1), (1, 0), (1, 0)] [] (s1, m) := by
    intro x_turn1 s1 q4 hF
    rw [ek1] at hF
    obtain ⟨k3, ek3, hF⟩ := bn_ex hF
    have J14 : ∀ (v3 : Int) (s8 : S2), ((-2147483648) ≤ v3 ∧ v3 ≤ 2147483647) → k3 v3 s8 = some (r0, s0) → G X 0 0 141 [(7, 0), (0, a_value), (0, (if 10000 ≤ a_value then 1 else 0 : Int)), (0, (if a_value < 100 then 1 else 2 : Int)), (1, 0), (1, 0), (1, 0)] [(0, v3)] (s8, m) := by
      intro v3 s8 q6 hF
      rw [ek3] at hF
      refine g_istore h 141 dX4_keep_141 (Nat.le_of_ble_eq_true rfl) rfl (L' := [(7, 0), (0, a_value), (0, (if 10000 ≤ a_value then 1 else 0 : Int)), (0, (if a_value < 100 then 1 else 2 : Int)), (0, v3), (1, 0), (1, 0)]) rfl ?_
      refine g_aload_nq h 143 dX4_keep_143 rfl rfl ?_
      obtain ⟨r4, s10, c4, hF⟩ := cb_some hF
      have t8 : (-1) ≤ r4 ∧ r4 ≤ 17 := rgX4_unused c4
      refine g_callV h hE 144 dX4_keep_144 (ctX4_unused hl c4) mwX4_unused kw_757 (by decide) (by decide) rfl (Nat.le_of_ble_eq_true rfl) rfl (Nat.le_of_ble_eq_true rfl) ⟨Nat.le_of_ble_eq_true rfl, Nat.le_of_ble_eq_true rfl⟩ rfl rfl ?_
      show G X 0 0 147 [(7, 0), (0, a_value), (0, (if 10000 ≤ a_value then 1 else 0 : Int)), (0, (if a_value < 100 then 1 else 2 : Int)), (0, v3), (1, 0), (1, 0)] [(6, r4)] (s10, m)
      refine g_astore h 147 dX4_keep_147 (Nat.le_of_ble_eq_true rfl) rfl (L' := [(7, 0), (0, a_value), (0, (if 10000 ≤ a_value then 1 else 0 : Int)), (0, (if a_value < 100 then 1 else 2 : Int)), (0, v3), (6, r4), (1, 0)]) rfl ?_
      have J17 : (r4 < 0) ∨ (v3 = (-1)) → G X 0 0 160 [(7, 0), (0, a_value), (0, (if 10000 ≤ a_value then 1 else 0 : Int)), (0, (if a_value < 100 then 1 else 2 : Int)), (0, v3), (6, r4), (1, 0)] [] (s10, m) := by
        intro h23
        have hF := ite_t h23 hF
        refine g_nullq h 160 6 rfl dX4_keep_160 ?_
        obtain ⟨e1, e2⟩ := some_2 hF
        rw [← e1, ← e2] at hE
        exact g_aret h 161 dX4_keep_161 hE rfl ⟨(Nat.le_of_ble_eq_true rfl), (Nat.le_of_ble_eq_true rfl)⟩
      have J18 : ¬ ((r4 < 0) ∨ (v3 = (-1))) → G X 0 0 162 [(7, 0), (0, a_value), (0, (if 10000 ≤ a_value then 1 else 0 : Int)), (0, (if a_value < 100 then 1 else 2 : Int)), (0, v3), (6, r4), (1, 0)] [] (s10, m) := by
        intro h24
        have hF := ite_f h24 hF
        obtain ⟨k4, ek4, hF⟩ := bn_ex hF
        have J19 : ∀ (s11 : S2), k4 s11 = some (r0, s0) → G X 0 0 202 [(7, 0), (0, a_value), (0, (if 10000 ≤ a_value then 1 else 0 : Int)), (0, (if a_value < 100 then 1 else 2 : Int)), (0, v3), (6, r4), (1, 0)] [] (s11, m) := by
          intro s11 hF
          rw [ek4] at hF
          refine g_aload_nq h 202 dX4_keep_202 rfl rfl ?_
          refine g_dup h 203 dX4_keep_203 (show (7 : Nat) ≠ 2 by decide) ?_
          refine gf_Records_lastTurn h 204 dX4_keep_204 kw_168 ?_
          refine g_iconst h 207 dX4_keep_207 ?_
          refine g_iadd h 208 dX4_keep_208 ?_
          obtain ⟨s15, es15, hF⟩ := bn_ex hF
          refine pf_Records_lastTurn h 209 dX4_keep_209 kw_168 ?_
          rw [← es15]
          refine g_aloadq h 212 dX4_keep_212 rfl rfl ?_
          refine g_aload_nq h 214 dX4_keep_214 rfl rfl ?_
          refine gf_Records_lastTurn h 215 dX4_keep_215 kw_168 ?_
          obtain ⟨s16, es16, hF⟩ := bn_ex hF
          refine pf_Record_turn h 218 dX4_keep_218 kw_149 (by omega) ?_
          rw [← es16]
          refine g_aloadq h 221 dX4_keep_221 rfl rfl ?_
          refine g_iload_n h 223 dX4_keep_223 rfl ?_
          obtain ⟨s17, es17, hF⟩ := bn_ex hF
          refine pf_Record_value h 224 dX4_keep_224 kw_144 (by omega) (by omega) ?_
          rw [← es17]
          refine g_aloadq h 227 dX4_keep_227 rfl rfl ?_
          refine g_iload_n h 229 dX4_keep_229 rfl ?_
          obtain ⟨q8, hF⟩ := gd_some hF
          obtain ⟨s18, es18, hF⟩ := bn_ex hF
          refine pf_Record_size h 230 dX4_keep_230 kw_146 (by omega) (by omega) ?_
          rw [← es18]
          refine g_aloadq h 233 dX4_keep_233 rfl rfl ?_
          refine g_iload h 235 dX4_keep_235 rfl ?_
          obtain ⟨q9, hF⟩ := gd_some hF
          obtain ⟨s19, es19, hF⟩ := bn_ex hF
          refine pf_Record_place h 237 dX4_keep_237 kw_147 (by omega) (by omega) ?_
          rw [← es19]
          refine g_aloadq h 240 dX4_keep_240 rfl rfl ?_
          obtain ⟨e1, e2⟩ := some_2 hF
          rw [← e1, ← e2] at hE
          exact g_aret h 242 dX4_keep_242 hE rfl ⟨(Nat.le_of_ble_eq_true rfl), (Nat.le_of_ble_eq_true rfl)⟩
        have J20 : v3 = 10 → G X 0 0 169 [(7, 0), (0, a_value), (0, (if 10000 ≤ a_value then 1 else 0 : Int)), (0, (if a_value < 100 then 1 else 2 : Int)), (0, v3), (6, r4), (1, 0)] [] (s10, m) := by
          intro h26
          have hF := ite_t h26 hF
          refine g_aload_nq h 169 dX4_keep_169 rfl rfl ?_
          refine G_typ fun hT_s10 => ?_
          have t9 : 0 ≤ s10 31 0 ∧ s10 31 0 ≤ 8 := hT_s10.1 31 0
          refine g_dup h 170 dX4_keep_170 (show (7 : Nat) ≠ 2 by decide) ?_
          refine gf_Records_used h 171 dX4_keep_171 kw_166 ?_
          refine g_iload_n h 174 dX4_keep_174 rfl ?_
          refine g_iadd h 175 dX4_keep_175 ?_
          obtain ⟨q7, hF⟩ := gd_some hF
          obtain ⟨s12, es12, hF⟩ := bn_ex hF
          refine pf_Records_used h 176 dX4_keep_176 kw_166 (by omega) ?_
          rw [← es12]
          refine g_goto h 179 202 dX4_keep_179 (by decide) ?_
          exact J19 _ hF
        have J21 : ¬ (v3 = 10) → G X 0 0 182 [(7, 0), (0, a_value), (0, (if 10000 ≤ a_value then 1 else 0 : Int)), (0, (if a_value < 100 then 1 else 2 : Int)), (0, v3), (6, r4), (1, 0)] [] (s10, m) := by
          intro h27
          have hF := ite_f h27 hF
          obtain ⟨k5, ek5, hF⟩ := bn_ex hF
          have J22 : ∀ (s13 : S2), k5 s13 = some (r0, s0) → G X 0 0 202 [(7, 0), (0, a_value), (0, (if 10000 ≤ a_value then 1 else 0 : Int)), (0, (if a_value < 100 then 1 else 2 : Int)), (0, v3), (6, r4), (1, 0)] [] (s13, m) := by
            intro s13 hF
            rw [ek5] at hF
            exact J19 _ hF
          have J23 : (0 ≤ v3) ∧ (v3 < 10) → G X 0 0 194 [(7, 0), (0, a_value), (0, (if 10000 ≤ a_value then 1 else 0 : Int)), (0, (if a_value < 100 then 1 else 2 : Int)), (0, v3), (6, r4), (1, 0)] [] (s10, m) := by
            intro h30
            have hF := ite_t h30 hF
            refine g_aload_nq h 194 dX4_keep_194 rfl rfl ?_
            refine gf_Records_taken h 195 dX4_keep_195 kw_165 ?_
            refine g_iload h 198 dX4_keep_198 rfl ?_
            refine g_iconst h 200 dX4_keep_200 ?_
            obtain ⟨s14, es14, hF⟩ := bn_ex hF
            refine as_Records_taken h 201 dX4_keep_201 (by omega) (by omega) ?_
            rw [← es14]
            exact J22 _ hF
          have J24 : ¬ ((0 ≤ v3) ∧ (v3 < 10)) → G X 0 0 202 [(7, 0), (0, a_value), (0, (if 10000 ≤ a_value then 1 else 0 : Int)), (0, (if a_value < 100 then 1 else 2 : Int)), (0, v3), (6, r4), (1, 0)] [] (s10, m) := by
            intro h31
            have hF := ite_f h31 hF
            exact J22 _ hF
          refine g_iload h 182 dX4_keep_182 rfl ?_
          refine g_if_lt h 184 202 (gRi (by omega)) dX4_keep_184 (by decide) (fun h28 => ?_) (fun h28 => ?_)
          · exact J24 (fun q => (Int.not_le.mpr h28) q.1)
          · refine g_iload h 187 dX4_keep_187 rfl ?_
            refine g_bipush h 189 dX4_keep_189 (by decide) ?_
            refine g_icmp_ge h 191 202 (gRi (by omega)) (gRi (by omega)) dX4_keep_191 (by decide) (fun h29 => ?_) (fun h29 => ?_)
            · exact J24 (fun q => (Int.not_lt.mpr h29) q.2)
            · exact J23 ⟨h28, h29⟩
        refine g_iload h 162 dX4_keep_162 rfl ?_
        refine g_bipush h 164 dX4_keep_164 (by decide) ?_
        refine g_icmp_ne h 166 182 (gRi (by omega)) (gRi (by omega)) dX4_keep_166 (by decide) (fun h25 => ?_) (fun h25 => ?_)
        · exact J21 h25
        · exact J20 h25
      refine g_aloadq h 149 dX4_keep_149 rfl rfl ?_
      refine g_ifnull h 151 160 dX4_keep_151 (by decide) (fun h21 => ?_) (fun h21 => ?_)
      · exact J17 (Or.inl h21)
      · refine g_iload h 154 dX4_keep_154 rfl ?_
        refine g_iconst h 156 dX4_keep_156 ?_
        refine g_icmp_ne h 157 162 (gRi (by omega)) (gRi (by omega)) dX4_keep_157 (by decide) (fun h22 => ?_) (fun h22 => ?_)
        · exact J18 (fun q => q.elim (Int.not_lt.mpr h21) h22)
        · exact J17 (Or.inr h22)
    refine G_typ fun hT_s1 => ?_
    have t6 : 0 ≤ s1 31 0 ∧ s1 31 0 ≤ 8 := hT_s1.1 31 0
    obtain ⟨q5, hF⟩ := gd_some hF
    have J15 : (¬ (10000 ≤ a_value)) ∧ ((s1 31 0) + (if a_value < 100 then 1 else 2 : Int) ≤ 8) → G X 0 0 132 [(7, 0), (0, a_value), (0, (if 10000 ≤ a_value then 1 else 0 : Int)), (0, (if a_value < 100 then 1 else 2 : Int)), (0, x_turn1), (1, 0), (1, 0)] [] (s1, m) := by
      intro h19
      have hF := ite_t h19 hF
      refine g_bipush h 132 dX4_keep_132 (by decide) ?_
      refine g_goto h 134 141 dX4_keep_134 (by decide) ?_
      refine G_weak (L' := [(7, 0), (0, a_value), (0, (if 10000 ≤ a_value then 1 else 0 : Int)), (0, (if a_value < 100 then 1 else 2 : Int)), (1, 0), (1, 0), (1, 0)]) ⟨Or.inr rfl, Or.inr rfl, Or.inr rfl, Or.inr rfl, Or.inl rfl, Or.inr rfl, Or.inr rfl, trivial⟩ ?_
      exact J14 _ _ (by omega) hF
    have J16 : ¬ ((¬ (10000 ≤ a_value)) ∧ ((s1 31 0) + (if a_value < 100 then 1 else 2 : Int) ≤ 8)) → G X 0 0 137 [(7, 0), (0, a_value), (0, (if 10000 ≤ a_value then 1 else 0 : Int)), (0, (if a_value < 100 then 1 else 2 : Int)), (0, x_turn1), (1, 0), (1, 0)] [] (s1, m) := by
      intro h20
      have hF := ite_f h20 hF
      refine g_aload_nq h 137 dX4_keep_137 rfl rfl ?_
      obtain ⟨r3, s9, c3, hF⟩ := cb_some hF
      have t7 : (-1) ≤ r3 ∧ r3 ≤ 9 := rgX4_freePlace c3
      refine g_callV h hE 138 dX4_keep_138 (ctX4_freePlace hl c3) mwX4_freePlace kw_753 (by decide) (by decide) rfl (Nat.le_of_ble_eq_true rfl) rfl (Nat.le_of_ble_eq_true rfl) ⟨Nat.le_of_ble_eq_true rfl, Nat.le_of_ble_eq_true rfl⟩ rfl rfl ?_
      show G X 0 0 141 [(7, 0), (0, a_value), (0, (if 10000 ≤ a_value then 1 else 0 : Int)), (0, (if a_value < 100 then 1 else 2 : Int)), (0, x_turn1), (1, 0), (1, 0)] [(0, r3)] (s9, m)
      refine G_weak (L' := [(7, 0), (0, a_value), (0, (if 10000 ≤ a_value then 1 else 0 : Int)), (0, (if a_value < 100 then 1 else 2 : Int)), (1, 0), (1, 0), (1, 0)]) ⟨Or.inr rfl, Or.inr rfl, Or.inr rfl, Or.inr rfl, Or.inl rfl, Or.inr rfl, Or.inr rfl, trivial⟩ ?_
      exact J14 _ _ (by omega) hF
    refine g_iload_n h 117 dX4_keep_117 rfl ?_
    refine g_if_ne h 118 137 (gRi gR_ite) dX4_keep_118 (by decide) (fun h17 => ?_) (fun h17 => ?_)
    · exact J16 (fun q => (fun q => q (iz_t h17)) q.1)
    · refine g_aload_nq h 121 dX4_keep_121 rfl rfl ?_
      refine gf_Records_used h 122 dX4_keep_122 kw_166 ?_
      refine g_iload_n h 125 dX4_keep_125 rfl ?_
      refine g_iadd h 126 dX4_keep_126 ?_
      refine g_bipush h 127 dX4_keep_127 (by decide) ?_
      refine g_icmp_gt h 129 137 (gRi (by omega)) (gRi (by omega)) dX4_keep_129 (by decide) (fun h18 => ?_) (fun h18 => ?_)
      · exact J16 (fun q => (Int.not_le.mpr h18) q.2)
      · exact J15 ⟨(iz_f h17), h18⟩
  obtain ⟨f1, ef1, hF⟩ := glx1 hF
  have J13 : ∀ (n1 : Nat) (x_turn2 : Int) (s2 : S2), (0 ≤ x_turn2 ∧ x_turn2 ≤ 18) → gl1 n1 f1 x_turn2 s2 = some (r0, s0) → G X 0 0 28 [(7, 0), (0, a_value), (0, (if 10000 ≤ a_value then 1 else 0 : Int)), (0, (if a_value < 100 then 1 else 2 : Int)), (0, x_turn2), (1, 0), (1, 0)] [] (s2, m) := by
    intro n1
    induction n1 with
    | zero => intro x_turn2 s2 _ hF; exact (gl1_0 hF).elim
    | succ n1 ih1 =>
      intro x_turn2 s2 q1 hF
      obtain ⟨k2, ek2, hF⟩ := glu1 hF ef1
      refine G_typ fun hT_s2 => ?_
      have t1 : 0 ≤ s2 31 0 ∧ s2 31 0 ≤ 8 := hT_s2.1 31 0
      obtain ⟨q2, hF⟩ := gd_some hF
      have J9 : ((¬ (10000 ≤ a_value)) ∧ (8 < (s2 31 0) + (if a_value < 100 then 1 else 2 : Int))) ∧ (x_turn2 < 18) → G X 0 0 50 [(7, 0), (0, a_value), (0, (if 10000 ≤ a_value then 1 else 0 : Int)), (0, (if a_value < 100 then 1 else 2 : Int)), (0, x_turn2), (1, 0), (1, 0)] [] (s2, m) := by
        intro h10
        have hF := ite_t h10 hF
        refine g_aload_nq h 50 dX4_keep_50 rfl rfl ?_
        obtain ⟨r1, s3, c1, hF⟩ := cb_some hF
        have t2 : (-1) ≤ r1 ∧ r1 ≤ 17 := rgX4_oldestStored c1
        refine g_callV h hE 51 dX4_keep_51 (ctX4_oldestStored hl c1) mwX4_oldestStored kw_749 (by decide) (by decide) rfl (Nat.le_of_ble_eq_true rfl) rfl (Nat.le_of_ble_eq_true rfl) ⟨Nat.le_of_ble_eq_true rfl, Nat.le_of_ble_eq_true rfl⟩ rfl rfl ?_
        show G X 0 0 54 [(7, 0), (0, a_value), (0, (if 10000 ≤ a_value then 1 else 0 : Int)), (0, (if a_value < 100 then 1 else 2 : Int)), (0, x_turn2), (1, 0), (1, 0)] [(6, r1)] (s3, m)
        refine g_astore h 54 dX4_keep_54 (Nat.le_of_ble_eq_true rfl) rfl (L' := [(7, 0), (0, a_value), (0, (if 10000 ≤ a_value then 1 else 0 : Int)), (0, (if a_value < 100 then 1 else 2 : Int)), (0, x_turn2), (6, r1), (1, 0)]) rfl ?_
        refine g_aload_nq h 56 dX4_keep_56 rfl rfl ?_
        obtain ⟨r2, s4, c2, hF⟩ := cb_some hF
        have t3 : (-1) ≤ r2 ∧ r2 ≤ 9 := rgX4_freePlace c2
        refine g_callV h hE 57 dX4_keep_57 (ctX4_freePlace hl c2) mwX4_freePlace kw_753 (by decide) (by decide) rfl (Nat.le_of_ble_eq_true rfl) rfl (Nat.le_of_ble_eq_true rfl) ⟨Nat.le_of_ble_eq_true rfl, Nat.le_of_ble_eq_true rfl⟩ rfl rfl ?_
        show G X 0 0 60 [(7, 0), (0, a_value), (0, (if 10000 ≤ a_value then 1 else 0 : Int)), (0, (if a_value < 100 then 1 else 2 : Int)), (0, x_turn2), (6, r1), (1, 0)] [(0, r2)] (s4, m)
        refine g_istore h 60 dX4_keep_60 (Nat.le_of_ble_eq_true rfl) rfl (L' := [(7, 0), (0, a_value), (0, (if 10000 ≤ a_value then 1 else 0 : Int)), (0, (if a_value < 100 then 1 else 2 : Int)), (0, x_turn2), (6, r1), (0, r2)]) rfl ?_
        have J11 : ((r1 < 0) ∨ (r2 < 0)) ∨ (10 ≤ r2) → G X 0 0 117 [(7, 0), (0, a_value), (0, (if 10000 ≤ a_value then 1 else 0 : Int)), (0, (if a_value < 100 then 1 else 2 : Int)), (0, x_turn2), (6, r1), (0, r2)] [] (s4, m) := by
          intro h14
          have hF := ite_t h14 hF
          refine G_weak (L' := [(7, 0), (0, a_value), (0, (if 10000 ≤ a_value then 1 else 0 : Int)), (0, (if a_value < 100 then 1 else 2 : Int)), (0, x_turn2), (1, 0), (1, 0)]) ⟨Or.inr rfl, Or.inr rfl, Or.inr rfl, Or.inr rfl, Or.inr rfl, Or.inl rfl, Or.inl rfl, trivial⟩ ?_
          exact J7 _ _ (by omega) hF
        have J12 : ¬ (((r1 < 0) ∨ (r2 < 0)) ∨ (10 ≤ r2)) → G X 0 0 82 [(7, 0), (0, a_value), (0, (if 10000 ≤ a_value then 1 else 0 : Int)), (0, (if a_value < 100 then 1 else 2 : Int)), (0, x_turn2), (6, r1), (0, r2)] [] (s4, m) := by
          intro h15
          have hF := ite_f h15 hF
          refine g_aload_nq h 82 dX4_keep_82 rfl rfl ?_
          refine gf_Records_taken h 83 dX4_keep_83 kw_165 ?_
          refine g_iload h 86 dX4_keep_86 rfl ?_
          refine g_iconst h 88 dX4_keep_88 ?_
          obtain ⟨s5, es5, hF⟩ := bn_ex hF
          refine as_Records_taken h 89 dX4_keep_89 (by omega) (by omega) ?_
          rw [← es5]
          refine g_aloadq h 90 dX4_keep_90 rfl rfl ?_
          refine g_iload h 92 dX4_keep_92 rfl ?_
          obtain ⟨s6, es6, hF⟩ := bn_ex hF
          refine pf_Record_place h 94 dX4_keep_94 kw_147 (by omega) (by omega) ?_
          rw [← es6]
          refine g_aload_nq h 97 dX4_keep_97 rfl rfl ?_
          refine G_typ fun hT_s6 => ?_
          have t4 : 0 ≤ s6 31 0 ∧ s6 31 0 ≤ 8 := hT_s6.1 31 0
          refine g_dup h 98 dX4_keep_98 (show (7 : Nat) ≠ 2 by decide) ?_
          refine gf_Records_used h 99 dX4_keep_99 kw_166 ?_
          have t5 : 0 ≤ s6 27 r1 ∧ s6 27 r1 ≤ 2 := hT_s6.1 27 r1
          refine g_aloadq h 102 dX4_keep_102 rfl rfl ?_
          refine gf_Record_size h 104 dX4_keep_104 kw_146 (by omega) ?_
          refine g_isub h 107 dX4_keep_107 ?_
          obtain ⟨q3, hF⟩ := gd_some hF
          obtain ⟨s7, es7, hF⟩ := bn_ex hF
          refine pf_Records_used h 108 dX4_keep_108 kw_166 (by omega) ?_
          rw [← es7]
          refine g_iinc h 111 dX4_keep_111 rfl rfl (L' := [(7, 0), (0, a_value), (0, (if 10000 ≤ a_value then 1 else 0 : Int)), (0, (if a_value < 100 then 1 else 2 : Int)), (0, x_turn2 + 1), (6, r1), (0, r2)]) rfl ?_
          refine g_goto h 114 28 dX4_keep_114 (by decide) ?_
          refine G_weak (L' := [(7, 0), (0, a_value), (0, (if 10000 ≤ a_value then 1 else 0 : Int)), (0, (if a_value < 100 then 1 else 2 : Int)), (0, x_turn2 + 1), (1, 0), (1, 0)]) ⟨Or.inr rfl, Or.inr rfl, Or.inr rfl, Or.inr rfl, Or.inr rfl, Or.inl rfl, Or.inl rfl, trivial⟩ ?_
          rw [ek2] at hF
          exact ih1 _ _ (by omega) hF
        refine g_aloadq h 62 dX4_keep_62 rfl rfl ?_
        refine g_ifnull h 64 117 dX4_keep_64 (by decide) (fun h11 => ?_) (fun h11 => ?_)
        · exact J11 (Or.inl (Or.inl h11))
        · refine g_iload h 67 dX4_keep_67 rfl ?_
          refine g_if_lt h 69 117 (gRi (by omega)) dX4_keep_69 (by decide) (fun h12 => ?_) (fun h12 => ?_)
          · exact J11 (Or.inl (Or.inr h12))
          · refine g_iload h 72 dX4_keep_72 rfl ?_
            refine g_bipush h 74 dX4_keep_74 (by decide) ?_
            refine g_icmp_lt h 76 82 (gRi (by omega)) (gRi (by omega)) dX4_keep_76 (by decide) (fun h13 => ?_) (fun h13 => ?_)
            · exact J12 (fun q => q.elim (fun q => q.elim (Int.not_lt.mpr h11) (Int.not_lt.mpr h12)) (Int.not_le.mpr h13))
            · refine g_goto h 79 117 dX4_keep_79 (by decide) ?_
              exact J11 (Or.inr h13)
      have J10 : ¬ (((¬ (10000 ≤ a_value)) ∧ (8 < (s2 31 0) + (if a_value < 100 then 1 else 2 : Int))) ∧ (x_turn2 < 18)) → G X 0 0 117 [(7, 0), (0, a_value), (0, (if 10000 ≤ a_value then 1 else 0 : Int)), (0, (if a_value < 100 then 1 else 2 : Int)), (0, x_turn2), (1, 0), (1, 0)] [] (s2, m) := by
        intro h16
        have hF := ite_f h16 hF
        exact J7 _ _ (by omega) hF
      refine g_iload_n h 28 dX4_keep_28 rfl ?_
      refine g_if_ne h 29 117 (gRi gR_ite) dX4_keep_29 (by decide) (fun h7 => ?_) (fun h7 => ?_)
      · exact J10 (fun q => (fun q => (fun q => q (iz_t h7)) q.1) q.1)
      · refine g_aload_nq h 32 dX4_keep_32 rfl rfl ?_
        refine gf_Records_used h 33 dX4_keep_33 kw_166 ?_
        refine g_iload_n h 36 dX4_keep_36 rfl ?_
        refine g_iadd h 37 dX4_keep_37 ?_
        refine g_bipush h 38 dX4_keep_38 (by decide) ?_
        refine g_icmp_le h 40 117 (gRi (by omega)) (gRi (by omega)) dX4_keep_40 (by decide) (fun h8 => ?_) (fun h8 => ?_)
        · exact J10 (fun q => (fun q => (Int.not_lt.mpr h8) q.2) q.1)
        · refine g_iload h 43 dX4_keep_43 rfl ?_
          refine g_bipush h 45 dX4_keep_45 (by decide) ?_
          refine g_icmp_ge h 47 117 (gRi (by omega)) (gRi (by omega)) dX4_keep_47 (by decide) (fun h9 => ?_) (fun h9 => ?_)
          · exact J10 (fun q => (Int.not_lt.mpr h9) q.2)
          · exact J9 ⟨⟨(iz_f h7), h8⟩, h9⟩
  exact J13 _ _ _ (by omega) hF
-- Pagewright$Space.grow
def FX5_grow (a_this a_address : Int) (s : S2) : Option (Int × S2) :=
  rgd 0 1 <| gd (0 ≤ a_this ∧ a_this ≤ 5) <| gd (0 ≤ a_address ∧ a_address ≤ 31) <| if (a_address < 0) ∨ (32 ≤ a_address + 1) then some (0, s) else gd ((0 < a_address) → 0 ≤ a_address - 1 ∧ a_address - 1 ≤ 31) <| gd (0 ≤ 32 * a_this + (a_address + 1) ∧ 32 * a_this + (a_address + 1) ≤ 191) <| if (((¬ (s 2 (32 * a_this + (a_address + 1)) ≠ 0)) ∨ (¬ (s 7 (32 * a_this + (a_address + 1)) ≠ 0))) ∨ ((0 < a_address) ∧ (s 2 (32 * a_this + (a_address - 1)) ≠ 0))) ∨ ((s 4 (32 * a_this + (a_address + 1)) ≠ (-1)) ∧ (s 5 (32 * a_this + (a_address + 1)) = 0)) then some (0, s) else cb (FX1_establish (32 * a_this + a_address) (s 3 (32 * a_this + (a_address + 1))) (s 4 (32 * a_this + (a_address + 1))) ((s 5 (32 * a_this + (a_address + 1))) - 1) (s 6 (32 * a_this + (a_address + 1))) 1 s) fun r1 s1 => some (1, s1)
theorem rgX5_grow {a_this a_address : Int} {s s0 : S2} {r0 : Int} (hF : FX5_grow a_this a_address s = some (r0, s0)) : 0 ≤ r0 ∧ r0 ≤ 1 := (rgd_some hF).2
set_option maxRecDepth 100000 in
set_option maxHeartbeats 4000000 in
theorem ctX5_grow {l : Launch} {w : gW} {bs : Nat} (hl : l.stackTraces = false) {a_this a_address : Int} {s m s0 : S2} {r0 : Int} (hF : FX5_grow a_this a_address s = some (r0, s0)) : gMet l w bs yX5_grow cX5_grow 4 (some FieldType.boolean) 1 0 [(8, a_this), (0, a_address)] (s, m) 0 (some (0, r0)) (s0, m) := by
  unfold FX5_grow at hF
  obtain ⟨hF, hr⟩ := rgd_some hF
  obtain ⟨q_a_this, hF⟩ := gd_some hF
  obtain ⟨q_a_address, hF⟩ := gd_some hF
  refine g_start hl (by decide) (Nat.le_of_ble_eq_true rfl) rfl fun X h hE => ?_
  have h : gOk X "Pagewright$Space" cX5_grow 4 1 0 0 := h
  have hE : gEnd X l w bs 0 (some FieldType.boolean) 0 (some (0, r0)) (s0, m) := hE
  show G X 0 0 0 [(8, a_this), (0, a_address), (1, 0), (1, 0)] [] (s, m)
  have J1 : (a_address < 0) ∨ (32 ≤ a_address + 1) → G X 0 0 12 [(8, a_this), (0, a_address), (1, 0), (1, 0)] [] (s, m) := by
    intro h3
    have hF := ite_t h3 hF
    refine g_iconst h 12 dX5_grow_12 ?_
    obtain ⟨e1, e2⟩ := some_2 hF
    rw [← e1, ← e2] at hE
    exact g_iret h 13 dX5_grow_13 hE rfl (g_nb (by rw [← e1] at hr; exact hr)) ⟨(Nat.le_of_ble_eq_true rfl), (Nat.le_of_ble_eq_true rfl)⟩
  have J2 : ¬ ((a_address < 0) ∨ (32 ≤ a_address + 1)) → G X 0 0 14 [(8, a_this), (0, a_address), (1, 0), (1, 0)] [] (s, m) := by
    intro h4
    have hF := ite_f h4 hF
    refine g_aload_nq h 14 dX5_grow_14 rfl rfl ?_
    refine gf_Space_entries h 15 dX5_grow_15 kw_253 (by omega) ?_
    refine g_iload_n h 18 dX5_grow_18 rfl ?_
    refine g_iconst h 19 dX5_grow_19 ?_
    refine g_iadd h 20 dX5_grow_20 ?_
    refine al_Space_entries h 21 dX5_grow_21 (by omega) (by omega) ?_
    refine g_astore_n h 22 dX5_grow_22 (Nat.le_of_ble_eq_true rfl) rfl (L' := [(8, a_this), (0, a_address), (4, 32 * a_this + (a_address + 1)), (1, 0)]) rfl ?_
    refine G_typ fun hT_s => ?_
    have t1 : 0 ≤ s 2 (32 * a_this + (a_address - 1)) ∧ s 2 (32 * a_this + (a_address - 1)) ≤ 1 := hT_s.1 2 (32 * a_this + (a_address - 1))
    obtain ⟨q1, hF⟩ := gd_some hF
    suffices J3 : ∀ v1 : Int, v1 = (if (0 < a_address) ∧ (s 2 (32 * a_this + (a_address - 1)) ≠ 0) then 1 else 0 : Int) → G X 0 0 46 [(8, a_this), (0, a_address), (4, 32 * a_this + (a_address + 1)), (1, 0)] [(0, v1)] (s, m) by
      have J4 : (0 < a_address) ∧ (s 2 (32 * a_this + (a_address - 1)) ≠ 0) → G X 0 0 41 [(8, a_this), (0, a_address), (4, 32 * a_this + (a_address + 1)), (1, 0)] [] (s, m) := by
        intro h7
        refine g_iconst h 41 dX5_grow_41 ?_
        refine g_goto h 42 46 dX5_grow_42 (by decide) ?_
        exact J3 _ (if_pos h7).symm
      have J5 : ¬ ((0 < a_address) ∧ (s 2 (32 * a_this + (a_address - 1)) ≠ 0)) → G X 0 0 45 [(8, a_this), (0, a_address), (4, 32 * a_this + (a_address + 1)), (1, 0)] [] (s, m) := by
        intro h8
        refine g_iconst h 45 dX5_grow_45 ?_
        exact J3 _ (if_neg h8).symm
      refine g_iload_n h 23 dX5_grow_23 rfl ?_
      refine g_if_le h 24 45 (gRi (by omega)) dX5_grow_24 (by decide) (fun h5 => ?_) (fun h5 => ?_)
      · exact J5 (fun q => (Int.not_lt.mpr h5) q.1)
      · refine g_aload_nq h 27 dX5_grow_27 rfl rfl ?_
        refine gf_Space_entries h 28 dX5_grow_28 kw_253 (by omega) ?_
        refine g_iload_n h 31 dX5_grow_31 rfl ?_
        refine g_iconst h 32 dX5_grow_32 ?_
        refine g_isub h 33 dX5_grow_33 ?_
        refine al_Space_entries h 34 dX5_grow_34 (by omega) (by omega) ?_
        refine gf_Entry_mapped h 35 dX5_grow_35 kw_192 (by omega) ?_
        refine g_if_eq h 38 45 (gRi (by omega)) dX5_grow_38 (by decide) (fun h6 => ?_) (fun h6 => ?_)
        · exact J5 (fun q => (fun q => q h6) q.2)
        · exact J4 ⟨h5, h6⟩
    intro v1 e1
    subst e1
    refine g_istore_n h 46 dX5_grow_46 (Nat.le_of_ble_eq_true rfl) rfl (L' := [(8, a_this), (0, a_address), (4, 32 * a_this + (a_address + 1)), (0, (if (0 < a_address) ∧ (s 2 (32 * a_this + (a_address - 1)) ≠ 0) then 1 else 0 : Int))]) rfl ?_
    have t2 : 0 ≤ s 2 (32 * a_this + (a_address + 1)) ∧ s 2 (32 * a_this + (a_address + 1)) ≤ 1 := hT_s.1 2 (32 * a_this + (a_address + 1))
    have t3 : 0 ≤ s 7 (32 * a_this + (a_address + 1)) ∧ s 7 (32 * a_this + (a_address + 1)) ≤ 1 := hT_s.1 7 (32 * a_this + (a_address + 1))
    have t4 : (-1) ≤ s 4 (32 * a_this + (a_address + 1)) ∧ s 4 (32 * a_this + (a_address + 1)) ≤ 2 := hT_s.1 4 (32 * a_this + (a_address + 1))
    have t5 : 0 ≤ s 5 (32 * a_this + (a_address + 1)) ∧ s 5 (32 * a_this + (a_address + 1)) ≤ 7 := hT_s.1 5 (32 * a_this + (a_address + 1))
    obtain ⟨q2, hF⟩ := gd_some hF
    have J6 : (((¬ (s 2 (32 * a_this + (a_address + 1)) ≠ 0)) ∨ (¬ (s 7 (32 * a_this + (a_address + 1)) ≠ 0))) ∨ ((0 < a_address) ∧ (s 2 (32 * a_this + (a_address - 1)) ≠ 0))) ∨ ((s 4 (32 * a_this + (a_address + 1)) ≠ (-1)) ∧ (s 5 (32 * a_this + (a_address + 1)) = 0)) → G X 0 0 80 [(8, a_this), (0, a_address), (4, 32 * a_this + (a_address + 1)), (0, (if (0 < a_address) ∧ (s 2 (32 * a_this + (a_address - 1)) ≠ 0) then 1 else 0 : Int))] [] (s, m) := by
      intro h14
      have hF := ite_t h14 hF
      refine g_iconst h 80 dX5_grow_80 ?_
      obtain ⟨e1, e2⟩ := some_2 hF
      rw [← e1, ← e2] at hE
      exact g_iret h 81 dX5_grow_81 hE rfl (g_nb (by rw [← e1] at hr; exact hr)) ⟨(Nat.le_of_ble_eq_true rfl), (Nat.le_of_ble_eq_true rfl)⟩
    have J7 : ¬ ((((¬ (s 2 (32 * a_this + (a_address + 1)) ≠ 0)) ∨ (¬ (s 7 (32 * a_this + (a_address + 1)) ≠ 0))) ∨ ((0 < a_address) ∧ (s 2 (32 * a_this + (a_address - 1)) ≠ 0))) ∨ ((s 4 (32 * a_this + (a_address + 1)) ≠ (-1)) ∧ (s 5 (32 * a_this + (a_address + 1)) = 0))) → G X 0 0 82 [(8, a_this), (0, a_address), (4, 32 * a_this + (a_address + 1)), (0, (if (0 < a_address) ∧ (s 2 (32 * a_this + (a_address - 1)) ≠ 0) then 1 else 0 : Int))] [] (s, m) := by
      intro h15
      have hF := ite_f h15 hF
      refine g_aload_nq h 82 dX5_grow_82 rfl rfl ?_
      refine gf_Space_entries h 83 dX5_grow_83 kw_253 (by omega) ?_
      refine g_iload_n h 86 dX5_grow_86 rfl ?_
      refine al_Space_entries h 87 dX5_grow_87 (by omega) (by omega) ?_
      have t6 : 0 ≤ s 3 (32 * a_this + (a_address + 1)) ∧ s 3 (32 * a_this + (a_address + 1)) ≤ 3 := hT_s.1 3 (32 * a_this + (a_address + 1))
      refine g_aload_nq h 88 dX5_grow_88 rfl rfl ?_
      refine gf_Entry_rights h 89 dX5_grow_89 kw_197 (by omega) ?_
      refine g_aload_nq h 92 dX5_grow_92 rfl rfl ?_
      refine gf_Entry_file h 93 dX5_grow_93 kw_199 (by omega) ?_
      refine g_aload_nq h 96 dX5_grow_96 rfl rfl ?_
      refine gf_Entry_index h 97 dX5_grow_97 kw_202 (by omega) ?_
      refine g_iconst h 100 dX5_grow_100 ?_
      refine g_isub h 101 dX5_grow_101 ?_
      have t7 : 0 ≤ s 6 (32 * a_this + (a_address + 1)) ∧ s 6 (32 * a_this + (a_address + 1)) ≤ 1 := hT_s.1 6 (32 * a_this + (a_address + 1))
      refine g_aload_nq h 102 dX5_grow_102 rfl rfl ?_
      refine gf_Entry_shared h 103 dX5_grow_103 kw_205 (by omega) ?_
      refine g_iconst h 106 dX5_grow_106 ?_
      obtain ⟨r1, s1, c1, hF⟩ := cb_some hF
      refine g_callV h hE 107 dX5_grow_107 (ctX1_establish hl c1) mwX1_establish kw_699 (by decide) (show _ ∧ _ < (192 : Int) by omega) rfl (Nat.le_of_ble_eq_true rfl) rfl (Nat.le_of_ble_eq_true rfl) ⟨Nat.le_of_ble_eq_true rfl, Nat.le_of_ble_eq_true rfl⟩ rfl rfl ?_
      show G X 0 0 110 [(8, a_this), (0, a_address), (4, 32 * a_this + (a_address + 1)), (0, (if (0 < a_address) ∧ (s 2 (32 * a_this + (a_address - 1)) ≠ 0) then 1 else 0 : Int))] [] (s1, m)
      refine g_iconst h 110 dX5_grow_110 ?_
      obtain ⟨e1, e2⟩ := some_2 hF
      rw [← e1, ← e2] at hE
      exact g_iret h 111 dX5_grow_111 hE rfl (g_nb (by rw [← e1] at hr; exact hr)) ⟨(Nat.le_of_ble_eq_true rfl), (Nat.le_of_ble_eq_true rfl)⟩
    refine g_aload_nq h 47 dX5_grow_47 rfl rfl ?_
    refine gf_Entry_mapped h 48 dX5_grow_48 kw_192 (by omega) ?_
    refine g_if_eq h 51 80 (gRi (by omega)) dX5_grow_51 (by decide) (fun h9 => ?_) (fun h9 => ?_)
    · exact J6 (Or.inl (Or.inl (Or.inl (fun q => q h9))))
    · refine g_aload_nq h 54 dX5_grow_54 rfl rfl ?_
      refine gf_Entry_grows h 55 dX5_grow_55 kw_208 (by omega) ?_
      refine g_if_eq h 58 80 (gRi (by omega)) dX5_grow_58 (by decide) (fun h10 => ?_) (fun h10 => ?_)
      · exact J6 (Or.inl (Or.inl (Or.inr (fun q => q h10))))
      · refine g_iload_n h 61 dX5_grow_61 rfl ?_
        refine g_if_ne h 62 80 (gRi gR_ite) dX5_grow_62 (by decide) (fun h11 => ?_) (fun h11 => ?_)
        · exact J6 (Or.inl (Or.inr (iz_t h11)))
        · refine g_aload_nq h 65 dX5_grow_65 rfl rfl ?_
          refine gf_Entry_file h 66 dX5_grow_66 kw_199 (by omega) ?_
          refine g_iconst h 69 dX5_grow_69 ?_
          refine g_icmp_eq h 70 82 (gRi (by omega)) (gRi (by omega)) dX5_grow_70 (by decide) (fun h12 => ?_) (fun h12 => ?_)
          · exact J7 (fun q => q.elim (fun q => q.elim (fun q => q.elim (fun q => q h9) (fun q => q h10)) (iz_f h11)) (fun q => (fun q => q h12) q.1))
          · refine g_aload_nq h 73 dX5_grow_73 rfl rfl ?_
            refine gf_Entry_index h 74 dX5_grow_74 kw_202 (by omega) ?_
            refine g_if_ne h 77 82 (gRi (by omega)) dX5_grow_77 (by decide) (fun h13 => ?_) (fun h13 => ?_)
            · exact J7 (fun q => q.elim (fun q => q.elim (fun q => q.elim (fun q => q h9) (fun q => q h10)) (iz_f h11)) (fun q => h13 q.2))
            · exact J6 (Or.inr ⟨h12, h13⟩)
  refine g_iload_n h 0 dX5_grow_0 rfl ?_
  refine g_if_lt h 1 12 (gRi (by omega)) dX5_grow_1 (by decide) (fun h1 => ?_) (fun h1 => ?_)
  · exact J1 (Or.inl h1)
  · refine g_iload_n h 4 dX5_grow_4 rfl ?_
    refine g_iconst h 5 dX5_grow_5 ?_
    refine g_iadd h 6 dX5_grow_6 ?_
    refine g_bipush h 7 dX5_grow_7 (by decide) ?_
    refine g_icmp_lt h 9 14 (gRi (by omega)) (gRi (by omega)) dX5_grow_9 (by decide) (fun h2 => ?_) (fun h2 => ?_)
    · exact J2 (fun q => q.elim (Int.not_lt.mpr h1) (Int.not_le.mpr h2))
    · exact J1 (Or.inr h2)
-- Pagewright$Space.regions
def FX5_regions (a_this : Int) (s : S2) : Option (Int × S2) :=
  rgd 0 32 <| gd (0 ≤ a_this ∧ a_this ≤ 5) <| gl2 1000 (fun k1 (x_regions1 : Int) (x_i1 : Int) (s1 : S2) => if x_i1 < 32 then gd ((-2147483648) ≤ x_regions1 + (if (s1 2 (32 * a_this + x_i1) ≠ 0) ∧ ((x_i1 = 0) ∨ (¬ (((((((s1 2 (32 * a_this + x_i1) ≠ 0) ∧ (s1 2 (32 * a_this + (x_i1 - 1)) ≠ 0)) ∧ (s1 3 (32 * a_this + x_i1) = s1 3 (32 * a_this + (x_i1 - 1)))) ∧ (s1 4 (32 * a_this + x_i1) = s1 4 (32 * a_this + (x_i1 - 1)))) ∧ (s1 6 (32 * a_this + x_i1) = s1 6 (32 * a_this + (x_i1 - 1)))) ∧ (s1 7 (32 * a_this + x_i1) = s1 7 (32 * a_this + (x_i1 - 1)))) ∧ ((s1 4 (32 * a_this + x_i1) = (-1)) ∨ (s1 5 (32 * a_this + x_i1) = (s1 5 (32 * a_this + (x_i1 - 1))) + 1))))) then 1 else 0 : Int) ∧ x_regions1 + (if (s1 2 (32 * a_this + x_i1) ≠ 0) ∧ ((x_i1 = 0) ∨ (¬ (((((((s1 2 (32 * a_this + x_i1) ≠ 0) ∧ (s1 2 (32 * a_this + (x_i1 - 1)) ≠ 0)) ∧ (s1 3 (32 * a_this + x_i1) = s1 3 (32 * a_this + (x_i1 - 1)))) ∧ (s1 4 (32 * a_this + x_i1) = s1 4 (32 * a_this + (x_i1 - 1)))) ∧ (s1 6 (32 * a_this + x_i1) = s1 6 (32 * a_this + (x_i1 - 1)))) ∧ (s1 7 (32 * a_this + x_i1) = s1 7 (32 * a_this + (x_i1 - 1)))) ∧ ((s1 4 (32 * a_this + x_i1) = (-1)) ∨ (s1 5 (32 * a_this + x_i1) = (s1 5 (32 * a_this + (x_i1 - 1))) + 1))))) then 1 else 0 : Int) ≤ 2147483647) <| k1 (x_regions1 + (if (s1 2 (32 * a_this + x_i1) ≠ 0) ∧ ((x_i1 = 0) ∨ (¬ (((((((s1 2 (32 * a_this + x_i1) ≠ 0) ∧ (s1 2 (32 * a_this + (x_i1 - 1)) ≠ 0)) ∧ (s1 3 (32 * a_this + x_i1) = s1 3 (32 * a_this + (x_i1 - 1)))) ∧ (s1 4 (32 * a_this + x_i1) = s1 4 (32 * a_this + (x_i1 - 1)))) ∧ (s1 6 (32 * a_this + x_i1) = s1 6 (32 * a_this + (x_i1 - 1)))) ∧ (s1 7 (32 * a_this + x_i1) = s1 7 (32 * a_this + (x_i1 - 1)))) ∧ ((s1 4 (32 * a_this + x_i1) = (-1)) ∨ (s1 5 (32 * a_this + x_i1) = (s1 5 (32 * a_this + (x_i1 - 1))) + 1))))) then 1 else 0 : Int)) (x_i1 + 1) s1 else some (x_regions1, s1)) 0 0 s
theorem rgX5_regions {a_this : Int} {s s0 : S2} {r0 : Int} (hF : FX5_regions a_this s = some (r0, s0)) : 0 ≤ r0 ∧ r0 ≤ 32 := (rgd_some hF).2
set_option maxRecDepth 100000 in
set_option maxHeartbeats 4000000 in
theorem ctX5_regions {l : Launch} {w : gW} {bs : Nat} (hl : l.stackTraces = false) {a_this : Int} {s m s0 : S2} {r0 : Int} (hF : FX5_regions a_this s = some (r0, s0)) : gMet l w bs yX5_regions cX5_regions 4 (some FieldType.int) 1 0 [(8, a_this)] (s, m) 0 (some (0, r0)) (s0, m) := by
  unfold FX5_regions at hF
  obtain ⟨hF, hr⟩ := rgd_some hF
  obtain ⟨q_a_this, hF⟩ := gd_some hF
  refine g_start hl (by decide) (Nat.le_of_ble_eq_true rfl) rfl fun X h hE => ?_
  have h : gOk X "Pagewright$Space" cX5_regions 4 1 0 0 := h
  have hE : gEnd X l w bs 0 (some FieldType.int) 0 (some (0, r0)) (s0, m) := hE
  show G X 0 0 0 [(8, a_this), (1, 0), (1, 0), (1, 0)] [] (s, m)
  refine g_iconst h 0 dX5_regions_0 ?_
  refine g_istore_n h 1 dX5_regions_1 (Nat.le_of_ble_eq_true rfl) rfl (L' := [(8, a_this), (0, 0), (1, 0), (1, 0)]) rfl ?_
  refine g_iconst h 2 dX5_regions_2 ?_
  refine g_istore_n h 3 dX5_regions_3 (Nat.le_of_ble_eq_true rfl) rfl (L' := [(8, a_this), (0, 0), (0, 0), (1, 0)]) rfl ?_
  obtain ⟨f1, ef1, hF⟩ := glx2 hF
  have J10 : ∀ (n1 : Nat) (x_regions1 x_i1 : Int) (s1 : S2), ((-2147483648) ≤ x_regions1 ∧ x_regions1 ≤ 2147483647) → (0 ≤ x_i1 ∧ x_i1 ≤ 32) → gl2 n1 f1 x_regions1 x_i1 s1 = some (r0, s0) → G X 0 0 4 [(8, a_this), (0, x_regions1), (0, x_i1), (1, 0)] [] (s1, m) := by
    intro n1
    induction n1 with
    | zero => intro x_regions1 x_i1 s1 _ _ hF; exact (gl2_0 hF).elim
    | succ n1 ih1 =>
      intro x_regions1 x_i1 s1 q1 q2 hF
      obtain ⟨k1, ek1, hF⟩ := glu2 hF ef1
      have J2 : x_i1 < 32 → G X 0 0 10 [(8, a_this), (0, x_regions1), (0, x_i1), (1, 0)] [] (s1, m) := by
        intro h2
        have hF := ite_t h2 hF
        refine G_typ fun hT_s1 => ?_
        have t1 : 0 ≤ s1 2 (32 * a_this + x_i1) ∧ s1 2 (32 * a_this + x_i1) ≤ 1 := hT_s1.1 2 (32 * a_this + x_i1)
        have t2 : 0 ≤ s1 2 (32 * a_this + (x_i1 - 1)) ∧ s1 2 (32 * a_this + (x_i1 - 1)) ≤ 1 := hT_s1.1 2 (32 * a_this + (x_i1 - 1))
        have t3 : 0 ≤ s1 3 (32 * a_this + x_i1) ∧ s1 3 (32 * a_this + x_i1) ≤ 3 := hT_s1.1 3 (32 * a_this + x_i1)
        have t4 : 0 ≤ s1 3 (32 * a_this + (x_i1 - 1)) ∧ s1 3 (32 * a_this + (x_i1 - 1)) ≤ 3 := hT_s1.1 3 (32 * a_this + (x_i1 - 1))
        have t5 : (-1) ≤ s1 4 (32 * a_this + x_i1) ∧ s1 4 (32 * a_this + x_i1) ≤ 2 := hT_s1.1 4 (32 * a_this + x_i1)
        have t6 : (-1) ≤ s1 4 (32 * a_this + (x_i1 - 1)) ∧ s1 4 (32 * a_this + (x_i1 - 1)) ≤ 2 := hT_s1.1 4 (32 * a_this + (x_i1 - 1))
        have t7 : 0 ≤ s1 6 (32 * a_this + x_i1) ∧ s1 6 (32 * a_this + x_i1) ≤ 1 := hT_s1.1 6 (32 * a_this + x_i1)
        have t8 : 0 ≤ s1 6 (32 * a_this + (x_i1 - 1)) ∧ s1 6 (32 * a_this + (x_i1 - 1)) ≤ 1 := hT_s1.1 6 (32 * a_this + (x_i1 - 1))
        have t9 : 0 ≤ s1 7 (32 * a_this + x_i1) ∧ s1 7 (32 * a_this + x_i1) ≤ 1 := hT_s1.1 7 (32 * a_this + x_i1)
        have t10 : 0 ≤ s1 7 (32 * a_this + (x_i1 - 1)) ∧ s1 7 (32 * a_this + (x_i1 - 1)) ≤ 1 := hT_s1.1 7 (32 * a_this + (x_i1 - 1))
        have t11 : 0 ≤ s1 5 (32 * a_this + x_i1) ∧ s1 5 (32 * a_this + x_i1) ≤ 7 := hT_s1.1 5 (32 * a_this + x_i1)
        have t12 : 0 ≤ s1 5 (32 * a_this + (x_i1 - 1)) ∧ s1 5 (32 * a_this + (x_i1 - 1)) ≤ 7 := hT_s1.1 5 (32 * a_this + (x_i1 - 1))
        suffices J4 : ∀ v1 : Int, v1 = (if (x_i1 = 0) ∨ (¬ (((((((s1 2 (32 * a_this + x_i1) ≠ 0) ∧ (s1 2 (32 * a_this + (x_i1 - 1)) ≠ 0)) ∧ (s1 3 (32 * a_this + x_i1) = s1 3 (32 * a_this + (x_i1 - 1)))) ∧ (s1 4 (32 * a_this + x_i1) = s1 4 (32 * a_this + (x_i1 - 1)))) ∧ (s1 6 (32 * a_this + x_i1) = s1 6 (32 * a_this + (x_i1 - 1)))) ∧ (s1 7 (32 * a_this + x_i1) = s1 7 (32 * a_this + (x_i1 - 1)))) ∧ ((s1 4 (32 * a_this + x_i1) = (-1)) ∨ (s1 5 (32 * a_this + x_i1) = (s1 5 (32 * a_this + (x_i1 - 1))) + 1)))) then 1 else 0 : Int) → G X 0 0 39 [(8, a_this), (0, x_regions1), (0, x_i1), (1, 0)] [(0, v1)] (s1, m) by
          have J5 : (x_i1 = 0) ∨ (¬ (((((((s1 2 (32 * a_this + x_i1) ≠ 0) ∧ (s1 2 (32 * a_this + (x_i1 - 1)) ≠ 0)) ∧ (s1 3 (32 * a_this + x_i1) = s1 3 (32 * a_this + (x_i1 - 1)))) ∧ (s1 4 (32 * a_this + x_i1) = s1 4 (32 * a_this + (x_i1 - 1)))) ∧ (s1 6 (32 * a_this + x_i1) = s1 6 (32 * a_this + (x_i1 - 1)))) ∧ (s1 7 (32 * a_this + x_i1) = s1 7 (32 * a_this + (x_i1 - 1)))) ∧ ((s1 4 (32 * a_this + x_i1) = (-1)) ∨ (s1 5 (32 * a_this + x_i1) = (s1 5 (32 * a_this + (x_i1 - 1))) + 1)))) → G X 0 0 34 [(8, a_this), (0, x_regions1), (0, x_i1), (1, 0)] [] (s1, m) := by
            intro h5
            refine g_iconst h 34 dX5_regions_34 ?_
            refine g_goto h 35 39 dX5_regions_35 (by decide) ?_
            exact J4 _ (if_pos h5).symm
          have J6 : ¬ ((x_i1 = 0) ∨ (¬ (((((((s1 2 (32 * a_this + x_i1) ≠ 0) ∧ (s1 2 (32 * a_this + (x_i1 - 1)) ≠ 0)) ∧ (s1 3 (32 * a_this + x_i1) = s1 3 (32 * a_this + (x_i1 - 1)))) ∧ (s1 4 (32 * a_this + x_i1) = s1 4 (32 * a_this + (x_i1 - 1)))) ∧ (s1 6 (32 * a_this + x_i1) = s1 6 (32 * a_this + (x_i1 - 1)))) ∧ (s1 7 (32 * a_this + x_i1) = s1 7 (32 * a_this + (x_i1 - 1)))) ∧ ((s1 4 (32 * a_this + x_i1) = (-1)) ∨ (s1 5 (32 * a_this + x_i1) = (s1 5 (32 * a_this + (x_i1 - 1))) + 1))))) → G X 0 0 38 [(8, a_this), (0, x_regions1), (0, x_i1), (1, 0)] [] (s1, m) := by
            intro h6
            refine g_iconst h 38 dX5_regions_38 ?_
            exact J4 _ (if_neg h6).symm
          refine g_iload_n h 10 dX5_regions_10 rfl ?_
          refine g_if_eq h 11 34 (gRi (by omega)) dX5_regions_11 (by decide) (fun h3 => ?_) (fun h3 => ?_)
          · exact J5 (Or.inl h3)
          · refine g_aload_nq h 14 dX5_regions_14 rfl rfl ?_
            refine gf_Space_entries h 15 dX5_regions_15 kw_253 (by omega) ?_
            refine g_iload_n h 18 dX5_regions_18 rfl ?_
            refine al_Space_entries h 19 dX5_regions_19 (by omega) (by omega) ?_
            refine g_aload_nq h 20 dX5_regions_20 rfl rfl ?_
            refine gf_Space_entries h 21 dX5_regions_21 kw_253 (by omega) ?_
            refine g_iload_n h 24 dX5_regions_24 rfl ?_
            refine g_iconst h 25 dX5_regions_25 ?_
            refine g_isub h 26 dX5_regions_26 ?_
            refine al_Space_entries h 27 dX5_regions_27 (by omega) (by omega) ?_
            refine g_callV h hE 28 dX5_regions_28 (cpX1_continues (a_this := 32 * a_this + x_i1) (a_below := 32 * a_this + (x_i1 - 1)) hl (by omega) (by omega)) mwX1_continues kw_550 (by decide) (show _ ∧ _ < (192 : Int) by omega) rfl (Nat.le_of_ble_eq_true rfl) rfl (Nat.le_of_ble_eq_true rfl) ⟨Nat.le_of_ble_eq_true rfl, Nat.le_of_ble_eq_true rfl⟩ rfl rfl ?_
            show G X 0 0 31 [(8, a_this), (0, x_regions1), (0, x_i1), (1, 0)] [(0, (if ((((((s1 2 (32 * a_this + x_i1) ≠ 0) ∧ (s1 2 (32 * a_this + (x_i1 - 1)) ≠ 0)) ∧ (s1 3 (32 * a_this + x_i1) = s1 3 (32 * a_this + (x_i1 - 1)))) ∧ (s1 4 (32 * a_this + x_i1) = s1 4 (32 * a_this + (x_i1 - 1)))) ∧ (s1 6 (32 * a_this + x_i1) = s1 6 (32 * a_this + (x_i1 - 1)))) ∧ (s1 7 (32 * a_this + x_i1) = s1 7 (32 * a_this + (x_i1 - 1)))) ∧ ((s1 4 (32 * a_this + x_i1) = (-1)) ∨ (s1 5 (32 * a_this + x_i1) = (s1 5 (32 * a_this + (x_i1 - 1))) + 1)) then 1 else 0 : Int))] (s1, m)
            refine g_if_ne h 31 38 (gRi gR_ite) dX5_regions_31 (by decide) (fun h4 => ?_) (fun h4 => ?_)
            · exact J6 (fun q => q.elim h3 (fun q => q (iz_t h4)))
            · exact J5 (Or.inr (iz_f h4))
        intro v1 e1
        subst e1
        refine g_istore_n h 39 dX5_regions_39 (Nat.le_of_ble_eq_true rfl) rfl (L' := [(8, a_this), (0, x_regions1), (0, x_i1), (0, (if (x_i1 = 0) ∨ (¬ (((((((s1 2 (32 * a_this + x_i1) ≠ 0) ∧ (s1 2 (32 * a_this + (x_i1 - 1)) ≠ 0)) ∧ (s1 3 (32 * a_this + x_i1) = s1 3 (32 * a_this + (x_i1 - 1)))) ∧ (s1 4 (32 * a_this + x_i1) = s1 4 (32 * a_this + (x_i1 - 1)))) ∧ (s1 6 (32 * a_this + x_i1) = s1 6 (32 * a_this + (x_i1 - 1)))) ∧ (s1 7 (32 * a_this + x_i1) = s1 7 (32 * a_this + (x_i1 - 1)))) ∧ ((s1 4 (32 * a_this + x_i1) = (-1)) ∨ (s1 5 (32 * a_this + x_i1) = (s1 5 (32 * a_this + (x_i1 - 1))) + 1)))) then 1 else 0 : Int))]) rfl ?_
        refine g_iload_n h 40 dX5_regions_40 rfl ?_
        suffices J7 : ∀ v2 : Int, v2 = (if (s1 2 (32 * a_this + x_i1) ≠ 0) ∧ ((x_i1 = 0) ∨ (¬ (((((((s1 2 (32 * a_this + x_i1) ≠ 0) ∧ (s1 2 (32 * a_this + (x_i1 - 1)) ≠ 0)) ∧ (s1 3 (32 * a_this + x_i1) = s1 3 (32 * a_this + (x_i1 - 1)))) ∧ (s1 4 (32 * a_this + x_i1) = s1 4 (32 * a_this + (x_i1 - 1)))) ∧ (s1 6 (32 * a_this + x_i1) = s1 6 (32 * a_this + (x_i1 - 1)))) ∧ (s1 7 (32 * a_this + x_i1) = s1 7 (32 * a_this + (x_i1 - 1)))) ∧ ((s1 4 (32 * a_this + x_i1) = (-1)) ∨ (s1 5 (32 * a_this + x_i1) = (s1 5 (32 * a_this + (x_i1 - 1))) + 1))))) then 1 else 0 : Int) → G X 0 0 62 [(8, a_this), (0, x_regions1), (0, x_i1), (0, (if (x_i1 = 0) ∨ (¬ (((((((s1 2 (32 * a_this + x_i1) ≠ 0) ∧ (s1 2 (32 * a_this + (x_i1 - 1)) ≠ 0)) ∧ (s1 3 (32 * a_this + x_i1) = s1 3 (32 * a_this + (x_i1 - 1)))) ∧ (s1 4 (32 * a_this + x_i1) = s1 4 (32 * a_this + (x_i1 - 1)))) ∧ (s1 6 (32 * a_this + x_i1) = s1 6 (32 * a_this + (x_i1 - 1)))) ∧ (s1 7 (32 * a_this + x_i1) = s1 7 (32 * a_this + (x_i1 - 1)))) ∧ ((s1 4 (32 * a_this + x_i1) = (-1)) ∨ (s1 5 (32 * a_this + x_i1) = (s1 5 (32 * a_this + (x_i1 - 1))) + 1)))) then 1 else 0 : Int))] [(0, v2), (0, x_regions1)] (s1, m) by
          have J8 : (s1 2 (32 * a_this + x_i1) ≠ 0) ∧ ((x_i1 = 0) ∨ (¬ (((((((s1 2 (32 * a_this + x_i1) ≠ 0) ∧ (s1 2 (32 * a_this + (x_i1 - 1)) ≠ 0)) ∧ (s1 3 (32 * a_this + x_i1) = s1 3 (32 * a_this + (x_i1 - 1)))) ∧ (s1 4 (32 * a_this + x_i1) = s1 4 (32 * a_this + (x_i1 - 1)))) ∧ (s1 6 (32 * a_this + x_i1) = s1 6 (32 * a_this + (x_i1 - 1)))) ∧ (s1 7 (32 * a_this + x_i1) = s1 7 (32 * a_this + (x_i1 - 1)))) ∧ ((s1 4 (32 * a_this + x_i1) = (-1)) ∨ (s1 5 (32 * a_this + x_i1) = (s1 5 (32 * a_this + (x_i1 - 1))) + 1))))) → G X 0 0 57 [(8, a_this), (0, x_regions1), (0, x_i1), (0, (if (x_i1 = 0) ∨ (¬ (((((((s1 2 (32 * a_this + x_i1) ≠ 0) ∧ (s1 2 (32 * a_this + (x_i1 - 1)) ≠ 0)) ∧ (s1 3 (32 * a_this + x_i1) = s1 3 (32 * a_this + (x_i1 - 1)))) ∧ (s1 4 (32 * a_this + x_i1) = s1 4 (32 * a_this + (x_i1 - 1)))) ∧ (s1 6 (32 * a_this + x_i1) = s1 6 (32 * a_this + (x_i1 - 1)))) ∧ (s1 7 (32 * a_this + x_i1) = s1 7 (32 * a_this + (x_i1 - 1)))) ∧ ((s1 4 (32 * a_this + x_i1) = (-1)) ∨ (s1 5 (32 * a_this + x_i1) = (s1 5 (32 * a_this + (x_i1 - 1))) + 1)))) then 1 else 0 : Int))] [(0, x_regions1)] (s1, m) := by
            intro h9
            refine g_iconst h 57 dX5_regions_57 ?_
            refine g_goto h 58 62 dX5_regions_58 (by decide) ?_
            exact J7 _ (if_pos h9).symm
          have J9 : ¬ ((s1 2 (32 * a_this + x_i1) ≠ 0) ∧ ((x_i1 = 0) ∨ (¬ (((((((s1 2 (32 * a_this + x_i1) ≠ 0) ∧ (s1 2 (32 * a_this + (x_i1 - 1)) ≠ 0)) ∧ (s1 3 (32 * a_this + x_i1) = s1 3 (32 * a_this + (x_i1 - 1)))) ∧ (s1 4 (32 * a_this + x_i1) = s1 4 (32 * a_this + (x_i1 - 1)))) ∧ (s1 6 (32 * a_this + x_i1) = s1 6 (32 * a_this + (x_i1 - 1)))) ∧ (s1 7 (32 * a_this + x_i1) = s1 7 (32 * a_this + (x_i1 - 1)))) ∧ ((s1 4 (32 * a_this + x_i1) = (-1)) ∨ (s1 5 (32 * a_this + x_i1) = (s1 5 (32 * a_this + (x_i1 - 1))) + 1)))))) → G X 0 0 61 [(8, a_this), (0, x_regions1), (0, x_i1), (0, (if (x_i1 = 0) ∨ (¬ (((((((s1 2 (32 * a_this + x_i1) ≠ 0) ∧ (s1 2 (32 * a_this + (x_i1 - 1)) ≠ 0)) ∧ (s1 3 (32 * a_this + x_i1) = s1 3 (32 * a_this + (x_i1 - 1)))) ∧ (s1 4 (32 * a_this + x_i1) = s1 4 (32 * a_this + (x_i1 - 1)))) ∧ (s1 6 (32 * a_this + x_i1) = s1 6 (32 * a_this + (x_i1 - 1)))) ∧ (s1 7 (32 * a_this + x_i1) = s1 7 (32 * a_this + (x_i1 - 1)))) ∧ ((s1 4 (32 * a_this + x_i1) = (-1)) ∨ (s1 5 (32 * a_this + x_i1) = (s1 5 (32 * a_this + (x_i1 - 1))) + 1)))) then 1 else 0 : Int))] [(0, x_regions1)] (s1, m) := by
            intro h10
            refine g_iconst h 61 dX5_regions_61 ?_
            exact J7 _ (if_neg h10).symm
          refine g_aload_nq h 41 dX5_regions_41 rfl rfl ?_
          refine gf_Space_entries h 42 dX5_regions_42 kw_253 (by omega) ?_
          refine g_iload_n h 45 dX5_regions_45 rfl ?_
          refine al_Space_entries h 46 dX5_regions_46 (by omega) (by omega) ?_
          refine gf_Entry_mapped h 47 dX5_regions_47 kw_192 (by omega) ?_
          refine g_if_eq h 50 61 (gRi (by omega)) dX5_regions_50 (by decide) (fun h7 => ?_) (fun h7 => ?_)
          · exact J9 (fun q => (fun q => q h7) q.1)
          · refine g_iload_n h 53 dX5_regions_53 rfl ?_
            refine g_if_eq h 54 61 (gRi gR_ite) dX5_regions_54 (by decide) (fun h8 => ?_) (fun h8 => ?_)
            · exact J9 (fun q => (iz_f h8) q.2)
            · exact J8 ⟨h7, (iz_t h8)⟩
        intro v2 e2
        subst e2
        refine g_iadd h 62 dX5_regions_62 ?_
        refine g_istore_n h 63 dX5_regions_63 (Nat.le_of_ble_eq_true rfl) rfl (L' := [(8, a_this), (0, x_regions1 + (if (s1 2 (32 * a_this + x_i1) ≠ 0) ∧ ((x_i1 = 0) ∨ (¬ (((((((s1 2 (32 * a_this + x_i1) ≠ 0) ∧ (s1 2 (32 * a_this + (x_i1 - 1)) ≠ 0)) ∧ (s1 3 (32 * a_this + x_i1) = s1 3 (32 * a_this + (x_i1 - 1)))) ∧ (s1 4 (32 * a_this + x_i1) = s1 4 (32 * a_this + (x_i1 - 1)))) ∧ (s1 6 (32 * a_this + x_i1) = s1 6 (32 * a_this + (x_i1 - 1)))) ∧ (s1 7 (32 * a_this + x_i1) = s1 7 (32 * a_this + (x_i1 - 1)))) ∧ ((s1 4 (32 * a_this + x_i1) = (-1)) ∨ (s1 5 (32 * a_this + x_i1) = (s1 5 (32 * a_this + (x_i1 - 1))) + 1))))) then 1 else 0 : Int)), (0, x_i1), (0, (if (x_i1 = 0) ∨ (¬ (((((((s1 2 (32 * a_this + x_i1) ≠ 0) ∧ (s1 2 (32 * a_this + (x_i1 - 1)) ≠ 0)) ∧ (s1 3 (32 * a_this + x_i1) = s1 3 (32 * a_this + (x_i1 - 1)))) ∧ (s1 4 (32 * a_this + x_i1) = s1 4 (32 * a_this + (x_i1 - 1)))) ∧ (s1 6 (32 * a_this + x_i1) = s1 6 (32 * a_this + (x_i1 - 1)))) ∧ (s1 7 (32 * a_this + x_i1) = s1 7 (32 * a_this + (x_i1 - 1)))) ∧ ((s1 4 (32 * a_this + x_i1) = (-1)) ∨ (s1 5 (32 * a_this + x_i1) = (s1 5 (32 * a_this + (x_i1 - 1))) + 1)))) then 1 else 0 : Int))]) rfl ?_
        refine g_iinc h 64 dX5_regions_64 rfl rfl (L' := [(8, a_this), (0, x_regions1 + (if (s1 2 (32 * a_this + x_i1) ≠ 0) ∧ ((x_i1 = 0) ∨ (¬ (((((((s1 2 (32 * a_this + x_i1) ≠ 0) ∧ (s1 2 (32 * a_this + (x_i1 - 1)) ≠ 0)) ∧ (s1 3 (32 * a_this + x_i1) = s1 3 (32 * a_this + (x_i1 - 1)))) ∧ (s1 4 (32 * a_this + x_i1) = s1 4 (32 * a_this + (x_i1 - 1)))) ∧ (s1 6 (32 * a_this + x_i1) = s1 6 (32 * a_this + (x_i1 - 1)))) ∧ (s1 7 (32 * a_this + x_i1) = s1 7 (32 * a_this + (x_i1 - 1)))) ∧ ((s1 4 (32 * a_this + x_i1) = (-1)) ∨ (s1 5 (32 * a_this + x_i1) = (s1 5 (32 * a_this + (x_i1 - 1))) + 1))))) then 1 else 0 : Int)), (0, x_i1 + 1), (0, (if (x_i1 = 0) ∨ (¬ (((((((s1 2 (32 * a_this + x_i1) ≠ 0) ∧ (s1 2 (32 * a_this + (x_i1 - 1)) ≠ 0)) ∧ (s1 3 (32 * a_this + x_i1) = s1 3 (32 * a_this + (x_i1 - 1)))) ∧ (s1 4 (32 * a_this + x_i1) = s1 4 (32 * a_this + (x_i1 - 1)))) ∧ (s1 6 (32 * a_this + x_i1) = s1 6 (32 * a_this + (x_i1 - 1)))) ∧ (s1 7 (32 * a_this + x_i1) = s1 7 (32 * a_this + (x_i1 - 1)))) ∧ ((s1 4 (32 * a_this + x_i1) = (-1)) ∨ (s1 5 (32 * a_this + x_i1) = (s1 5 (32 * a_this + (x_i1 - 1))) + 1)))) then 1 else 0 : Int))]) rfl ?_
        refine g_goto h 67 4 dX5_regions_67 (by decide) ?_
        obtain ⟨q3, hF⟩ := gd_some hF
        refine G_weak (L' := [(8, a_this), (0, x_regions1 + (if (s1 2 (32 * a_this + x_i1) ≠ 0) ∧ ((x_i1 = 0) ∨ (¬ (((((((s1 2 (32 * a_this + x_i1) ≠ 0) ∧ (s1 2 (32 * a_this + (x_i1 - 1)) ≠ 0)) ∧ (s1 3 (32 * a_this + x_i1) = s1 3 (32 * a_this + (x_i1 - 1)))) ∧ (s1 4 (32 * a_this + x_i1) = s1 4 (32 * a_this + (x_i1 - 1)))) ∧ (s1 6 (32 * a_this + x_i1) = s1 6 (32 * a_this + (x_i1 - 1)))) ∧ (s1 7 (32 * a_this + x_i1) = s1 7 (32 * a_this + (x_i1 - 1)))) ∧ ((s1 4 (32 * a_this + x_i1) = (-1)) ∨ (s1 5 (32 * a_this + x_i1) = (s1 5 (32 * a_this + (x_i1 - 1))) + 1))))) then 1 else 0 : Int)), (0, x_i1 + 1), (1, 0)]) ⟨Or.inr rfl, Or.inr rfl, Or.inr rfl, Or.inl rfl, trivial⟩ ?_
        rw [ek1] at hF
        exact ih1 _ _ _ (by omega) (by omega) hF
      have J3 : ¬ (x_i1 < 32) → G X 0 0 70 [(8, a_this), (0, x_regions1), (0, x_i1), (1, 0)] [] (s1, m) := by
        intro h11
        have hF := ite_f h11 hF
        refine g_iload_n h 70 dX5_regions_70 rfl ?_
        obtain ⟨e1, e2⟩ := some_2 hF
        rw [← e1, ← e2] at hE
        exact g_iret h 71 dX5_regions_71 hE rfl rfl ⟨(Nat.le_of_ble_eq_true rfl), (Nat.le_of_ble_eq_true rfl)⟩
      refine g_iload_n h 4 dX5_regions_4 rfl ?_
      refine g_bipush h 5 dX5_regions_5 (by decide) ?_
      refine g_icmp_ge h 7 70 (gRi (by omega)) (gRi (by omega)) dX5_regions_7 (by decide) (fun h1 => ?_) (fun h1 => ?_)
      · exact J3 (Int.not_lt.mpr h1)
      · exact J2 h1
  exact J10 _ _ _ _ (by omega) (by omega) hF
-- Pagewright$Space.score
def FX5_score (a_this : Int) (s : S2) : Option (Int × S2) :=
  rgd (-50) 114 <| gd (0 ≤ a_this ∧ a_this ≤ 5) <| cb (FX5_having a_this 1 s) fun r1 s1 => cb (FX5_having a_this 2 s1) fun r2 s2 => some ((r1 + r2) + (s2 34 a_this), s2)
theorem rgX5_score {a_this : Int} {s s0 : S2} {r0 : Int} (hF : FX5_score a_this s = some (r0, s0)) : (-50) ≤ r0 ∧ r0 ≤ 114 := (rgd_some hF).2
set_option maxRecDepth 100000 in
set_option maxHeartbeats 4000000 in
theorem ctX5_score {l : Launch} {w : gW} {bs : Nat} (hl : l.stackTraces = false) {a_this : Int} {s m s0 : S2} {r0 : Int} (hF : FX5_score a_this s = some (r0, s0)) : gMet l w bs yX5_score cX5_score 1 (some FieldType.int) 1 0 [(8, a_this)] (s, m) 0 (some (0, r0)) (s0, m) := by
  unfold FX5_score at hF
  obtain ⟨hF, hr⟩ := rgd_some hF
  obtain ⟨q_a_this, hF⟩ := gd_some hF
  refine g_start hl (by decide) (Nat.le_of_ble_eq_true rfl) rfl fun X h hE => ?_
  have h : gOk X "Pagewright$Space" cX5_score 1 1 0 0 := h
  have hE : gEnd X l w bs 0 (some FieldType.int) 0 (some (0, r0)) (s0, m) := hE
  show G X 0 0 0 [(8, a_this)] [] (s, m)
  refine g_aload_nq h 0 dX5_score_0 rfl rfl ?_
  refine g_iconst h 1 dX5_score_1 ?_
  obtain ⟨r1, s1, c1, hF⟩ := cb_some hF
  have t1 : 0 ≤ r1 ∧ r1 ≤ 32 := rgX5_having c1
  refine g_callV h hE 2 dX5_score_2 (ctX5_having hl c1) mwX5_having kw_773 (by decide) (show _ ∧ _ < (6 : Int) by omega) rfl (Nat.le_of_ble_eq_true rfl) rfl (Nat.le_of_ble_eq_true rfl) ⟨Nat.le_of_ble_eq_true rfl, Nat.le_of_ble_eq_true rfl⟩ rfl rfl ?_
  show G X 0 0 5 [(8, a_this)] [(0, r1)] (s1, m)
  refine g_aload_nq h 5 dX5_score_5 rfl rfl ?_
  refine g_iconst h 6 dX5_score_6 ?_
  obtain ⟨r2, s2, c2, hF⟩ := cb_some hF
  have t2 : 0 ≤ r2 ∧ r2 ≤ 32 := rgX5_having c2
  refine g_callV h hE 7 dX5_score_7 (ctX5_having hl c2) mwX5_having kw_773 (by decide) (show _ ∧ _ < (6 : Int) by omega) rfl (Nat.le_of_ble_eq_true rfl) rfl (Nat.le_of_ble_eq_true rfl) ⟨Nat.le_of_ble_eq_true rfl, Nat.le_of_ble_eq_true rfl⟩ rfl rfl ?_
  show G X 0 0 10 [(8, a_this)] [(0, r2), (0, r1)] (s2, m)
  refine g_iadd h 10 dX5_score_10 ?_
  refine G_typ fun hT_s2 => ?_
  have t3 : (-50) ≤ s2 34 a_this ∧ s2 34 a_this ≤ 50 := hT_s2.1 34 a_this
  refine g_aload_nq h 11 dX5_score_11 rfl rfl ?_
  refine gf_Space_adjusted h 12 dX5_score_12 kw_256 (by omega) ?_
  refine g_iadd h 15 dX5_score_15 ?_
  obtain ⟨e1, e2⟩ := some_2 hF
  rw [← e1, ← e2] at hE
  exact g_iret h 16 dX5_score_16 hE rfl rfl ⟨(Nat.le_of_ble_eq_true rfl), (Nat.le_of_ble_eq_true rfl)⟩
-- Pagewright.blocks
def FX7_blocks (a_space : Int) (s : S2) : Option (Int × S2) :=
  rgd 0 8 <| gd (0 ≤ a_space ∧ a_space ≤ 5) <| gl2 1000 (fun k1 (x_blocks1 : Int) (x_i1 : Int) (s1 : S2) => if x_i1 < 32 then gd ((-2147483648) ≤ x_blocks1 + (if ((0 ≤ (32 * a_space + x_i1) / 4) ∧ ((32 * a_space + x_i1) / 4 < 48)) ∧ (s1 46 ((32 * a_space + x_i1) / 4) ≠ 0) then 1 else 0 : Int) ∧ x_blocks1 + (if ((0 ≤ (32 * a_space + x_i1) / 4) ∧ ((32 * a_space + x_i1) / 4 < 48)) ∧ (s1 46 ((32 * a_space + x_i1) / 4) ≠ 0) then 1 else 0 : Int) ≤ 2147483647) <| k1 (x_blocks1 + (if ((0 ≤ (32 * a_space + x_i1) / 4) ∧ ((32 * a_space + x_i1) / 4 < 48)) ∧ (s1 46 ((32 * a_space + x_i1) / 4) ≠ 0) then 1 else 0 : Int)) (x_i1 + 4) s1 else some (x_blocks1, s1)) 0 0 s
theorem rgX7_blocks {a_space : Int} {s s0 : S2} {r0 : Int} (hF : FX7_blocks a_space s = some (r0, s0)) : 0 ≤ r0 ∧ r0 ≤ 8 := (rgd_some hF).2
set_option maxRecDepth 100000 in
set_option maxHeartbeats 4000000 in
theorem ctX7_blocks {l : Launch} {w : gW} {bs : Nat} (hl : l.stackTraces = false) {a_space : Int} {s m s0 : S2} {r0 : Int} (hF : FX7_blocks a_space s = some (r0, s0)) : gMet l w bs yX7_blocks cX7_blocks 4 (some FieldType.int) 1 0 [(10, 0), (8, a_space)] (s, m) 0 (some (0, r0)) (s0, m) := by
  unfold FX7_blocks at hF
  obtain ⟨hF, hr⟩ := rgd_some hF
  obtain ⟨q_a_space, hF⟩ := gd_some hF
  refine g_start hl (by decide) (Nat.le_of_ble_eq_true rfl) rfl fun X h hE => ?_
  have h : gOk X "Pagewright" cX7_blocks 4 1 0 0 := h
  have hE : gEnd X l w bs 0 (some FieldType.int) 0 (some (0, r0)) (s0, m) := hE
  show G X 0 0 0 [(10, 0), (8, a_space), (1, 0), (1, 0)] [] (s, m)
  refine g_iconst h 0 dX7_blocks_0 ?_
  refine g_istore_n h 1 dX7_blocks_1 (Nat.le_of_ble_eq_true rfl) rfl (L' := [(10, 0), (8, a_space), (0, 0), (1, 0)]) rfl ?_
  refine g_iconst h 2 dX7_blocks_2 ?_
  refine g_istore_n h 3 dX7_blocks_3 (Nat.le_of_ble_eq_true rfl) rfl (L' := [(10, 0), (8, a_space), (0, 0), (0, 0)]) rfl ?_
  obtain ⟨f1, ef1, hF⟩ := glx2 hF
  have J7 : ∀ (n1 : Nat) (x_blocks1 x_i1 : Int) (s1 : S2), ((-2147483648) ≤ x_blocks1 ∧ x_blocks1 ≤ 2147483647) → (0 ≤ x_i1 ∧ x_i1 ≤ 35) → gl2 n1 f1 x_blocks1 x_i1 s1 = some (r0, s0) → G X 0 0 4 [(10, 0), (8, a_space), (0, x_blocks1), (0, x_i1)] [] (s1, m) := by
    intro n1
    induction n1 with
    | zero => intro x_blocks1 x_i1 s1 _ _ hF; exact (gl2_0 hF).elim
    | succ n1 ih1 =>
      intro x_blocks1 x_i1 s1 q1 q2 hF
      obtain ⟨k1, ek1, hF⟩ := glu2 hF ef1
      have J2 : x_i1 < 32 → G X 0 0 10 [(10, 0), (8, a_space), (0, x_blocks1), (0, x_i1)] [] (s1, m) := by
        intro h2
        have hF := ite_t h2 hF
        refine G_typ fun hT_s1 => ?_
        have t1 : 0 ≤ s1 46 ((32 * a_space + x_i1) / 4) ∧ s1 46 ((32 * a_space + x_i1) / 4) ≤ 1 := hT_s1.1 46 ((32 * a_space + x_i1) / 4)
        refine g_iload_n h 10 dX7_blocks_10 rfl ?_
        suffices J4 : ∀ v1 : Int, v1 = (if ((0 ≤ (32 * a_space + x_i1) / 4) ∧ ((32 * a_space + x_i1) / 4 < 48)) ∧ (s1 46 ((32 * a_space + x_i1) / 4) ≠ 0) then 1 else 0 : Int) → G X 0 0 32 [(10, 0), (8, a_space), (0, x_blocks1), (0, x_i1)] [(0, v1), (0, x_blocks1)] (s1, m) by
          have J5 : ((0 ≤ (32 * a_space + x_i1) / 4) ∧ ((32 * a_space + x_i1) / 4 < 48)) ∧ (s1 46 ((32 * a_space + x_i1) / 4) ≠ 0) → G X 0 0 27 [(10, 0), (8, a_space), (0, x_blocks1), (0, x_i1)] [(0, x_blocks1)] (s1, m) := by
            intro h4
            refine g_iconst h 27 dX7_blocks_27 ?_
            refine g_goto h 28 32 dX7_blocks_28 (by decide) ?_
            exact J4 _ (if_pos h4).symm
          have J6 : ¬ (((0 ≤ (32 * a_space + x_i1) / 4) ∧ ((32 * a_space + x_i1) / 4 < 48)) ∧ (s1 46 ((32 * a_space + x_i1) / 4) ≠ 0)) → G X 0 0 31 [(10, 0), (8, a_space), (0, x_blocks1), (0, x_i1)] [(0, x_blocks1)] (s1, m) := by
            intro h5
            refine g_iconst h 31 dX7_blocks_31 ?_
            exact J4 _ (if_neg h5).symm
          refine g_aload_nq h 11 dX7_blocks_11 rfl rfl ?_
          refine g_aload_nq h 12 dX7_blocks_12 rfl rfl ?_
          refine gf_Space_entries h 13 dX7_blocks_13 kw_254 (by omega) ?_
          refine g_iload_n h 16 dX7_blocks_16 rfl ?_
          refine al_Space_entries h 17 dX7_blocks_17 (by omega) (by omega) ?_
          refine gf_Entry_block h 18 dX7_blocks_18 kw_191 (by omega) ?_
          refine g_callV h hE 21 dX7_blocks_21 (cpX7_isJoined (a_block := (32 * a_space + x_i1) / 4) hl (by omega)) mwX7_isJoined kw_887 (by decide) (by decide) rfl (Nat.le_of_ble_eq_true rfl) rfl (Nat.le_of_ble_eq_true rfl) ⟨Nat.le_of_ble_eq_true rfl, Nat.le_of_ble_eq_true rfl⟩ rfl rfl ?_
          show G X 0 0 24 [(10, 0), (8, a_space), (0, x_blocks1), (0, x_i1)] [(0, (if ((0 ≤ (32 * a_space + x_i1) / 4) ∧ ((32 * a_space + x_i1) / 4 < 48)) ∧ (s1 46 ((32 * a_space + x_i1) / 4) ≠ 0) then 1 else 0 : Int)), (0, x_blocks1)] (s1, m)
          refine g_if_eq h 24 31 (gRi gR_ite) dX7_blocks_24 (by decide) (fun h3 => ?_) (fun h3 => ?_)
          · exact J6 (iz_f h3)
          · exact J5 (iz_t h3)
        intro v1 e1
        subst e1
        refine g_iadd h 32 dX7_blocks_32 ?_
        refine g_istore_n h 33 dX7_blocks_33 (Nat.le_of_ble_eq_true rfl) rfl (L' := [(10, 0), (8, a_space), (0, x_blocks1 + (if ((0 ≤ (32 * a_space + x_i1) / 4) ∧ ((32 * a_space + x_i1) / 4 < 48)) ∧ (s1 46 ((32 * a_space + x_i1) / 4) ≠ 0) then 1 else 0 : Int)), (0, x_i1)]) rfl ?_
        refine g_iinc h 34 dX7_blocks_34 rfl rfl (L' := [(10, 0), (8, a_space), (0, x_blocks1 + (if ((0 ≤ (32 * a_space + x_i1) / 4) ∧ ((32 * a_space + x_i1) / 4 < 48)) ∧ (s1 46 ((32 * a_space + x_i1) / 4) ≠ 0) then 1 else 0 : Int)), (0, x_i1 + 4)]) rfl ?_
        refine g_goto h 37 4 dX7_blocks_37 (by decide) ?_
        obtain ⟨q3, hF⟩ := gd_some hF
        rw [ek1] at hF
        exact ih1 _ _ _ (by omega) (by omega) hF
      have J3 : ¬ (x_i1 < 32) → G X 0 0 40 [(10, 0), (8, a_space), (0, x_blocks1), (0, x_i1)] [] (s1, m) := by
        intro h6
        have hF := ite_f h6 hF
        refine g_iload_n h 40 dX7_blocks_40 rfl ?_
        obtain ⟨e1, e2⟩ := some_2 hF
        rw [← e1, ← e2] at hE
        exact g_iret h 41 dX7_blocks_41 hE rfl rfl ⟨(Nat.le_of_ble_eq_true rfl), (Nat.le_of_ble_eq_true rfl)⟩
      refine g_iload_n h 4 dX7_blocks_4 rfl ?_
      refine g_bipush h 5 dX7_blocks_5 (by decide) ?_
      refine g_icmp_ge h 7 40 (gRi (by omega)) (gRi (by omega)) dX7_blocks_7 (by decide) (fun h1 => ?_) (fun h1 => ?_)
      · exact J3 (Int.not_lt.mpr h1)
      · exact J2 h1
  exact J7 _ _ _ _ (by omega) (by omega) hF
-- Pagewright.canBeBlock
def FX7_canBeBlock (a_space a_first : Int) (s : S2) : Option (Int × S2) :=
  rgd 0 1 <| gd (0 ≤ a_space ∧ a_space ≤ 5) <| gd (0 ≤ a_first ∧ a_first ≤ 28) <| if (a_first < 0) ∨ (32 < a_first + 4) then some (0, s) else gl1 1000 (fun k1 (x_i1 : Int) (s1 : S2) => if x_i1 < a_first + 4 then gd (0 ≤ 32 * a_space + x_i1 ∧ 32 * a_space + x_i1 ≤ 191) <| if (((s1 4 (32 * a_space + x_i1) ≠ (-1)) ∨ (s1 9 (32 * a_space + x_i1) < 0)) ∨ (¬ ((s1 15 (s1 9 (32 * a_space + x_i1)) = 1) ∧ (¬ (s1 22 (s1 9 (32 * a_space + x_i1)) ≠ 0))))) ∨ (s1 20 (s1 9 (32 * a_space + x_i1)) ≠ 1) then some (0, s1) else if (a_first < x_i1) ∧ (¬ (((((((s1 2 (32 * a_space + x_i1) ≠ 0) ∧ (s1 2 (32 * a_space + (x_i1 - 1)) ≠ 0)) ∧ (s1 3 (32 * a_space + x_i1) = s1 3 (32 * a_space + (x_i1 - 1)))) ∧ (s1 4 (32 * a_space + x_i1) = s1 4 (32 * a_space + (x_i1 - 1)))) ∧ (s1 6 (32 * a_space + x_i1) = s1 6 (32 * a_space + (x_i1 - 1)))) ∧ (s1 7 (32 * a_space + x_i1) = s1 7 (32 * a_space + (x_i1 - 1)))) ∧ ((s1 4 (32 * a_space + x_i1) = (-1)) ∨ (s1 5 (32 * a_space + x_i1) = (s1 5 (32 * a_space + (x_i1 - 1))) + 1)))) then some (0, s1) else k1 (x_i1 + 1) s1 else some (1, s1)) a_first s
theorem rgX7_canBeBlock {a_space a_first : Int} {s s0 : S2} {r0 : Int} (hF : FX7_canBeBlock a_space a_first s = some (r0, s0)) : 0 ≤ r0 ∧ r0 ≤ 1 := (rgd_some hF).2
set_option maxRecDepth 100000 in
set_option maxHeartbeats 4000000 in
theorem ctX7_canBeBlock {l : Launch} {w : gW} {bs : Nat} (hl : l.stackTraces = false) {a_space a_first : Int} {s m s0 : S2} {r0 : Int} (hF : FX7_canBeBlock a_space a_first s = some (r0, s0)) : gMet l w bs yX7_canBeBlock cX7_canBeBlock 5 (some FieldType.boolean) 1 0 [(8, a_space), (0, a_first)] (s, m) 0 (some (0, r0)) (s0, m) := by
  unfold FX7_canBeBlock at hF
  obtain ⟨hF, hr⟩ := rgd_some hF
  obtain ⟨q_a_space, hF⟩ := gd_some hF
  obtain ⟨q_a_first, hF⟩ := gd_some hF
  refine g_start hl (by decide) (Nat.le_of_ble_eq_true rfl) rfl fun X h hE => ?_
  have h : gOk X "Pagewright" cX7_canBeBlock 5 1 0 0 := h
  have hE : gEnd X l w bs 0 (some FieldType.boolean) 0 (some (0, r0)) (s0, m) := hE
  show G X 0 0 0 [(8, a_space), (0, a_first), (1, 0), (1, 0), (1, 0)] [] (s, m)
  have J1 : (a_first < 0) ∨ (32 < a_first + 4) → G X 0 0 12 [(8, a_space), (0, a_first), (1, 0), (1, 0), (1, 0)] [] (s, m) := by
    intro h3
    have hF := ite_t h3 hF
    refine g_iconst h 12 dX7_canBeBlock_12 ?_
    obtain ⟨e1, e2⟩ := some_2 hF
    rw [← e1, ← e2] at hE
    exact g_iret h 13 dX7_canBeBlock_13 hE rfl (g_nb (by rw [← e1] at hr; exact hr)) ⟨(Nat.le_of_ble_eq_true rfl), (Nat.le_of_ble_eq_true rfl)⟩
  have J2 : ¬ ((a_first < 0) ∨ (32 < a_first + 4)) → G X 0 0 14 [(8, a_space), (0, a_first), (1, 0), (1, 0), (1, 0)] [] (s, m) := by
    intro h4
    have hF := ite_f h4 hF
    refine g_iload_n h 14 dX7_canBeBlock_14 rfl ?_
    refine g_istore_n h 15 dX7_canBeBlock_15 (Nat.le_of_ble_eq_true rfl) rfl (L' := [(8, a_space), (0, a_first), (0, a_first), (1, 0), (1, 0)]) rfl ?_
    obtain ⟨f1, ef1, hF⟩ := glx1 hF
    have J10 : ∀ (n1 : Nat) (x_i1 : Int) (s1 : S2), (0 ≤ x_i1 ∧ x_i1 ≤ 32) → gl1 n1 f1 x_i1 s1 = some (r0, s0) → G X 0 0 16 [(8, a_space), (0, a_first), (0, x_i1), (1, 0), (1, 0)] [] (s1, m) := by
      intro n1
      induction n1 with
      | zero => intro x_i1 s1 _ hF; exact (gl1_0 hF).elim
      | succ n1 ih1 =>
        intro x_i1 s1 q1 hF
        obtain ⟨k1, ek1, hF⟩ := glu1 hF ef1
        have J4 : x_i1 < a_first + 4 → G X 0 0 23 [(8, a_space), (0, a_first), (0, x_i1), (1, 0), (1, 0)] [] (s1, m) := by
          intro h6
          have hF := ite_t h6 hF
          refine g_aload_nq h 23 dX7_canBeBlock_23 rfl rfl ?_
          refine gf_Space_entries h 24 dX7_canBeBlock_24 kw_254 (by omega) ?_
          refine g_iload_n h 27 dX7_canBeBlock_27 rfl ?_
          refine al_Space_entries h 28 dX7_canBeBlock_28 (by omega) (by omega) ?_
          refine g_astore_n h 29 dX7_canBeBlock_29 (Nat.le_of_ble_eq_true rfl) rfl (L' := [(8, a_space), (0, a_first), (0, x_i1), (4, 32 * a_space + x_i1), (1, 0)]) rfl ?_
          refine G_typ fun hT_s1 => ?_
          have t1 : (-1) ≤ s1 9 (32 * a_space + x_i1) ∧ s1 9 (32 * a_space + x_i1) ≤ 23 := hT_s1.1 9 (32 * a_space + x_i1)
          obtain ⟨q2, hF⟩ := gd_some hF
          refine g_aload_nq h 30 dX7_canBeBlock_30 rfl rfl ?_
          refine gf_Entry_page h 31 dX7_canBeBlock_31 kw_213 (by omega) ?_
          refine g_astore h 34 dX7_canBeBlock_34 (Nat.le_of_ble_eq_true rfl) rfl (L' := [(8, a_space), (0, a_first), (0, x_i1), (4, 32 * a_space + x_i1), (5, s1 9 (32 * a_space + x_i1))]) rfl ?_
          have t2 : (-1) ≤ s1 4 (32 * a_space + x_i1) ∧ s1 4 (32 * a_space + x_i1) ≤ 2 := hT_s1.1 4 (32 * a_space + x_i1)
          have t3 : 0 ≤ s1 15 (s1 9 (32 * a_space + x_i1)) ∧ s1 15 (s1 9 (32 * a_space + x_i1)) ≤ 2 := hT_s1.1 15 (s1 9 (32 * a_space + x_i1))
          have t4 : 0 ≤ s1 22 (s1 9 (32 * a_space + x_i1)) ∧ s1 22 (s1 9 (32 * a_space + x_i1)) ≤ 1 := hT_s1.1 22 (s1 9 (32 * a_space + x_i1))
          have t5 : 0 ≤ s1 20 (s1 9 (32 * a_space + x_i1)) ∧ s1 20 (s1 9 (32 * a_space + x_i1)) ≤ 192 := hT_s1.1 20 (s1 9 (32 * a_space + x_i1))
          have J6 : (((s1 4 (32 * a_space + x_i1) ≠ (-1)) ∨ (s1 9 (32 * a_space + x_i1) < 0)) ∨ (¬ ((s1 15 (s1 9 (32 * a_space + x_i1)) = 1) ∧ (¬ (s1 22 (s1 9 (32 * a_space + x_i1)) ≠ 0))))) ∨ (s1 20 (s1 9 (32 * a_space + x_i1)) ≠ 1) → G X 0 0 66 [(8, a_space), (0, a_first), (0, x_i1), (4, 32 * a_space + x_i1), (5, s1 9 (32 * a_space + x_i1))] [] (s1, m) := by
            intro h11
            have hF := ite_t h11 hF
            refine g_iconst h 66 dX7_canBeBlock_66 ?_
            obtain ⟨e1, e2⟩ := some_2 hF
            rw [← e1, ← e2] at hE
            exact g_iret h 67 dX7_canBeBlock_67 hE rfl (g_nb (by rw [← e1] at hr; exact hr)) ⟨(Nat.le_of_ble_eq_true rfl), (Nat.le_of_ble_eq_true rfl)⟩
          have J7 : ¬ ((((s1 4 (32 * a_space + x_i1) ≠ (-1)) ∨ (s1 9 (32 * a_space + x_i1) < 0)) ∨ (¬ ((s1 15 (s1 9 (32 * a_space + x_i1)) = 1) ∧ (¬ (s1 22 (s1 9 (32 * a_space + x_i1)) ≠ 0))))) ∨ (s1 20 (s1 9 (32 * a_space + x_i1)) ≠ 1)) → G X 0 0 68 [(8, a_space), (0, a_first), (0, x_i1), (4, 32 * a_space + x_i1), (5, s1 9 (32 * a_space + x_i1))] [] (s1, m) := by
            intro h12
            have hF := ite_f h12 hF
            have t6 : 0 ≤ s1 2 (32 * a_space + x_i1) ∧ s1 2 (32 * a_space + x_i1) ≤ 1 := hT_s1.1 2 (32 * a_space + x_i1)
            have t7 : 0 ≤ s1 2 (32 * a_space + (x_i1 - 1)) ∧ s1 2 (32 * a_space + (x_i1 - 1)) ≤ 1 := hT_s1.1 2 (32 * a_space + (x_i1 - 1))
            have t8 : 0 ≤ s1 3 (32 * a_space + x_i1) ∧ s1 3 (32 * a_space + x_i1) ≤ 3 := hT_s1.1 3 (32 * a_space + x_i1)
            have t9 : 0 ≤ s1 3 (32 * a_space + (x_i1 - 1)) ∧ s1 3 (32 * a_space + (x_i1 - 1)) ≤ 3 := hT_s1.1 3 (32 * a_space + (x_i1 - 1))
            have t10 : (-1) ≤ s1 4 (32 * a_space + (x_i1 - 1)) ∧ s1 4 (32 * a_space + (x_i1 - 1)) ≤ 2 := hT_s1.1 4 (32 * a_space + (x_i1 - 1))
            have t11 : 0 ≤ s1 6 (32 * a_space + x_i1) ∧ s1 6 (32 * a_space + x_i1) ≤ 1 := hT_s1.1 6 (32 * a_space + x_i1)
            have t12 : 0 ≤ s1 6 (32 * a_space + (x_i1 - 1)) ∧ s1 6 (32 * a_space + (x_i1 - 1)) ≤ 1 := hT_s1.1 6 (32 * a_space + (x_i1 - 1))
            have t13 : 0 ≤ s1 7 (32 * a_space + x_i1) ∧ s1 7 (32 * a_space + x_i1) ≤ 1 := hT_s1.1 7 (32 * a_space + x_i1)
            have t14 : 0 ≤ s1 7 (32 * a_space + (x_i1 - 1)) ∧ s1 7 (32 * a_space + (x_i1 - 1)) ≤ 1 := hT_s1.1 7 (32 * a_space + (x_i1 - 1))
            have t15 : 0 ≤ s1 5 (32 * a_space + x_i1) ∧ s1 5 (32 * a_space + x_i1) ≤ 7 := hT_s1.1 5 (32 * a_space + x_i1)
            have t16 : 0 ≤ s1 5 (32 * a_space + (x_i1 - 1)) ∧ s1 5 (32 * a_space + (x_i1 - 1)) ≤ 7 := hT_s1.1 5 (32 * a_space + (x_i1 - 1))
            have J8 : (a_first < x_i1) ∧ (¬ (((((((s1 2 (32 * a_space + x_i1) ≠ 0) ∧ (s1 2 (32 * a_space + (x_i1 - 1)) ≠ 0)) ∧ (s1 3 (32 * a_space + x_i1) = s1 3 (32 * a_space + (x_i1 - 1)))) ∧ (s1 4 (32 * a_space + x_i1) = s1 4 (32 * a_space + (x_i1 - 1)))) ∧ (s1 6 (32 * a_space + x_i1) = s1 6 (32 * a_space + (x_i1 - 1)))) ∧ (s1 7 (32 * a_space + x_i1) = s1 7 (32 * a_space + (x_i1 - 1)))) ∧ ((s1 4 (32 * a_space + x_i1) = (-1)) ∨ (s1 5 (32 * a_space + x_i1) = (s1 5 (32 * a_space + (x_i1 - 1))) + 1)))) → G X 0 0 88 [(8, a_space), (0, a_first), (0, x_i1), (4, 32 * a_space + x_i1), (5, s1 9 (32 * a_space + x_i1))] [] (s1, m) := by
              intro h15
              have hF := ite_t h15 hF
              refine g_iconst h 88 dX7_canBeBlock_88 ?_
              obtain ⟨e1, e2⟩ := some_2 hF
              rw [← e1, ← e2] at hE
              exact g_iret h 89 dX7_canBeBlock_89 hE rfl (g_nb (by rw [← e1] at hr; exact hr)) ⟨(Nat.le_of_ble_eq_true rfl), (Nat.le_of_ble_eq_true rfl)⟩
            have J9 : ¬ ((a_first < x_i1) ∧ (¬ (((((((s1 2 (32 * a_space + x_i1) ≠ 0) ∧ (s1 2 (32 * a_space + (x_i1 - 1)) ≠ 0)) ∧ (s1 3 (32 * a_space + x_i1) = s1 3 (32 * a_space + (x_i1 - 1)))) ∧ (s1 4 (32 * a_space + x_i1) = s1 4 (32 * a_space + (x_i1 - 1)))) ∧ (s1 6 (32 * a_space + x_i1) = s1 6 (32 * a_space + (x_i1 - 1)))) ∧ (s1 7 (32 * a_space + x_i1) = s1 7 (32 * a_space + (x_i1 - 1)))) ∧ ((s1 4 (32 * a_space + x_i1) = (-1)) ∨ (s1 5 (32 * a_space + x_i1) = (s1 5 (32 * a_space + (x_i1 - 1))) + 1))))) → G X 0 0 90 [(8, a_space), (0, a_first), (0, x_i1), (4, 32 * a_space + x_i1), (5, s1 9 (32 * a_space + x_i1))] [] (s1, m) := by
              intro h16
              have hF := ite_f h16 hF
              refine g_iinc h 90 dX7_canBeBlock_90 rfl rfl (L' := [(8, a_space), (0, a_first), (0, x_i1 + 1), (4, 32 * a_space + x_i1), (5, s1 9 (32 * a_space + x_i1))]) rfl ?_
              refine g_goto h 93 16 dX7_canBeBlock_93 (by decide) ?_
              refine G_weak (L' := [(8, a_space), (0, a_first), (0, x_i1 + 1), (1, 0), (1, 0)]) ⟨Or.inr rfl, Or.inr rfl, Or.inr rfl, Or.inl rfl, Or.inl rfl, trivial⟩ ?_
              rw [ek1] at hF
              exact ih1 _ _ (by omega) hF
            refine g_iload_n h 68 dX7_canBeBlock_68 rfl ?_
            refine g_iload_n h 69 dX7_canBeBlock_69 rfl ?_
            refine g_icmp_le h 70 90 (gRi (by omega)) (gRi (by omega)) dX7_canBeBlock_70 (by decide) (fun h13 => ?_) (fun h13 => ?_)
            · exact J9 (fun q => (Int.not_lt.mpr h13) q.1)
            · refine g_aload_nq h 73 dX7_canBeBlock_73 rfl rfl ?_
              refine g_aload_nq h 74 dX7_canBeBlock_74 rfl rfl ?_
              refine gf_Space_entries h 75 dX7_canBeBlock_75 kw_254 (by omega) ?_
              refine g_iload_n h 78 dX7_canBeBlock_78 rfl ?_
              refine g_iconst h 79 dX7_canBeBlock_79 ?_
              refine g_isub h 80 dX7_canBeBlock_80 ?_
              refine al_Space_entries h 81 dX7_canBeBlock_81 (by omega) (by omega) ?_
              refine g_callV h hE 82 dX7_canBeBlock_82 (cpX1_continues (a_this := 32 * a_space + x_i1) (a_below := 32 * a_space + (x_i1 - 1)) hl (by omega) (by omega)) mwX1_continues kw_898 (by decide) (show _ ∧ _ < (192 : Int) by omega) rfl (Nat.le_of_ble_eq_true rfl) rfl (Nat.le_of_ble_eq_true rfl) ⟨Nat.le_of_ble_eq_true rfl, Nat.le_of_ble_eq_true rfl⟩ rfl rfl ?_
              show G X 0 0 85 [(8, a_space), (0, a_first), (0, x_i1), (4, 32 * a_space + x_i1), (5, s1 9 (32 * a_space + x_i1))] [(0, (if ((((((s1 2 (32 * a_space + x_i1) ≠ 0) ∧ (s1 2 (32 * a_space + (x_i1 - 1)) ≠ 0)) ∧ (s1 3 (32 * a_space + x_i1) = s1 3 (32 * a_space + (x_i1 - 1)))) ∧ (s1 4 (32 * a_space + x_i1) = s1 4 (32 * a_space + (x_i1 - 1)))) ∧ (s1 6 (32 * a_space + x_i1) = s1 6 (32 * a_space + (x_i1 - 1)))) ∧ (s1 7 (32 * a_space + x_i1) = s1 7 (32 * a_space + (x_i1 - 1)))) ∧ ((s1 4 (32 * a_space + x_i1) = (-1)) ∨ (s1 5 (32 * a_space + x_i1) = (s1 5 (32 * a_space + (x_i1 - 1))) + 1)) then 1 else 0 : Int))] (s1, m)
              refine g_if_ne h 85 90 (gRi gR_ite) dX7_canBeBlock_85 (by decide) (fun h14 => ?_) (fun h14 => ?_)
              · exact J9 (fun q => (fun q => q (iz_t h14)) q.2)
              · exact J8 ⟨h13, (iz_f h14)⟩
          refine g_aload_nq h 36 dX7_canBeBlock_36 rfl rfl ?_
          refine gf_Entry_file h 37 dX7_canBeBlock_37 kw_200 (by omega) ?_
          refine g_iconst h 40 dX7_canBeBlock_40 ?_
          refine g_icmp_ne h 41 66 (gRi (by omega)) (gRi (by omega)) dX7_canBeBlock_41 (by decide) (fun h7 => ?_) (fun h7 => ?_)
          · exact J6 (Or.inl (Or.inl (Or.inl h7)))
          · refine g_aloadq h 44 dX7_canBeBlock_44 rfl rfl ?_
            refine g_ifnull h 46 66 dX7_canBeBlock_46 (by decide) (fun h8 => ?_) (fun h8 => ?_)
            · exact J6 (Or.inl (Or.inl (Or.inr h8)))
            · refine g_aloadq h 49 dX7_canBeBlock_49 rfl rfl ?_
              refine g_callV h hE 51 dX7_canBeBlock_51 (cpX2_isMergeable (a_this := s1 9 (32 * a_space + x_i1)) hl (by omega)) mwX2_isMergeable kw_894 (by decide) (show _ ∧ _ < (24 : Int) by omega) rfl (Nat.le_of_ble_eq_true rfl) rfl (Nat.le_of_ble_eq_true rfl) ⟨Nat.le_of_ble_eq_true rfl, Nat.le_of_ble_eq_true rfl⟩ rfl rfl ?_
              show G X 0 0 54 [(8, a_space), (0, a_first), (0, x_i1), (4, 32 * a_space + x_i1), (5, s1 9 (32 * a_space + x_i1))] [(0, (if (s1 15 (s1 9 (32 * a_space + x_i1)) = 1) ∧ (¬ (s1 22 (s1 9 (32 * a_space + x_i1)) ≠ 0)) then 1 else 0 : Int))] (s1, m)
              refine g_if_eq h 54 66 (gRi gR_ite) dX7_canBeBlock_54 (by decide) (fun h9 => ?_) (fun h9 => ?_)
              · exact J6 (Or.inl (Or.inr (iz_f h9)))
              · refine g_aloadq h 57 dX7_canBeBlock_57 rfl rfl ?_
                refine gf_Page_holders h 59 dX7_canBeBlock_59 kw_294 (by omega) ?_
                refine g_iconst h 62 dX7_canBeBlock_62 ?_
                refine g_icmp_eq h 63 68 (gRi (by omega)) (gRi (by omega)) dX7_canBeBlock_63 (by decide) (fun h10 => ?_) (fun h10 => ?_)
                · exact J7 (fun q => q.elim (fun q => q.elim (fun q => q.elim (fun q => q h7) (Int.not_lt.mpr h8)) (fun q => q (iz_t h9))) (fun q => q h10))
                · exact J6 (Or.inr h10)
        have J5 : ¬ (x_i1 < a_first + 4) → G X 0 0 96 [(8, a_space), (0, a_first), (0, x_i1), (1, 0), (1, 0)] [] (s1, m) := by
          intro h17
          have hF := ite_f h17 hF
          refine g_iconst h 96 dX7_canBeBlock_96 ?_
          obtain ⟨e1, e2⟩ := some_2 hF
          rw [← e1, ← e2] at hE
          exact g_iret h 97 dX7_canBeBlock_97 hE rfl (g_nb (by rw [← e1] at hr; exact hr)) ⟨(Nat.le_of_ble_eq_true rfl), (Nat.le_of_ble_eq_true rfl)⟩
        refine g_iload_n h 16 dX7_canBeBlock_16 rfl ?_
        refine g_iload_n h 17 dX7_canBeBlock_17 rfl ?_
        refine g_iconst h 18 dX7_canBeBlock_18 ?_
        refine g_iadd h 19 dX7_canBeBlock_19 ?_
        refine g_icmp_ge h 20 96 (gRi (by omega)) (gRi (by omega)) dX7_canBeBlock_20 (by decide) (fun h5 => ?_) (fun h5 => ?_)
        · exact J5 (Int.not_lt.mpr h5)
        · exact J4 h5
    exact J10 _ _ _ (by omega) hF
  refine g_iload_n h 0 dX7_canBeBlock_0 rfl ?_
  refine g_if_lt h 1 12 (gRi (by omega)) dX7_canBeBlock_1 (by decide) (fun h1 => ?_) (fun h1 => ?_)
  · exact J1 (Or.inl h1)
  · refine g_iload_n h 4 dX7_canBeBlock_4 rfl ?_
    refine g_iconst h 5 dX7_canBeBlock_5 ?_
    refine g_iadd h 6 dX7_canBeBlock_6 ?_
    refine g_bipush h 7 dX7_canBeBlock_7 (by decide) ?_
    refine g_icmp_le h 9 14 (gRi (by omega)) (gRi (by omega)) dX7_canBeBlock_9 (by decide) (fun h2 => ?_) (fun h2 => ?_)
    · exact J2 (fun q => q.elim (Int.not_lt.mpr h1) (Int.not_lt.mpr h2))
    · exact J1 (Or.inr h2)
-- Pagewright.firstMember
def FX7_firstMember (a_list a_group : Int) (s : S2) : Option (Int × S2) :=
  rgd (-1) 23 <| gd (0 ≤ a_list ∧ a_list ≤ 1) <| gd ((-1) ≤ a_group ∧ a_group ≤ 2) <| gl2 1000 (fun k1 (x_first1 : Int) (x_i_page1 : Int) (s1 : S2) => if x_i_page1 < 24 then bn (fun (x_first2 : Int) (s2 : S2) => k1 x_first2 (x_i_page1 + 1) s2) fun k2 => gd ((((s1 15 x_i_page1 ≠ 0) ∧ (s1 17 x_i_page1 = a_list)) ∧ ((a_group = (-1)) ∨ (s1 21 x_i_page1 = a_group))) ∧ (¬ (x_first1 < 0)) → (-2147483648) ≤ s1 18 x_i_page1 ∧ s1 18 x_i_page1 ≤ 2147483647) <| gd ((((s1 15 x_i_page1 ≠ 0) ∧ (s1 17 x_i_page1 = a_list)) ∧ ((a_group = (-1)) ∨ (s1 21 x_i_page1 = a_group))) ∧ (¬ (x_first1 < 0)) → (-2147483648) ≤ s1 18 x_first1 ∧ s1 18 x_first1 ≤ 2147483647) <| if (((s1 15 x_i_page1 ≠ 0) ∧ (s1 17 x_i_page1 = a_list)) ∧ ((a_group = (-1)) ∨ (s1 21 x_i_page1 = a_group))) ∧ ((x_first1 < 0) ∨ (s1 18 x_i_page1 < s1 18 x_first1)) then k2 x_i_page1 s1 else k2 x_first1 s1 else some (x_first1, s1)) (-1) 0 s
theorem rgX7_firstMember {a_list a_group : Int} {s s0 : S2} {r0 : Int} (hF : FX7_firstMember a_list a_group s = some (r0, s0)) : (-1) ≤ r0 ∧ r0 ≤ 23 := (rgd_some hF).2
set_option maxRecDepth 100000 in
set_option maxHeartbeats 4000000 in
theorem ctX7_firstMember {l : Launch} {w : gW} {bs : Nat} (hl : l.stackTraces = false) {a_list a_group : Int} {s m s0 : S2} {r0 : Int} (hF : FX7_firstMember a_list a_group s = some (r0, s0)) : gMet l w bs yX7_firstMember cX7_firstMember 8 (some (FieldType.object "Pagewright$Page")) 1 0 [(10, 0), (0, a_list), (0, a_group)] (s, m) 0 (some (5, r0)) (s0, m) := by
  unfold FX7_firstMember at hF
  obtain ⟨hF, hr⟩ := rgd_some hF
  obtain ⟨q_a_list, hF⟩ := gd_some hF
  obtain ⟨q_a_group, hF⟩ := gd_some hF
  refine g_start hl (by decide) (Nat.le_of_ble_eq_true rfl) rfl fun X h hE => ?_
  have h : gOk X "Pagewright" cX7_firstMember 8 1 0 0 := h
  have hE : gEnd X l w bs 0 (some (FieldType.object "Pagewright$Page")) 0 (some (5, r0)) (s0, m) := hE
  show G X 0 0 0 [(10, 0), (0, a_list), (0, a_group), (1, 0), (1, 0), (1, 0), (1, 0), (1, 0)] [] (s, m)
  refine g_nullq h 0 5 rfl dX7_firstMember_0 ?_
  refine g_astore_n h 1 dX7_firstMember_1 (Nat.le_of_ble_eq_true rfl) rfl (L' := [(10, 0), (0, a_list), (0, a_group), (5, (-1)), (1, 0), (1, 0), (1, 0), (1, 0)]) rfl ?_
  refine g_aload_nq h 2 dX7_firstMember_2 rfl rfl ?_
  refine gf_pages h 3 dX7_firstMember_3 kw_362 ?_
  refine g_astore h 6 dX7_firstMember_6 (Nat.le_of_ble_eq_true rfl) rfl (L' := [(10, 0), (0, a_list), (0, a_group), (5, (-1)), (13, 0), (1, 0), (1, 0), (1, 0)]) rfl ?_
  refine g_aloadq h 8 dX7_firstMember_8 rfl rfl ?_
  refine an_pages h 10 dX7_firstMember_10 ?_
  refine g_istore h 11 dX7_firstMember_11 (Nat.le_of_ble_eq_true rfl) rfl (L' := [(10, 0), (0, a_list), (0, a_group), (5, (-1)), (13, 0), (0, 24), (1, 0), (1, 0)]) rfl ?_
  refine g_iconst h 13 dX7_firstMember_13 ?_
  refine g_istore h 14 dX7_firstMember_14 (Nat.le_of_ble_eq_true rfl) rfl (L' := [(10, 0), (0, a_list), (0, a_group), (5, (-1)), (13, 0), (0, 24), (0, 0), (1, 0)]) rfl ?_
  obtain ⟨f1, ef1, hF⟩ := glx2 hF
  have J7 : ∀ (n1 : Nat) (x_first1 x_i_page1 : Int) (s1 : S2), ((-1) ≤ x_first1 ∧ x_first1 ≤ 23) → (0 ≤ x_i_page1 ∧ x_i_page1 ≤ 24) → gl2 n1 f1 x_first1 x_i_page1 s1 = some (r0, s0) → G X 0 0 16 [(10, 0), (0, a_list), (0, a_group), (5, x_first1), (13, 0), (0, 24), (0, x_i_page1), (1, 0)] [] (s1, m) := by
    intro n1
    induction n1 with
    | zero => intro x_first1 x_i_page1 s1 _ _ hF; exact (gl2_0 hF).elim
    | succ n1 ih1 =>
      intro x_first1 x_i_page1 s1 q1 q2 hF
      obtain ⟨k1, ek1, hF⟩ := glu2 hF ef1
      have J2 : x_i_page1 < 24 → G X 0 0 23 [(10, 0), (0, a_list), (0, a_group), (5, x_first1), (13, 0), (0, 24), (0, x_i_page1), (1, 0)] [] (s1, m) := by
        intro h2
        have hF := ite_t h2 hF
        refine g_aloadq h 23 dX7_firstMember_23 rfl rfl ?_
        refine g_iload h 25 dX7_firstMember_25 rfl ?_
        refine al_pages h 27 dX7_firstMember_27 (by omega) ?_
        refine g_astore h 28 dX7_firstMember_28 (Nat.le_of_ble_eq_true rfl) rfl (L' := [(10, 0), (0, a_list), (0, a_group), (5, x_first1), (13, 0), (0, 24), (0, x_i_page1), (5, x_i_page1)]) rfl ?_
        obtain ⟨k2, ek2, hF⟩ := bn_ex hF
        have J4 : ∀ (x_first2 : Int) (s2 : S2), ((-1) ≤ x_first2 ∧ x_first2 ≤ 23) → k2 x_first2 s2 = some (r0, s0) → G X 0 0 59 [(10, 0), (0, a_list), (0, a_group), (5, x_first2), (13, 0), (0, 24), (0, x_i_page1), (5, x_i_page1)] [] (s2, m) := by
          intro x_first2 s2 q5 hF
          rw [ek2] at hF
          refine g_iinc h 59 dX7_firstMember_59 rfl rfl (L' := [(10, 0), (0, a_list), (0, a_group), (5, x_first2), (13, 0), (0, 24), (0, x_i_page1 + 1), (5, x_i_page1)]) rfl ?_
          refine g_goto h 62 16 dX7_firstMember_62 (by decide) ?_
          refine G_weak (L' := [(10, 0), (0, a_list), (0, a_group), (5, x_first2), (13, 0), (0, 24), (0, x_i_page1 + 1), (1, 0)]) ⟨Or.inr rfl, Or.inr rfl, Or.inr rfl, Or.inr rfl, Or.inr rfl, Or.inr rfl, Or.inr rfl, Or.inl rfl, trivial⟩ ?_
          rw [ek1] at hF
          exact ih1 _ _ _ (by omega) (by omega) hF
        refine G_typ fun hT_s1 => ?_
        have t1 : 0 ≤ s1 15 x_i_page1 ∧ s1 15 x_i_page1 ≤ 2 := hT_s1.1 15 x_i_page1
        have t2 : 0 ≤ s1 17 x_i_page1 ∧ s1 17 x_i_page1 ≤ 1 := hT_s1.1 17 x_i_page1
        have t3 : 0 ≤ s1 21 x_i_page1 ∧ s1 21 x_i_page1 ≤ 2 := hT_s1.1 21 x_i_page1
        obtain ⟨q3, hF⟩ := gd_some hF
        obtain ⟨q4, hF⟩ := gd_some hF
        have J5 : (((s1 15 x_i_page1 ≠ 0) ∧ (s1 17 x_i_page1 = a_list)) ∧ ((a_group = (-1)) ∨ (s1 21 x_i_page1 = a_group))) ∧ ((x_first1 < 0) ∨ (s1 18 x_i_page1 < s1 18 x_first1)) → G X 0 0 56 [(10, 0), (0, a_list), (0, a_group), (5, x_first1), (13, 0), (0, 24), (0, x_i_page1), (5, x_i_page1)] [] (s1, m) := by
          intro h6
          have hF := ite_t h6 hF
          refine g_aloadq h 56 dX7_firstMember_56 rfl rfl ?_
          refine g_astore_n h 58 dX7_firstMember_58 (Nat.le_of_ble_eq_true rfl) rfl (L' := [(10, 0), (0, a_list), (0, a_group), (5, x_i_page1), (13, 0), (0, 24), (0, x_i_page1), (5, x_i_page1)]) rfl ?_
          exact J4 _ _ (by omega) hF
        have J6 : ¬ ((((s1 15 x_i_page1 ≠ 0) ∧ (s1 17 x_i_page1 = a_list)) ∧ ((a_group = (-1)) ∨ (s1 21 x_i_page1 = a_group))) ∧ ((x_first1 < 0) ∨ (s1 18 x_i_page1 < s1 18 x_first1))) → G X 0 0 59 [(10, 0), (0, a_list), (0, a_group), (5, x_first1), (13, 0), (0, 24), (0, x_i_page1), (5, x_i_page1)] [] (s1, m) := by
          intro h7
          have hF := ite_f h7 hF
          exact J4 _ _ (by omega) hF
        refine g_aloadq h 30 dX7_firstMember_30 rfl rfl ?_
        refine g_iload_n h 32 dX7_firstMember_32 rfl ?_
        refine g_iload_n h 33 dX7_firstMember_33 rfl ?_
        refine g_callV h hE 34 dX7_firstMember_34 (cpX2_isMember (a_this := x_i_page1) (a_ofList := a_list) (a_ofGroup := a_group) hl (by omega) (by omega) (by omega)) mwX2_isMember kw_663 (by decide) (show _ ∧ _ < (24 : Int) by omega) rfl (Nat.le_of_ble_eq_true rfl) rfl (Nat.le_of_ble_eq_true rfl) ⟨Nat.le_of_ble_eq_true rfl, Nat.le_of_ble_eq_true rfl⟩ rfl rfl ?_
        show G X 0 0 37 [(10, 0), (0, a_list), (0, a_group), (5, x_first1), (13, 0), (0, 24), (0, x_i_page1), (5, x_i_page1)] [(0, (if ((s1 15 x_i_page1 ≠ 0) ∧ (s1 17 x_i_page1 = a_list)) ∧ ((a_group = (-1)) ∨ (s1 21 x_i_page1 = a_group)) then 1 else 0 : Int))] (s1, m)
        refine g_if_eq h 37 59 (gRi gR_ite) dX7_firstMember_37 (by decide) (fun h3 => ?_) (fun h3 => ?_)
        · exact J6 (fun q => (iz_f h3) q.1)
        · refine g_aload_nq h 40 dX7_firstMember_40 rfl rfl ?_
          refine g_ifnull h 41 56 dX7_firstMember_41 (by decide) (fun h4 => ?_) (fun h4 => ?_)
          · exact J5 ⟨(iz_t h3), (Or.inl h4)⟩
          · refine g_aloadq h 44 dX7_firstMember_44 rfl rfl ?_
            refine gf_Page_turn h 46 dX7_firstMember_46 kw_289 (by omega) ?_
            refine g_aload_nq h 49 dX7_firstMember_49 rfl rfl ?_
            refine gf_Page_turn h 50 dX7_firstMember_50 kw_289 (by omega) ?_
            refine g_icmp_ge h 53 59 (gRi (by omega)) (gRi (by omega)) dX7_firstMember_53 (by decide) (fun h5 => ?_) (fun h5 => ?_)
            · exact J6 (fun q => (fun q => q.elim (Int.not_lt.mpr h4) (Int.not_lt.mpr h5)) q.2)
            · exact J5 ⟨(iz_t h3), (Or.inr h5)⟩
      have J3 : ¬ (x_i_page1 < 24) → G X 0 0 65 [(10, 0), (0, a_list), (0, a_group), (5, x_first1), (13, 0), (0, 24), (0, x_i_page1), (1, 0)] [] (s1, m) := by
        intro h8
        have hF := ite_f h8 hF
        refine g_aload_nq h 65 dX7_firstMember_65 rfl rfl ?_
        obtain ⟨e1, e2⟩ := some_2 hF
        rw [← e1, ← e2] at hE
        exact g_aret h 66 dX7_firstMember_66 hE rfl ⟨(Nat.le_of_ble_eq_true rfl), (Nat.le_of_ble_eq_true rfl)⟩
      refine g_iload h 16 dX7_firstMember_16 rfl ?_
      refine g_iload h 18 dX7_firstMember_18 rfl ?_
      refine g_icmp_ge h 20 65 (gRi (by omega)) (gRi (by omega)) dX7_firstMember_20 (by decide) (fun h1 => ?_) (fun h1 => ?_)
      · exact J3 (Int.not_lt.mpr h1)
      · exact J2 h1
  exact J7 _ _ _ _ (by omega) (by omega) hF
-- Pagewright.isInFile
set_option maxRecDepth 100000 in
theorem cpX7_isInFile {l : Launch} {w : gW} {bs : Nat} (hl : l.stackTraces = false) {a_file a_index : Int} {s m : S2} (q_a_file : (-2147483648) ≤ a_file ∧ a_file ≤ 2147483647) (q_a_index : (-2147483648) ≤ a_index ∧ a_index ≤ 2147483647) : gMet l w bs yX7_isInFile cX7_isInFile 2 (some FieldType.boolean) 1 0 [(0, a_file), (0, a_index)] (s, m) 0 (some (0, (if ((0 ≤ a_file) ∧ (a_file ≤ 2)) ∧ ((0 ≤ a_index) ∧ (a_index ≤ 7)) then 1 else 0 : Int))) (s, m) := by
  refine g_start hl (by decide) (Nat.le_of_ble_eq_true rfl) rfl fun X h hE => ?_
  have h : gOk X "Pagewright" cX7_isInFile 2 1 0 0 := h
  show G X 0 0 0 [(0, a_file), (0, a_index)] [] (s, m)
  suffices J1 : ∀ v1 : Int, v1 = (if ((0 ≤ a_file) ∧ (a_file ≤ 2)) ∧ ((0 ≤ a_index) ∧ (a_index ≤ 7)) then 1 else 0 : Int) → G X 0 0 24 [(0, a_file), (0, a_index)] [(0, v1)] (s, m) by
    have J2 : ((0 ≤ a_file) ∧ (a_file ≤ 2)) ∧ ((0 ≤ a_index) ∧ (a_index ≤ 7)) → G X 0 0 19 [(0, a_file), (0, a_index)] [] (s, m) := by
      intro h3
      refine g_iconst h 19 dX7_isInFile_19 ?_
      refine g_goto h 20 24 dX7_isInFile_20 (by decide) ?_
      exact J1 _ (if_pos h3).symm
    have J3 : ¬ (((0 ≤ a_file) ∧ (a_file ≤ 2)) ∧ ((0 ≤ a_index) ∧ (a_index ≤ 7))) → G X 0 0 23 [(0, a_file), (0, a_index)] [] (s, m) := by
      intro h4
      refine g_iconst h 23 dX7_isInFile_23 ?_
      exact J1 _ (if_neg h4).symm
    refine g_iload_n h 0 dX7_isInFile_0 rfl ?_
    refine g_iconst h 1 dX7_isInFile_1 ?_
    refine g_iconst h 2 dX7_isInFile_2 ?_
    refine g_callS h hE 3 dX7_isInFile_3 (cpX7_within (a_number := a_file) (a_lowest := 0) (a_highest := 2) hl (by omega) (by omega) (by omega)) mwX7_within kw_410 rfl (Nat.le_of_ble_eq_true rfl) rfl (Nat.le_of_ble_eq_true rfl) ⟨Nat.le_of_ble_eq_true rfl, Nat.le_of_ble_eq_true rfl⟩ rfl rfl ?_
    show G X 0 0 6 [(0, a_file), (0, a_index)] [(0, (if (0 ≤ a_file) ∧ (a_file ≤ 2) then 1 else 0 : Int))] (s, m)
    refine g_if_eq h 6 23 (gRi gR_ite) dX7_isInFile_6 (by decide) (fun h1 => ?_) (fun h1 => ?_)
    · exact J3 (fun q => (iz_f h1) q.1)
    · refine g_iload_n h 9 dX7_isInFile_9 rfl ?_
      refine g_iconst h 10 dX7_isInFile_10 ?_
      refine g_bipush h 11 dX7_isInFile_11 (by decide) ?_
      refine g_callS h hE 13 dX7_isInFile_13 (cpX7_within (a_number := a_index) (a_lowest := 0) (a_highest := 7) hl (by omega) (by omega) (by omega)) mwX7_within kw_410 rfl (Nat.le_of_ble_eq_true rfl) rfl (Nat.le_of_ble_eq_true rfl) ⟨Nat.le_of_ble_eq_true rfl, Nat.le_of_ble_eq_true rfl⟩ rfl rfl ?_
      show G X 0 0 16 [(0, a_file), (0, a_index)] [(0, (if (0 ≤ a_index) ∧ (a_index ≤ 7) then 1 else 0 : Int))] (s, m)
      refine g_if_eq h 16 23 (gRi gR_ite) dX7_isInFile_16 (by decide) (fun h2 => ?_) (fun h2 => ?_)
      · exact J3 (fun q => (iz_f h2) q.2)
      · exact J2 ⟨(iz_t h1), (iz_t h2)⟩
  intro v1 e1
  subst e1
  exact g_iret h 24 dX7_isInFile_24 hE rfl (g_nb (by first | omega | (split <;> decide))) ⟨(Nat.le_of_ble_eq_true rfl), (Nat.le_of_ble_eq_true rfl)⟩
-- Pagewright.isSomeToMerge
def FX7_isSomeToMerge (s : S2) : Option (Int × S2) :=
  rgd 0 1 <| gl1 1000 (fun k1 (x_i_space1 : Int) (s1 : S2) => if x_i_space1 < 6 then if (s1 35 x_i_space1 ≠ 0) ∧ (s1 36 x_i_space1 ≠ 0) then some (1, s1) else k1 (x_i_space1 + 1) s1 else some (0, s1)) 0 s
theorem rgX7_isSomeToMerge {s s0 : S2} {r0 : Int} (hF : FX7_isSomeToMerge s = some (r0, s0)) : 0 ≤ r0 ∧ r0 ≤ 1 := (rgd_some hF).2
set_option maxRecDepth 100000 in
set_option maxHeartbeats 4000000 in
theorem ctX7_isSomeToMerge {l : Launch} {w : gW} {bs : Nat} (hl : l.stackTraces = false) {s m s0 : S2} {r0 : Int} (hF : FX7_isSomeToMerge s = some (r0, s0)) : gMet l w bs yX7_isSomeToMerge cX7_isSomeToMerge 5 (some FieldType.boolean) 1 0 [(10, 0)] (s, m) 0 (some (0, r0)) (s0, m) := by
  unfold FX7_isSomeToMerge at hF
  obtain ⟨hF, hr⟩ := rgd_some hF
  refine g_start hl (by decide) (Nat.le_of_ble_eq_true rfl) rfl fun X h hE => ?_
  have h : gOk X "Pagewright" cX7_isSomeToMerge 5 1 0 0 := h
  have hE : gEnd X l w bs 0 (some FieldType.boolean) 0 (some (0, r0)) (s0, m) := hE
  show G X 0 0 0 [(10, 0), (1, 0), (1, 0), (1, 0), (1, 0)] [] (s, m)
  refine g_aload_nq h 0 dX7_isSomeToMerge_0 rfl rfl ?_
  refine gf_spaces h 1 dX7_isSomeToMerge_1 kw_361 ?_
  refine g_astore_n h 4 dX7_isSomeToMerge_4 (Nat.le_of_ble_eq_true rfl) rfl (L' := [(10, 0), (12, 0), (1, 0), (1, 0), (1, 0)]) rfl ?_
  refine g_aload_nq h 5 dX7_isSomeToMerge_5 rfl rfl ?_
  refine an_spaces h 6 dX7_isSomeToMerge_6 ?_
  refine g_istore_n h 7 dX7_isSomeToMerge_7 (Nat.le_of_ble_eq_true rfl) rfl (L' := [(10, 0), (12, 0), (0, 6), (1, 0), (1, 0)]) rfl ?_
  refine g_iconst h 8 dX7_isSomeToMerge_8 ?_
  refine g_istore_n h 9 dX7_isSomeToMerge_9 (Nat.le_of_ble_eq_true rfl) rfl (L' := [(10, 0), (12, 0), (0, 6), (0, 0), (1, 0)]) rfl ?_
  obtain ⟨f1, ef1, hF⟩ := glx1 hF
  have J6 : ∀ (n1 : Nat) (x_i_space1 : Int) (s1 : S2), (0 ≤ x_i_space1 ∧ x_i_space1 ≤ 6) → gl1 n1 f1 x_i_space1 s1 = some (r0, s0) → G X 0 0 10 [(10, 0), (12, 0), (0, 6), (0, x_i_space1), (1, 0)] [] (s1, m) := by
    intro n1
    induction n1 with
    | zero => intro x_i_space1 s1 _ hF; exact (gl1_0 hF).elim
    | succ n1 ih1 =>
      intro x_i_space1 s1 q1 hF
      obtain ⟨k1, ek1, hF⟩ := glu1 hF ef1
      have J2 : x_i_space1 < 6 → G X 0 0 15 [(10, 0), (12, 0), (0, 6), (0, x_i_space1), (1, 0)] [] (s1, m) := by
        intro h2
        have hF := ite_t h2 hF
        refine g_aload_nq h 15 dX7_isSomeToMerge_15 rfl rfl ?_
        refine g_iload_n h 16 dX7_isSomeToMerge_16 rfl ?_
        refine al_spaces h 17 dX7_isSomeToMerge_17 (by omega) ?_
        refine g_astore h 18 dX7_isSomeToMerge_18 (Nat.le_of_ble_eq_true rfl) rfl (L' := [(10, 0), (12, 0), (0, 6), (0, x_i_space1), (8, x_i_space1)]) rfl ?_
        refine G_typ fun hT_s1 => ?_
        have t1 : 0 ≤ s1 35 x_i_space1 ∧ s1 35 x_i_space1 ≤ 1 := hT_s1.1 35 x_i_space1
        have t2 : 0 ≤ s1 36 x_i_space1 ∧ s1 36 x_i_space1 ≤ 1 := hT_s1.1 36 x_i_space1
        have J4 : (s1 35 x_i_space1 ≠ 0) ∧ (s1 36 x_i_space1 ≠ 0) → G X 0 0 28 [(10, 0), (12, 0), (0, 6), (0, x_i_space1), (8, x_i_space1)] [] (s1, m) := by
          intro h4
          have hF := ite_t h4 hF
          refine g_iconst h 28 dX7_isSomeToMerge_28 ?_
          obtain ⟨e1, e2⟩ := some_2 hF
          rw [← e1, ← e2] at hE
          exact g_iret h 29 dX7_isSomeToMerge_29 hE rfl (g_nb (by rw [← e1] at hr; exact hr)) ⟨(Nat.le_of_ble_eq_true rfl), (Nat.le_of_ble_eq_true rfl)⟩
        have J5 : ¬ ((s1 35 x_i_space1 ≠ 0) ∧ (s1 36 x_i_space1 ≠ 0)) → G X 0 0 30 [(10, 0), (12, 0), (0, 6), (0, x_i_space1), (8, x_i_space1)] [] (s1, m) := by
          intro h5
          have hF := ite_f h5 hF
          refine g_iinc h 30 dX7_isSomeToMerge_30 rfl rfl (L' := [(10, 0), (12, 0), (0, 6), (0, x_i_space1 + 1), (8, x_i_space1)]) rfl ?_
          refine g_goto h 33 10 dX7_isSomeToMerge_33 (by decide) ?_
          refine G_weak (L' := [(10, 0), (12, 0), (0, 6), (0, x_i_space1 + 1), (1, 0)]) ⟨Or.inr rfl, Or.inr rfl, Or.inr rfl, Or.inr rfl, Or.inl rfl, trivial⟩ ?_
          rw [ek1] at hF
          exact ih1 _ _ (by omega) hF
        refine g_aloadq h 20 dX7_isSomeToMerge_20 rfl rfl ?_
        refine g_callV h hE 22 dX7_isSomeToMerge_22 (cpX5_isScanned (a_this := x_i_space1) hl (by omega)) mwX5_isScanned kw_921 (by decide) (show _ ∧ _ < (6 : Int) by omega) rfl (Nat.le_of_ble_eq_true rfl) rfl (Nat.le_of_ble_eq_true rfl) ⟨Nat.le_of_ble_eq_true rfl, Nat.le_of_ble_eq_true rfl⟩ rfl rfl ?_
        show G X 0 0 25 [(10, 0), (12, 0), (0, 6), (0, x_i_space1), (8, x_i_space1)] [(0, (if (s1 35 x_i_space1 ≠ 0) ∧ (s1 36 x_i_space1 ≠ 0) then 1 else 0 : Int))] (s1, m)
        refine g_if_eq h 25 30 (gRi gR_ite) dX7_isSomeToMerge_25 (by decide) (fun h3 => ?_) (fun h3 => ?_)
        · exact J5 (iz_f h3)
        · exact J4 (iz_t h3)
      have J3 : ¬ (x_i_space1 < 6) → G X 0 0 36 [(10, 0), (12, 0), (0, 6), (0, x_i_space1), (1, 0)] [] (s1, m) := by
        intro h6
        have hF := ite_f h6 hF
        refine g_iconst h 36 dX7_isSomeToMerge_36 ?_
        obtain ⟨e1, e2⟩ := some_2 hF
        rw [← e1, ← e2] at hE
        exact g_iret h 37 dX7_isSomeToMerge_37 hE rfl (g_nb (by rw [← e1] at hr; exact hr)) ⟨(Nat.le_of_ble_eq_true rfl), (Nat.le_of_ble_eq_true rfl)⟩
      refine g_iload_n h 10 dX7_isSomeToMerge_10 rfl ?_
      refine g_iload_n h 11 dX7_isSomeToMerge_11 rfl ?_
      refine g_icmp_ge h 12 36 (gRi (by omega)) (gRi (by omega)) dX7_isSomeToMerge_12 (by decide) (fun h1 => ?_) (fun h1 => ?_)
      · exact J3 (Int.not_lt.mpr h1)
      · exact J2 h1
  exact J6 _ _ _ (by omega) hF
-- Pagewright.isStretch
set_option maxRecDepth 100000 in
theorem cpX7_isStretch {l : Launch} {w : gW} {bs : Nat} (hl : l.stackTraces = false) {a_from a_count : Int} {s m : S2} (q_a_from : (-2147483648) ≤ a_from ∧ a_from ≤ 2147483647) (q_a_count : (-2147483648) ≤ a_count ∧ a_count ≤ 2147483647) : gMet l w bs yX7_isStretch cX7_isStretch 2 (some FieldType.boolean) 1 0 [(0, a_from), (0, a_count)] (s, m) 0 (some (0, (if ((0 ≤ a_from) ∧ (a_from ≤ 31)) ∧ ((1 ≤ a_count) ∧ (a_count ≤ 32 - a_from)) then 1 else 0 : Int))) (s, m) := by
  refine g_start hl (by decide) (Nat.le_of_ble_eq_true rfl) rfl fun X h hE => ?_
  have h : gOk X "Pagewright" cX7_isStretch 2 1 0 0 := h
  show G X 0 0 0 [(0, a_from), (0, a_count)] [] (s, m)
  suffices J1 : ∀ v1 : Int, v1 = (if ((0 ≤ a_from) ∧ (a_from ≤ 31)) ∧ ((1 ≤ a_count) ∧ (a_count ≤ 32 - a_from)) then 1 else 0 : Int) → G X 0 0 27 [(0, a_from), (0, a_count)] [(0, v1)] (s, m) by
    have J2 : ((0 ≤ a_from) ∧ (a_from ≤ 31)) ∧ ((1 ≤ a_count) ∧ (a_count ≤ 32 - a_from)) → G X 0 0 22 [(0, a_from), (0, a_count)] [] (s, m) := by
      intro h3
      refine g_iconst h 22 dX7_isStretch_22 ?_
      refine g_goto h 23 27 dX7_isStretch_23 (by decide) ?_
      exact J1 _ (if_pos h3).symm
    have J3 : ¬ (((0 ≤ a_from) ∧ (a_from ≤ 31)) ∧ ((1 ≤ a_count) ∧ (a_count ≤ 32 - a_from))) → G X 0 0 26 [(0, a_from), (0, a_count)] [] (s, m) := by
      intro h4
      refine g_iconst h 26 dX7_isStretch_26 ?_
      exact J1 _ (if_neg h4).symm
    refine g_iload_n h 0 dX7_isStretch_0 rfl ?_
    refine g_iconst h 1 dX7_isStretch_1 ?_
    refine g_bipush h 2 dX7_isStretch_2 (by decide) ?_
    refine g_callS h hE 4 dX7_isStretch_4 (cpX7_within (a_number := a_from) (a_lowest := 0) (a_highest := 31) hl (by omega) (by omega) (by omega)) mwX7_within kw_410 rfl (Nat.le_of_ble_eq_true rfl) rfl (Nat.le_of_ble_eq_true rfl) ⟨Nat.le_of_ble_eq_true rfl, Nat.le_of_ble_eq_true rfl⟩ rfl rfl ?_
    show G X 0 0 7 [(0, a_from), (0, a_count)] [(0, (if (0 ≤ a_from) ∧ (a_from ≤ 31) then 1 else 0 : Int))] (s, m)
    refine g_if_eq h 7 26 (gRi gR_ite) dX7_isStretch_7 (by decide) (fun h1 => ?_) (fun h1 => ?_)
    · exact J3 (fun q => (iz_f h1) q.1)
    · refine g_iload_n h 10 dX7_isStretch_10 rfl ?_
      refine g_iconst h 11 dX7_isStretch_11 ?_
      refine g_bipush h 12 dX7_isStretch_12 (by decide) ?_
      refine g_iload_n h 14 dX7_isStretch_14 rfl ?_
      refine g_isub h 15 dX7_isStretch_15 ?_
      refine g_callS h hE 16 dX7_isStretch_16 (cpX7_within (a_number := a_count) (a_lowest := 1) (a_highest := 32 - a_from) hl (by omega) (by omega) (by omega)) mwX7_within kw_410 rfl (Nat.le_of_ble_eq_true rfl) rfl (Nat.le_of_ble_eq_true rfl) ⟨Nat.le_of_ble_eq_true rfl, Nat.le_of_ble_eq_true rfl⟩ rfl rfl ?_
      show G X 0 0 19 [(0, a_from), (0, a_count)] [(0, (if (1 ≤ a_count) ∧ (a_count ≤ 32 - a_from) then 1 else 0 : Int))] (s, m)
      refine g_if_eq h 19 26 (gRi gR_ite) dX7_isStretch_19 (by decide) (fun h2 => ?_) (fun h2 => ?_)
      · exact J3 (fun q => (iz_f h2) q.2)
      · exact J2 ⟨(iz_t h1), (iz_t h2)⟩
  intro v1 e1
  subst e1
  exact g_iret h 27 dX7_isStretch_27 hE rfl (g_nb (by first | omega | (split <;> decide))) ⟨(Nat.le_of_ble_eq_true rfl), (Nat.le_of_ble_eq_true rfl)⟩
-- Pagewright.isTranslated
def FX7_isTranslated (a_frame : Int) (s : S2) : Option (Int × S2) :=
  rgd 0 1 <| gd (0 ≤ a_frame ∧ a_frame ≤ 23) <| gl1 1000 (fun k1 (x_i_cache1 : Int) (s1 : S2) => if x_i_cache1 < 2 then cb (FX0_holds x_i_cache1 a_frame s1) fun r1 s2 => if r1 ≠ 0 then some (1, s2) else k1 (x_i_cache1 + 1) s2 else some (0, s1)) 0 s
theorem rgX7_isTranslated {a_frame : Int} {s s0 : S2} {r0 : Int} (hF : FX7_isTranslated a_frame s = some (r0, s0)) : 0 ≤ r0 ∧ r0 ≤ 1 := (rgd_some hF).2
set_option maxRecDepth 100000 in
set_option maxHeartbeats 4000000 in
theorem ctX7_isTranslated {l : Launch} {w : gW} {bs : Nat} (hl : l.stackTraces = false) {a_frame : Int} {s m s0 : S2} {r0 : Int} (hF : FX7_isTranslated a_frame s = some (r0, s0)) : gMet l w bs yX7_isTranslated cX7_isTranslated 6 (some FieldType.boolean) 1 0 [(10, 0), (0, a_frame)] (s, m) 0 (some (0, r0)) (s0, m) := by
  unfold FX7_isTranslated at hF
  obtain ⟨hF, hr⟩ := rgd_some hF
  obtain ⟨q_a_frame, hF⟩ := gd_some hF
  refine g_start hl (by decide) (Nat.le_of_ble_eq_true rfl) rfl fun X h hE => ?_
  have h : gOk X "Pagewright" cX7_isTranslated 6 1 0 0 := h
  have hE : gEnd X l w bs 0 (some FieldType.boolean) 0 (some (0, r0)) (s0, m) := hE
  show G X 0 0 0 [(10, 0), (0, a_frame), (1, 0), (1, 0), (1, 0), (1, 0)] [] (s, m)
  refine g_aload_nq h 0 dX7_isTranslated_0 rfl rfl ?_
  refine gf_caches h 1 dX7_isTranslated_1 kw_363 ?_
  refine g_astore_n h 4 dX7_isTranslated_4 (Nat.le_of_ble_eq_true rfl) rfl (L' := [(10, 0), (0, a_frame), (14, 0), (1, 0), (1, 0), (1, 0)]) rfl ?_
  refine g_aload_nq h 5 dX7_isTranslated_5 rfl rfl ?_
  refine an_caches h 6 dX7_isTranslated_6 ?_
  refine g_istore_n h 7 dX7_isTranslated_7 (Nat.le_of_ble_eq_true rfl) rfl (L' := [(10, 0), (0, a_frame), (14, 0), (0, 2), (1, 0), (1, 0)]) rfl ?_
  refine g_iconst h 8 dX7_isTranslated_8 ?_
  refine g_istore h 9 dX7_isTranslated_9 (Nat.le_of_ble_eq_true rfl) rfl (L' := [(10, 0), (0, a_frame), (14, 0), (0, 2), (0, 0), (1, 0)]) rfl ?_
  obtain ⟨f1, ef1, hF⟩ := glx1 hF
  have J4 : ∀ (n1 : Nat) (x_i_cache1 : Int) (s1 : S2), (0 ≤ x_i_cache1 ∧ x_i_cache1 ≤ 2) → gl1 n1 f1 x_i_cache1 s1 = some (r0, s0) → G X 0 0 11 [(10, 0), (0, a_frame), (14, 0), (0, 2), (0, x_i_cache1), (1, 0)] [] (s1, m) := by
    intro n1
    induction n1 with
    | zero => intro x_i_cache1 s1 _ hF; exact (gl1_0 hF).elim
    | succ n1 ih1 =>
      intro x_i_cache1 s1 q1 hF
      obtain ⟨k1, ek1, hF⟩ := glu1 hF ef1
      have J2 : x_i_cache1 < 2 → G X 0 0 17 [(10, 0), (0, a_frame), (14, 0), (0, 2), (0, x_i_cache1), (1, 0)] [] (s1, m) := by
        intro h2
        have hF := ite_t h2 hF
        refine g_aload_nq h 17 dX7_isTranslated_17 rfl rfl ?_
        refine g_iload h 18 dX7_isTranslated_18 rfl ?_
        refine al_caches h 20 dX7_isTranslated_20 (by omega) ?_
        refine g_astore h 21 dX7_isTranslated_21 (Nat.le_of_ble_eq_true rfl) rfl (L' := [(10, 0), (0, a_frame), (14, 0), (0, 2), (0, x_i_cache1), (3, x_i_cache1)]) rfl ?_
        refine g_aloadq h 23 dX7_isTranslated_23 rfl rfl ?_
        refine g_iload_n h 25 dX7_isTranslated_25 rfl ?_
        obtain ⟨r1, s2, c1, hF⟩ := cb_some hF
        have t1 : 0 ≤ r1 ∧ r1 ≤ 1 := rgX0_holds c1
        refine g_callV h hE 26 dX7_isTranslated_26 (ctX0_holds hl c1) mwX0_holds kw_782 (by decide) (show _ ∧ _ < (2 : Int) by omega) rfl (Nat.le_of_ble_eq_true rfl) rfl (Nat.le_of_ble_eq_true rfl) ⟨Nat.le_of_ble_eq_true rfl, Nat.le_of_ble_eq_true rfl⟩ rfl rfl ?_
        show G X 0 0 29 [(10, 0), (0, a_frame), (14, 0), (0, 2), (0, x_i_cache1), (3, x_i_cache1)] [(0, r1)] (s2, m)
        refine g_if_eq h 29 34 (gRi (by omega)) dX7_isTranslated_29 (by decide) (fun h3 => ?_) (fun h3 => ?_)
        · have hF := ite_f (fun q => q h3) hF
          refine g_iinc h 34 dX7_isTranslated_34 rfl rfl (L' := [(10, 0), (0, a_frame), (14, 0), (0, 2), (0, x_i_cache1 + 1), (3, x_i_cache1)]) rfl ?_
          refine g_goto h 37 11 dX7_isTranslated_37 (by decide) ?_
          refine G_weak (L' := [(10, 0), (0, a_frame), (14, 0), (0, 2), (0, x_i_cache1 + 1), (1, 0)]) ⟨Or.inr rfl, Or.inr rfl, Or.inr rfl, Or.inr rfl, Or.inr rfl, Or.inl rfl, trivial⟩ ?_
          rw [ek1] at hF
          exact ih1 _ _ (by omega) hF
        · have hF := ite_t h3 hF
          refine g_iconst h 32 dX7_isTranslated_32 ?_
          obtain ⟨e1, e2⟩ := some_2 hF
          rw [← e1, ← e2] at hE
          exact g_iret h 33 dX7_isTranslated_33 hE rfl (g_nb (by rw [← e1] at hr; exact hr)) ⟨(Nat.le_of_ble_eq_true rfl), (Nat.le_of_ble_eq_true rfl)⟩
      have J3 : ¬ (x_i_cache1 < 2) → G X 0 0 40 [(10, 0), (0, a_frame), (14, 0), (0, 2), (0, x_i_cache1), (1, 0)] [] (s1, m) := by
        intro h4
        have hF := ite_f h4 hF
        refine g_iconst h 40 dX7_isTranslated_40 ?_
        obtain ⟨e1, e2⟩ := some_2 hF
        rw [← e1, ← e2] at hE
        exact g_iret h 41 dX7_isTranslated_41 hE rfl (g_nb (by rw [← e1] at hr; exact hr)) ⟨(Nat.le_of_ble_eq_true rfl), (Nat.le_of_ble_eq_true rfl)⟩
      refine g_iload h 11 dX7_isTranslated_11 rfl ?_
      refine g_iload_n h 13 dX7_isTranslated_13 rfl ?_
      refine g_icmp_ge h 14 40 (gRi (by omega)) (gRi (by omega)) dX7_isTranslated_14 (by decide) (fun h1 => ?_) (fun h1 => ?_)
      · exact J3 (Int.not_lt.mpr h1)
      · exact J2 h1
  exact J4 _ _ _ (by omega) hF
-- Pagewright.leave
def FX7_leave (a_entry : Int) (s : S2) : Option (Int × S2) :=
  gd (0 ≤ a_entry ∧ a_entry ≤ 191) <| cb (FX1_tellProcessors a_entry s) fun r1 s1 => cb (FX7_setJoined (a_entry / 4) 0 s1) fun r2 s2 => cb (FX1_becomeAbsent a_entry s2) fun r3 s3 => bn (fun (s4 : S2) => bn (fun (s8 : S2) => some (0, s8)) fun k3 => if 0 ≤ s2 11 a_entry then cb (FX4_release (s2 11 a_entry) s4) fun r4 s9 => k3 s9 else k3 s4) fun k1 => if 0 ≤ s2 9 a_entry then gd (0 ≤ (s3 20 (s2 9 a_entry)) - 1 ∧ (s3 20 (s2 9 a_entry)) - 1 ≤ 192) <| bn (upd2 s3 20 (s2 9 a_entry) ((s3 20 (s2 9 a_entry)) - 1)) fun s5 => bn (fun (s6 : S2) => k1 s6) fun k2 => if (s5 15 (s2 9 a_entry) = 1) ∧ (s5 20 (s2 9 a_entry) ≤ 0) then bn (upd2 s5 15 (s2 9 a_entry) 0) fun s7 => k2 s7 else k2 s5 else k1 s3
set_option maxRecDepth 100000 in
set_option maxHeartbeats 4000000 in
theorem ctX7_leave {l : Launch} {w : gW} {bs : Nat} (hl : l.stackTraces = false) {a_entry : Int} {s m s0 : S2} {r0 : Int} (hF : FX7_leave a_entry s = some (r0, s0)) : gMet l w bs yX7_leave cX7_leave 4 none 1 0 [(10, 0), (4, a_entry)] (s, m) 0 none (s0, m) := by
  unfold FX7_leave at hF
  obtain ⟨q_a_entry, hF⟩ := gd_some hF
  refine g_start hl (by decide) (Nat.le_of_ble_eq_true rfl) rfl fun X h hE => ?_
  have h : gOk X "Pagewright" cX7_leave 4 1 0 0 := h
  have hE : gEnd X l w bs 0 none 0 none (s0, m) := hE
  show G X 0 0 0 [(10, 0), (4, a_entry), (1, 0), (1, 0)] [] (s, m)
  refine g_aload_nq h 0 dX7_leave_0 rfl rfl ?_
  obtain ⟨r1, s1, c1, hF⟩ := cb_some hF
  refine g_callV h hE 1 dX7_leave_1 (ctX1_tellProcessors hl c1) mwX1_tellProcessors kw_569 (by decide) (show _ ∧ _ < (192 : Int) by omega) rfl (Nat.le_of_ble_eq_true rfl) rfl (Nat.le_of_ble_eq_true rfl) ⟨Nat.le_of_ble_eq_true rfl, Nat.le_of_ble_eq_true rfl⟩ rfl rfl ?_
  show G X 0 0 4 [(10, 0), (4, a_entry), (1, 0), (1, 0)] [] (s1, m)
  refine g_aload_nq h 4 dX7_leave_4 rfl rfl ?_
  refine g_aload_nq h 5 dX7_leave_5 rfl rfl ?_
  refine gf_Entry_block h 6 dX7_leave_6 kw_191 (by omega) ?_
  refine g_iconst h 9 dX7_leave_9 ?_
  obtain ⟨r2, s2, c2, hF⟩ := cb_some hF
  refine g_callV h hE 10 dX7_leave_10 (ctX7_setJoined hl c2) mwX7_setJoined kw_573 (by decide) (by decide) rfl (Nat.le_of_ble_eq_true rfl) rfl (Nat.le_of_ble_eq_true rfl) ⟨Nat.le_of_ble_eq_true rfl, Nat.le_of_ble_eq_true rfl⟩ rfl rfl ?_
  show G X 0 0 13 [(10, 0), (4, a_entry), (1, 0), (1, 0)] [] (s2, m)
  refine G_typ fun hT_s2 => ?_
  have t1 : (-1) ≤ s2 9 a_entry ∧ s2 9 a_entry ≤ 23 := hT_s2.1 9 a_entry
  refine g_aload_nq h 13 dX7_leave_13 rfl rfl ?_
  refine gf_Entry_page h 14 dX7_leave_14 kw_213 (by omega) ?_
  refine g_astore_n h 17 dX7_leave_17 (Nat.le_of_ble_eq_true rfl) rfl (L' := [(10, 0), (4, a_entry), (5, s2 9 a_entry), (1, 0)]) rfl ?_
  have t2 : (-1) ≤ s2 11 a_entry ∧ s2 11 a_entry ≤ 17 := hT_s2.1 11 a_entry
  refine g_aload_nq h 18 dX7_leave_18 rfl rfl ?_
  refine gf_Entry_record h 19 dX7_leave_19 kw_218 (by omega) ?_
  refine g_astore_n h 22 dX7_leave_22 (Nat.le_of_ble_eq_true rfl) rfl (L' := [(10, 0), (4, a_entry), (5, s2 9 a_entry), (6, s2 11 a_entry)]) rfl ?_
  refine g_aload_nq h 23 dX7_leave_23 rfl rfl ?_
  obtain ⟨r3, s3, c3, hF⟩ := cb_some hF
  refine g_callV h hE 24 dX7_leave_24 (ctX1_becomeAbsent hl c3) mwX1_becomeAbsent kw_577 (by decide) (show _ ∧ _ < (192 : Int) by omega) rfl (Nat.le_of_ble_eq_true rfl) rfl (Nat.le_of_ble_eq_true rfl) ⟨Nat.le_of_ble_eq_true rfl, Nat.le_of_ble_eq_true rfl⟩ rfl rfl ?_
  show G X 0 0 27 [(10, 0), (4, a_entry), (5, s2 9 a_entry), (6, s2 11 a_entry)] [] (s3, m)
  obtain ⟨k1, ek1, hF⟩ := bn_ex hF
  have J1 : ∀ (s4 : S2), k1 s4 = some (r0, s0) → G X 0 0 61 [(10, 0), (4, a_entry), (5, s2 9 a_entry), (6, s2 11 a_entry)] [] (s4, m) := by
    intro s4 hF
    rw [ek1] at hF
    obtain ⟨k3, ek3, hF⟩ := bn_ex hF
    have J7 : ∀ (s8 : S2), k3 s8 = some (r0, s0) → G X 0 0 73 [(10, 0), (4, a_entry), (5, s2 9 a_entry), (6, s2 11 a_entry)] [] (s8, m) := by
      intro s8 hF
      rw [ek3] at hF
      obtain ⟨e1, e2⟩ := some_2 hF
      rw [← e2] at hE
      exact g_vret h 73 dX7_leave_73 hE rfl ⟨(Nat.le_of_ble_eq_true rfl), (Nat.le_of_ble_eq_true rfl)⟩
    have J8 : 0 ≤ s2 11 a_entry → G X 0 0 65 [(10, 0), (4, a_entry), (5, s2 9 a_entry), (6, s2 11 a_entry)] [] (s4, m) := by
      intro h9
      have hF := ite_t h9 hF
      refine g_aload_nq h 65 dX7_leave_65 rfl rfl ?_
      refine gf_records h 66 dX7_leave_66 kw_364 ?_
      refine g_aload_nq h 69 dX7_leave_69 rfl rfl ?_
      obtain ⟨r4, s9, c4, hF⟩ := cb_some hF
      refine g_callV h hE 70 dX7_leave_70 (ctX4_release hl c4) mwX4_release kw_581 (by decide) (by decide) rfl (Nat.le_of_ble_eq_true rfl) rfl (Nat.le_of_ble_eq_true rfl) ⟨Nat.le_of_ble_eq_true rfl, Nat.le_of_ble_eq_true rfl⟩ rfl rfl ?_
      show G X 0 0 73 [(10, 0), (4, a_entry), (5, s2 9 a_entry), (6, s2 11 a_entry)] [] (s9, m)
      exact J7 _ hF
    have J9 : ¬ (0 ≤ s2 11 a_entry) → G X 0 0 73 [(10, 0), (4, a_entry), (5, s2 9 a_entry), (6, s2 11 a_entry)] [] (s4, m) := by
      intro h10
      have hF := ite_f h10 hF
      exact J7 _ hF
    refine g_aload_nq h 61 dX7_leave_61 rfl rfl ?_
    refine g_ifnull h 62 73 dX7_leave_62 (by decide) (fun h8 => ?_) (fun h8 => ?_)
    · exact J9 (Int.not_le.mpr h8)
    · exact J8 h8
  have J2 : 0 ≤ s2 9 a_entry → G X 0 0 31 [(10, 0), (4, a_entry), (5, s2 9 a_entry), (6, s2 11 a_entry)] [] (s3, m) := by
    intro h2
    have hF := ite_t h2 hF
    refine g_aload_nq h 31 dX7_leave_31 rfl rfl ?_
    refine G_typ fun hT_s3 => ?_
    have t3 : 0 ≤ s3 20 (s2 9 a_entry) ∧ s3 20 (s2 9 a_entry) ≤ 192 := hT_s3.1 20 (s2 9 a_entry)
    refine g_dup h 32 dX7_leave_32 (show (5 : Nat) ≠ 2 by decide) ?_
    refine gf_Page_holders h 33 dX7_leave_33 kw_294 (by omega) ?_
    refine g_iconst h 36 dX7_leave_36 ?_
    refine g_isub h 37 dX7_leave_37 ?_
    obtain ⟨q1, hF⟩ := gd_some hF
    obtain ⟨s5, es5, hF⟩ := bn_ex hF
    refine pf_Page_holders h 38 dX7_leave_38 kw_294 (by omega) (by omega) ?_
    rw [← es5]
    obtain ⟨k2, ek2, hF⟩ := bn_ex hF
    have J4 : ∀ (s6 : S2), k2 s6 = some (r0, s0) → G X 0 0 61 [(10, 0), (4, a_entry), (5, s2 9 a_entry), (6, s2 11 a_entry)] [] (s6, m) := by
      intro s6 hF
      rw [ek2] at hF
      exact J1 _ hF
    refine G_typ fun hT_s5 => ?_
    have t4 : 0 ≤ s5 15 (s2 9 a_entry) ∧ s5 15 (s2 9 a_entry) ≤ 2 := hT_s5.1 15 (s2 9 a_entry)
    have t5 : 0 ≤ s5 20 (s2 9 a_entry) ∧ s5 20 (s2 9 a_entry) ≤ 192 := hT_s5.1 20 (s2 9 a_entry)
    have J5 : (s5 15 (s2 9 a_entry) = 1) ∧ (s5 20 (s2 9 a_entry) ≤ 0) → G X 0 0 56 [(10, 0), (4, a_entry), (5, s2 9 a_entry), (6, s2 11 a_entry)] [] (s5, m) := by
      intro h5
      have hF := ite_t h5 hF
      refine g_aload_nq h 56 dX7_leave_56 rfl rfl ?_
      refine g_iconst h 57 dX7_leave_57 ?_
      obtain ⟨s7, es7, hF⟩ := bn_ex hF
      refine pf_Page_kind h 58 dX7_leave_58 kw_284 (by omega) (by omega) ?_
      rw [← es7]
      exact J4 _ hF
    have J6 : ¬ ((s5 15 (s2 9 a_entry) = 1) ∧ (s5 20 (s2 9 a_entry) ≤ 0)) → G X 0 0 61 [(10, 0), (4, a_entry), (5, s2 9 a_entry), (6, s2 11 a_entry)] [] (s5, m) := by
      intro h6
      have hF := ite_f h6 hF
      exact J4 _ hF
    refine g_aload_nq h 41 dX7_leave_41 rfl rfl ?_
    refine gf_Page_kind h 42 dX7_leave_42 kw_284 (by omega) ?_
    refine g_iconst h 45 dX7_leave_45 ?_
    refine g_icmp_ne h 46 61 (gRi (by omega)) (gRi (by omega)) dX7_leave_46 (by decide) (fun h3 => ?_) (fun h3 => ?_)
    · exact J6 (fun q => h3 q.1)
    · refine g_aload_nq h 49 dX7_leave_49 rfl rfl ?_
      refine gf_Page_holders h 50 dX7_leave_50 kw_294 (by omega) ?_
      refine g_if_gt h 53 61 (gRi (by omega)) dX7_leave_53 (by decide) (fun h4 => ?_) (fun h4 => ?_)
      · exact J6 (fun q => (Int.not_le.mpr h4) q.2)
      · exact J5 ⟨h3, h4⟩
  have J3 : ¬ (0 ≤ s2 9 a_entry) → G X 0 0 61 [(10, 0), (4, a_entry), (5, s2 9 a_entry), (6, s2 11 a_entry)] [] (s3, m) := by
    intro h7
    have hF := ite_f h7 hF
    exact J1 _ hF
  refine g_aload_nq h 27 dX7_leave_27 rfl rfl ?_
  refine g_ifnull h 28 61 dX7_leave_28 (by decide) (fun h1 => ?_) (fun h1 => ?_)
  · exact J3 (Int.not_le.mpr h1)
  · exact J2 h1
-- Pagewright.lookedTwin
def FX7_lookedTwin (a_like : Int) (s : S2) : Option (Int × S2) :=
  rgd (-1) 191 <| gd (0 ≤ a_like ∧ a_like ≤ 23) <| gl1 1000 (fun k1 (x_i_space1 : Int) (s1 : S2) => if x_i_space1 < 6 then gl1 1000 (fun k2 (x_i_entry1 : Int) (s2 : S2) => if x_i_entry1 < 32 then gd (0 ≤ 32 * x_i_space1 + x_i_entry1 ∧ 32 * x_i_space1 + x_i_entry1 ≤ 191) <| gd ((0 ≤ (if s2 12 (32 * x_i_space1 + x_i_entry1) ≠ 0 then s2 9 (32 * x_i_space1 + x_i_entry1) else (-1) : Int)) → (-1) ≤ (if s2 12 (32 * x_i_space1 + x_i_entry1) ≠ 0 then s2 9 (32 * x_i_space1 + x_i_entry1) else (-1) : Int) ∧ (if s2 12 (32 * x_i_space1 + x_i_entry1) ≠ 0 then s2 9 (32 * x_i_space1 + x_i_entry1) else (-1) : Int) ≤ 23) <| gd (((0 ≤ (if s2 12 (32 * x_i_space1 + x_i_entry1) ≠ 0 then s2 9 (32 * x_i_space1 + x_i_entry1) else (-1) : Int)) ∧ ((if s2 12 (32 * x_i_space1 + x_i_entry1) ≠ 0 then s2 9 (32 * x_i_space1 + x_i_entry1) else (-1) : Int) ≠ a_like)) → 0 ≤ (if s2 12 (32 * x_i_space1 + x_i_entry1) ≠ 0 then s2 9 (32 * x_i_space1 + x_i_entry1) else (-1) : Int) ∧ (if s2 12 (32 * x_i_space1 + x_i_entry1) ≠ 0 then s2 9 (32 * x_i_space1 + x_i_entry1) else (-1) : Int) ≤ 23) <| gd ((((0 ≤ (if s2 12 (32 * x_i_space1 + x_i_entry1) ≠ 0 then s2 9 (32 * x_i_space1 + x_i_entry1) else (-1) : Int)) ∧ ((if s2 12 (32 * x_i_space1 + x_i_entry1) ≠ 0 then s2 9 (32 * x_i_space1 + x_i_entry1) else (-1) : Int) ≠ a_like)) ∧ ((s2 15 (if s2 12 (32 * x_i_space1 + x_i_entry1) ≠ 0 then s2 9 (32 * x_i_space1 + x_i_entry1) else (-1) : Int) = 1) ∧ (¬ (s2 22 (if s2 12 (32 * x_i_space1 + x_i_entry1) ≠ 0 then s2 9 (32 * x_i_space1 + x_i_entry1) else (-1) : Int) ≠ 0)))) → 0 ≤ (if s2 12 (32 * x_i_space1 + x_i_entry1) ≠ 0 then s2 9 (32 * x_i_space1 + x_i_entry1) else (-1) : Int) ∧ (if s2 12 (32 * x_i_space1 + x_i_entry1) ≠ 0 then s2 9 (32 * x_i_space1 + x_i_entry1) else (-1) : Int) ≤ 23) <| if (((0 ≤ (if s2 12 (32 * x_i_space1 + x_i_entry1) ≠ 0 then s2 9 (32 * x_i_space1 + x_i_entry1) else (-1) : Int)) ∧ ((if s2 12 (32 * x_i_space1 + x_i_entry1) ≠ 0 then s2 9 (32 * x_i_space1 + x_i_entry1) else (-1) : Int) ≠ a_like)) ∧ ((s2 15 (if s2 12 (32 * x_i_space1 + x_i_entry1) ≠ 0 then s2 9 (32 * x_i_space1 + x_i_entry1) else (-1) : Int) = 1) ∧ (¬ (s2 22 (if s2 12 (32 * x_i_space1 + x_i_entry1) ≠ 0 then s2 9 (32 * x_i_space1 + x_i_entry1) else (-1) : Int) ≠ 0)))) ∧ (s2 16 (if s2 12 (32 * x_i_space1 + x_i_entry1) ≠ 0 then s2 9 (32 * x_i_space1 + x_i_entry1) else (-1) : Int) = s2 16 a_like) then some (32 * x_i_space1 + x_i_entry1, s2) else k2 (x_i_entry1 + 1) s2 else k1 (x_i_space1 + 1) s2) 0 s1 else some ((-1), s1)) 0 s
theorem rgX7_lookedTwin {a_like : Int} {s s0 : S2} {r0 : Int} (hF : FX7_lookedTwin a_like s = some (r0, s0)) : (-1) ≤ r0 ∧ r0 ≤ 191 := (rgd_some hF).2
set_option maxRecDepth 100000 in
set_option maxHeartbeats 4000000 in
theorem ctX7_lookedTwin {l : Launch} {w : gW} {bs : Nat} (hl : l.stackTraces = false) {a_like : Int} {s m s0 : S2} {r0 : Int} (hF : FX7_lookedTwin a_like s = some (r0, s0)) : gMet l w bs yX7_lookedTwin cX7_lookedTwin 11 (some (FieldType.object "Pagewright$Entry")) 1 0 [(10, 0), (5, a_like)] (s, m) 0 (some (4, r0)) (s0, m) := by
  unfold FX7_lookedTwin at hF
  obtain ⟨hF, hr⟩ := rgd_some hF
  obtain ⟨q_a_like, hF⟩ := gd_some hF
  refine g_start hl (by decide) (Nat.le_of_ble_eq_true rfl) rfl fun X h hE => ?_
  have h : gOk X "Pagewright" cX7_lookedTwin 11 1 0 0 := h
  have hE : gEnd X l w bs 0 (some (FieldType.object "Pagewright$Entry")) 0 (some (4, r0)) (s0, m) := hE
  show G X 0 0 0 [(10, 0), (5, a_like), (1, 0), (1, 0), (1, 0), (1, 0), (1, 0), (1, 0), (1, 0), (1, 0), (1, 0)] [] (s, m)
  refine g_aload_nq h 0 dX7_lookedTwin_0 rfl rfl ?_
  refine gf_spaces h 1 dX7_lookedTwin_1 kw_361 ?_
  refine g_astore_n h 4 dX7_lookedTwin_4 (Nat.le_of_ble_eq_true rfl) rfl (L' := [(10, 0), (5, a_like), (12, 0), (1, 0), (1, 0), (1, 0), (1, 0), (1, 0), (1, 0), (1, 0), (1, 0)]) rfl ?_
  refine g_aload_nq h 5 dX7_lookedTwin_5 rfl rfl ?_
  refine an_spaces h 6 dX7_lookedTwin_6 ?_
  refine g_istore_n h 7 dX7_lookedTwin_7 (Nat.le_of_ble_eq_true rfl) rfl (L' := [(10, 0), (5, a_like), (12, 0), (0, 6), (1, 0), (1, 0), (1, 0), (1, 0), (1, 0), (1, 0), (1, 0)]) rfl ?_
  refine g_iconst h 8 dX7_lookedTwin_8 ?_
  refine g_istore h 9 dX7_lookedTwin_9 (Nat.le_of_ble_eq_true rfl) rfl (L' := [(10, 0), (5, a_like), (12, 0), (0, 6), (0, 0), (1, 0), (1, 0), (1, 0), (1, 0), (1, 0), (1, 0)]) rfl ?_
  obtain ⟨f1, ef1, hF⟩ := glx1 hF
  have J13 : ∀ (n1 : Nat) (x_i_space1 : Int) (s1 : S2), (0 ≤ x_i_space1 ∧ x_i_space1 ≤ 6) → gl1 n1 f1 x_i_space1 s1 = some (r0, s0) → G X 0 0 11 [(10, 0), (5, a_like), (12, 0), (0, 6), (0, x_i_space1), (1, 0), (1, 0), (1, 0), (1, 0), (1, 0), (1, 0)] [] (s1, m) := by
    intro n1
    induction n1 with
    | zero => intro x_i_space1 s1 _ hF; exact (gl1_0 hF).elim
    | succ n1 ih1 =>
      intro x_i_space1 s1 q1 hF
      obtain ⟨k1, ek1, hF⟩ := glu1 hF ef1
      have J2 : x_i_space1 < 6 → G X 0 0 17 [(10, 0), (5, a_like), (12, 0), (0, 6), (0, x_i_space1), (1, 0), (1, 0), (1, 0), (1, 0), (1, 0), (1, 0)] [] (s1, m) := by
        intro h2
        have hF := ite_t h2 hF
        refine g_aload_nq h 17 dX7_lookedTwin_17 rfl rfl ?_
        refine g_iload h 18 dX7_lookedTwin_18 rfl ?_
        refine al_spaces h 20 dX7_lookedTwin_20 (by omega) ?_
        refine g_astore h 21 dX7_lookedTwin_21 (Nat.le_of_ble_eq_true rfl) rfl (L' := [(10, 0), (5, a_like), (12, 0), (0, 6), (0, x_i_space1), (8, x_i_space1), (1, 0), (1, 0), (1, 0), (1, 0), (1, 0)]) rfl ?_
        refine g_aloadq h 23 dX7_lookedTwin_23 rfl rfl ?_
        refine gf_Space_entries h 25 dX7_lookedTwin_25 kw_254 (by omega) ?_
        refine g_astore h 28 dX7_lookedTwin_28 (Nat.le_of_ble_eq_true rfl) rfl (L' := [(10, 0), (5, a_like), (12, 0), (0, 6), (0, x_i_space1), (8, x_i_space1), (20, x_i_space1), (1, 0), (1, 0), (1, 0), (1, 0)]) rfl ?_
        refine g_aloadq h 30 dX7_lookedTwin_30 rfl rfl ?_
        refine an_Space_entries h 32 dX7_lookedTwin_32 (by omega) ?_
        refine g_istore h 33 dX7_lookedTwin_33 (Nat.le_of_ble_eq_true rfl) rfl (L' := [(10, 0), (5, a_like), (12, 0), (0, 6), (0, x_i_space1), (8, x_i_space1), (20, x_i_space1), (0, 32), (1, 0), (1, 0), (1, 0)]) rfl ?_
        refine g_iconst h 35 dX7_lookedTwin_35 ?_
        refine g_istore h 36 dX7_lookedTwin_36 (Nat.le_of_ble_eq_true rfl) rfl (L' := [(10, 0), (5, a_like), (12, 0), (0, 6), (0, x_i_space1), (8, x_i_space1), (20, x_i_space1), (0, 32), (0, 0), (1, 0), (1, 0)]) rfl ?_
        obtain ⟨f2, ef2, hF⟩ := glx1 hF
        have J12 : ∀ (n2 : Nat) (x_i_entry1 : Int) (s2 : S2), (0 ≤ x_i_entry1 ∧ x_i_entry1 ≤ 32) → gl1 n2 f2 x_i_entry1 s2 = some (r0, s0) → G X 0 0 38 [(10, 0), (5, a_like), (12, 0), (0, 6), (0, x_i_space1), (8, x_i_space1), (20, x_i_space1), (0, 32), (0, x_i_entry1), (1, 0), (1, 0)] [] (s2, m) := by
          intro n2
          induction n2 with
          | zero => intro x_i_entry1 s2 _ hF; exact (gl1_0 hF).elim
          | succ n2 ih2 =>
            intro x_i_entry1 s2 q2 hF
            obtain ⟨k2, ek2, hF⟩ := glu1 hF ef2
            have J5 : x_i_entry1 < 32 → G X 0 0 45 [(10, 0), (5, a_like), (12, 0), (0, 6), (0, x_i_space1), (8, x_i_space1), (20, x_i_space1), (0, 32), (0, x_i_entry1), (1, 0), (1, 0)] [] (s2, m) := by
              intro h4
              have hF := ite_t h4 hF
              refine g_aloadq h 45 dX7_lookedTwin_45 rfl rfl ?_
              refine g_iload h 47 dX7_lookedTwin_47 rfl ?_
              refine al_Space_entries h 49 dX7_lookedTwin_49 (by omega) (by omega) ?_
              refine g_astore h 50 dX7_lookedTwin_50 (Nat.le_of_ble_eq_true rfl) rfl (L' := [(10, 0), (5, a_like), (12, 0), (0, 6), (0, x_i_space1), (8, x_i_space1), (20, x_i_space1), (0, 32), (0, x_i_entry1), (4, 32 * x_i_space1 + x_i_entry1), (1, 0)]) rfl ?_
              refine G_typ fun hT_s2 => ?_
              have t1 : 0 ≤ s2 12 (32 * x_i_space1 + x_i_entry1) ∧ s2 12 (32 * x_i_space1 + x_i_entry1) ≤ 1 := hT_s2.1 12 (32 * x_i_space1 + x_i_entry1)
              have t2 : (-1) ≤ s2 9 (32 * x_i_space1 + x_i_entry1) ∧ s2 9 (32 * x_i_space1 + x_i_entry1) ≤ 23 := hT_s2.1 9 (32 * x_i_space1 + x_i_entry1)
              obtain ⟨q3, hF⟩ := gd_some hF
              suffices J7 : ∀ v1 : Int, v1 = (if s2 12 (32 * x_i_space1 + x_i_entry1) ≠ 0 then s2 9 (32 * x_i_space1 + x_i_entry1) else (-1) : Int) → G X 0 0 69 [(10, 0), (5, a_like), (12, 0), (0, 6), (0, x_i_space1), (8, x_i_space1), (20, x_i_space1), (0, 32), (0, x_i_entry1), (4, 32 * x_i_space1 + x_i_entry1), (1, 0)] [(5, v1)] (s2, m) by
                have J8 : s2 12 (32 * x_i_space1 + x_i_entry1) ≠ 0 → G X 0 0 60 [(10, 0), (5, a_like), (12, 0), (0, 6), (0, x_i_space1), (8, x_i_space1), (20, x_i_space1), (0, 32), (0, x_i_entry1), (4, 32 * x_i_space1 + x_i_entry1), (1, 0)] [] (s2, m) := by
                  intro h6
                  refine g_aloadq h 60 dX7_lookedTwin_60 rfl rfl ?_
                  refine gf_Entry_page h 62 dX7_lookedTwin_62 kw_213 (by omega) ?_
                  refine g_goto h 65 69 dX7_lookedTwin_65 (by decide) ?_
                  exact J7 _ (if_pos h6).symm
                have J9 : ¬ (s2 12 (32 * x_i_space1 + x_i_entry1) ≠ 0) → G X 0 0 68 [(10, 0), (5, a_like), (12, 0), (0, 6), (0, x_i_space1), (8, x_i_space1), (20, x_i_space1), (0, 32), (0, x_i_entry1), (4, 32 * x_i_space1 + x_i_entry1), (1, 0)] [] (s2, m) := by
                  intro h7
                  refine g_nullq h 68 5 rfl dX7_lookedTwin_68 ?_
                  exact J7 _ (if_neg h7).symm
                refine g_aloadq h 52 dX7_lookedTwin_52 rfl rfl ?_
                refine gf_Entry_looked h 54 dX7_lookedTwin_54 kw_220 (by omega) ?_
                refine g_if_eq h 57 68 (gRi (by omega)) dX7_lookedTwin_57 (by decide) (fun h5 => ?_) (fun h5 => ?_)
                · exact J9 (fun q => q h5)
                · exact J8 h5
              intro v1 e1
              subst e1
              refine g_astore h 69 dX7_lookedTwin_69 (Nat.le_of_ble_eq_true rfl) rfl (L' := [(10, 0), (5, a_like), (12, 0), (0, 6), (0, x_i_space1), (8, x_i_space1), (20, x_i_space1), (0, 32), (0, x_i_entry1), (4, 32 * x_i_space1 + x_i_entry1), (5, (if s2 12 (32 * x_i_space1 + x_i_entry1) ≠ 0 then s2 9 (32 * x_i_space1 + x_i_entry1) else (-1) : Int))]) rfl ?_
              have t3 : 0 ≤ s2 15 (if s2 12 (32 * x_i_space1 + x_i_entry1) ≠ 0 then s2 9 (32 * x_i_space1 + x_i_entry1) else (-1) : Int) ∧ s2 15 (if s2 12 (32 * x_i_space1 + x_i_entry1) ≠ 0 then s2 9 (32 * x_i_space1 + x_i_entry1) else (-1) : Int) ≤ 2 := hT_s2.1 15 (if s2 12 (32 * x_i_space1 + x_i_entry1) ≠ 0 then s2 9 (32 * x_i_space1 + x_i_entry1) else (-1) : Int)
              have t4 : 0 ≤ s2 22 (if s2 12 (32 * x_i_space1 + x_i_entry1) ≠ 0 then s2 9 (32 * x_i_space1 + x_i_entry1) else (-1) : Int) ∧ s2 22 (if s2 12 (32 * x_i_space1 + x_i_entry1) ≠ 0 then s2 9 (32 * x_i_space1 + x_i_entry1) else (-1) : Int) ≤ 1 := hT_s2.1 22 (if s2 12 (32 * x_i_space1 + x_i_entry1) ≠ 0 then s2 9 (32 * x_i_space1 + x_i_entry1) else (-1) : Int)
              have t5 : 0 ≤ s2 16 (if s2 12 (32 * x_i_space1 + x_i_entry1) ≠ 0 then s2 9 (32 * x_i_space1 + x_i_entry1) else (-1) : Int) ∧ s2 16 (if s2 12 (32 * x_i_space1 + x_i_entry1) ≠ 0 then s2 9 (32 * x_i_space1 + x_i_entry1) else (-1) : Int) ≤ 99999 := hT_s2.1 16 (if s2 12 (32 * x_i_space1 + x_i_entry1) ≠ 0 then s2 9 (32 * x_i_space1 + x_i_entry1) else (-1) : Int)
              have t6 : 0 ≤ s2 16 a_like ∧ s2 16 a_like ≤ 99999 := hT_s2.1 16 a_like
              obtain ⟨q4, hF⟩ := gd_some hF
              obtain ⟨q5, hF⟩ := gd_some hF
              obtain ⟨q6, hF⟩ := gd_some hF
              have J10 : (((0 ≤ (if s2 12 (32 * x_i_space1 + x_i_entry1) ≠ 0 then s2 9 (32 * x_i_space1 + x_i_entry1) else (-1) : Int)) ∧ ((if s2 12 (32 * x_i_space1 + x_i_entry1) ≠ 0 then s2 9 (32 * x_i_space1 + x_i_entry1) else (-1) : Int) ≠ a_like)) ∧ ((s2 15 (if s2 12 (32 * x_i_space1 + x_i_entry1) ≠ 0 then s2 9 (32 * x_i_space1 + x_i_entry1) else (-1) : Int) = 1) ∧ (¬ (s2 22 (if s2 12 (32 * x_i_space1 + x_i_entry1) ≠ 0 then s2 9 (32 * x_i_space1 + x_i_entry1) else (-1) : Int) ≠ 0)))) ∧ (s2 16 (if s2 12 (32 * x_i_space1 + x_i_entry1) ≠ 0 then s2 9 (32 * x_i_space1 + x_i_entry1) else (-1) : Int) = s2 16 a_like) → G X 0 0 102 [(10, 0), (5, a_like), (12, 0), (0, 6), (0, x_i_space1), (8, x_i_space1), (20, x_i_space1), (0, 32), (0, x_i_entry1), (4, 32 * x_i_space1 + x_i_entry1), (5, (if s2 12 (32 * x_i_space1 + x_i_entry1) ≠ 0 then s2 9 (32 * x_i_space1 + x_i_entry1) else (-1) : Int))] [] (s2, m) := by
                intro h12
                have hF := ite_t h12 hF
                refine g_aloadq h 102 dX7_lookedTwin_102 rfl rfl ?_
                obtain ⟨e1, e2⟩ := some_2 hF
                rw [← e1, ← e2] at hE
                exact g_aret h 104 dX7_lookedTwin_104 hE rfl ⟨(Nat.le_of_ble_eq_true rfl), (Nat.le_of_ble_eq_true rfl)⟩
              have J11 : ¬ ((((0 ≤ (if s2 12 (32 * x_i_space1 + x_i_entry1) ≠ 0 then s2 9 (32 * x_i_space1 + x_i_entry1) else (-1) : Int)) ∧ ((if s2 12 (32 * x_i_space1 + x_i_entry1) ≠ 0 then s2 9 (32 * x_i_space1 + x_i_entry1) else (-1) : Int) ≠ a_like)) ∧ ((s2 15 (if s2 12 (32 * x_i_space1 + x_i_entry1) ≠ 0 then s2 9 (32 * x_i_space1 + x_i_entry1) else (-1) : Int) = 1) ∧ (¬ (s2 22 (if s2 12 (32 * x_i_space1 + x_i_entry1) ≠ 0 then s2 9 (32 * x_i_space1 + x_i_entry1) else (-1) : Int) ≠ 0)))) ∧ (s2 16 (if s2 12 (32 * x_i_space1 + x_i_entry1) ≠ 0 then s2 9 (32 * x_i_space1 + x_i_entry1) else (-1) : Int) = s2 16 a_like)) → G X 0 0 105 [(10, 0), (5, a_like), (12, 0), (0, 6), (0, x_i_space1), (8, x_i_space1), (20, x_i_space1), (0, 32), (0, x_i_entry1), (4, 32 * x_i_space1 + x_i_entry1), (5, (if s2 12 (32 * x_i_space1 + x_i_entry1) ≠ 0 then s2 9 (32 * x_i_space1 + x_i_entry1) else (-1) : Int))] [] (s2, m) := by
                intro h13
                have hF := ite_f h13 hF
                refine g_iinc h 105 dX7_lookedTwin_105 rfl rfl (L' := [(10, 0), (5, a_like), (12, 0), (0, 6), (0, x_i_space1), (8, x_i_space1), (20, x_i_space1), (0, 32), (0, x_i_entry1 + 1), (4, 32 * x_i_space1 + x_i_entry1), (5, (if s2 12 (32 * x_i_space1 + x_i_entry1) ≠ 0 then s2 9 (32 * x_i_space1 + x_i_entry1) else (-1) : Int))]) rfl ?_
                refine g_goto h 108 38 dX7_lookedTwin_108 (by decide) ?_
                refine G_weak (L' := [(10, 0), (5, a_like), (12, 0), (0, 6), (0, x_i_space1), (8, x_i_space1), (20, x_i_space1), (0, 32), (0, x_i_entry1 + 1), (1, 0), (1, 0)]) ⟨Or.inr rfl, Or.inr rfl, Or.inr rfl, Or.inr rfl, Or.inr rfl, Or.inr rfl, Or.inr rfl, Or.inr rfl, Or.inr rfl, Or.inl rfl, Or.inl rfl, trivial⟩ ?_
                rw [ek2] at hF
                exact ih2 _ _ (by omega) hF
              refine g_aloadq h 71 dX7_lookedTwin_71 rfl rfl ?_
              refine g_ifnull h 73 105 dX7_lookedTwin_73 (by decide) (fun h8 => ?_) (fun h8 => ?_)
              · exact J11 (fun q => (fun q => (fun q => (Int.not_le.mpr h8) q.1) q.1) q.1)
              · refine g_aloadq h 76 dX7_lookedTwin_76 rfl rfl ?_
                refine g_aload_nq h 78 dX7_lookedTwin_78 rfl rfl ?_
                refine g_acmp_eq h 79 105 (show -1 ≤ _ ∧ _ < (24 : Int) by omega) (show -1 ≤ _ ∧ _ < (24 : Int) by omega) (by decide) dX7_lookedTwin_79 (by decide) (fun h9 => ?_) (fun h9 => ?_)
                · exact J11 (fun q => (fun q => (fun q => (fun q => q h9) q.2) q.1) q.1)
                · refine g_aloadq h 82 dX7_lookedTwin_82 rfl rfl ?_
                  refine g_callV h hE 84 dX7_lookedTwin_84 (cpX2_isMergeable (a_this := (if s2 12 (32 * x_i_space1 + x_i_entry1) ≠ 0 then s2 9 (32 * x_i_space1 + x_i_entry1) else (-1) : Int)) hl (by omega)) mwX2_isMergeable kw_894 (by decide) (show _ ∧ _ < (24 : Int) by omega) rfl (Nat.le_of_ble_eq_true rfl) rfl (Nat.le_of_ble_eq_true rfl) ⟨Nat.le_of_ble_eq_true rfl, Nat.le_of_ble_eq_true rfl⟩ rfl rfl ?_
                  show G X 0 0 87 [(10, 0), (5, a_like), (12, 0), (0, 6), (0, x_i_space1), (8, x_i_space1), (20, x_i_space1), (0, 32), (0, x_i_entry1), (4, 32 * x_i_space1 + x_i_entry1), (5, (if s2 12 (32 * x_i_space1 + x_i_entry1) ≠ 0 then s2 9 (32 * x_i_space1 + x_i_entry1) else (-1) : Int))] [(0, (if (s2 15 (if s2 12 (32 * x_i_space1 + x_i_entry1) ≠ 0 then s2 9 (32 * x_i_space1 + x_i_entry1) else (-1) : Int) = 1) ∧ (¬ (s2 22 (if s2 12 (32 * x_i_space1 + x_i_entry1) ≠ 0 then s2 9 (32 * x_i_space1 + x_i_entry1) else (-1) : Int) ≠ 0)) then 1 else 0 : Int))] (s2, m)
                  refine g_if_eq h 87 105 (gRi gR_ite) dX7_lookedTwin_87 (by decide) (fun h10 => ?_) (fun h10 => ?_)
                  · exact J11 (fun q => (fun q => (iz_f h10) q.2) q.1)
                  · refine g_aloadq h 90 dX7_lookedTwin_90 rfl rfl ?_
                    refine gf_Page_value h 92 dX7_lookedTwin_92 kw_286 (by omega) ?_
                    refine g_aload_nq h 95 dX7_lookedTwin_95 rfl rfl ?_
                    refine gf_Page_value h 96 dX7_lookedTwin_96 kw_286 (by omega) ?_
                    refine g_icmp_ne h 99 105 (gRi (by omega)) (gRi (by omega)) dX7_lookedTwin_99 (by decide) (fun h11 => ?_) (fun h11 => ?_)
                    · exact J11 (fun q => h11 q.2)
                    · exact J10 ⟨⟨⟨h8, h9⟩, (iz_t h10)⟩, h11⟩
            have J6 : ¬ (x_i_entry1 < 32) → G X 0 0 111 [(10, 0), (5, a_like), (12, 0), (0, 6), (0, x_i_space1), (8, x_i_space1), (20, x_i_space1), (0, 32), (0, x_i_entry1), (1, 0), (1, 0)] [] (s2, m) := by
              intro h14
              have hF := ite_f h14 hF
              refine g_iinc h 111 dX7_lookedTwin_111 rfl rfl (L' := [(10, 0), (5, a_like), (12, 0), (0, 6), (0, x_i_space1 + 1), (8, x_i_space1), (20, x_i_space1), (0, 32), (0, x_i_entry1), (1, 0), (1, 0)]) rfl ?_
              refine g_goto h 114 11 dX7_lookedTwin_114 (by decide) ?_
              refine G_weak (L' := [(10, 0), (5, a_like), (12, 0), (0, 6), (0, x_i_space1 + 1), (1, 0), (1, 0), (1, 0), (1, 0), (1, 0), (1, 0)]) ⟨Or.inr rfl, Or.inr rfl, Or.inr rfl, Or.inr rfl, Or.inr rfl, Or.inl rfl, Or.inl rfl, Or.inl rfl, Or.inl rfl, Or.inr rfl, Or.inr rfl, trivial⟩ ?_
              rw [ek1] at hF
              exact ih1 _ _ (by omega) hF
            refine g_iload h 38 dX7_lookedTwin_38 rfl ?_
            refine g_iload h 40 dX7_lookedTwin_40 rfl ?_
            refine g_icmp_ge h 42 111 (gRi (by omega)) (gRi (by omega)) dX7_lookedTwin_42 (by decide) (fun h3 => ?_) (fun h3 => ?_)
            · exact J6 (Int.not_lt.mpr h3)
            · exact J5 h3
        exact J12 _ _ _ (by omega) hF
      have J3 : ¬ (x_i_space1 < 6) → G X 0 0 117 [(10, 0), (5, a_like), (12, 0), (0, 6), (0, x_i_space1), (1, 0), (1, 0), (1, 0), (1, 0), (1, 0), (1, 0)] [] (s1, m) := by
        intro h15
        have hF := ite_f h15 hF
        refine g_nullq h 117 4 rfl dX7_lookedTwin_117 ?_
        obtain ⟨e1, e2⟩ := some_2 hF
        rw [← e1, ← e2] at hE
        exact g_aret h 118 dX7_lookedTwin_118 hE rfl ⟨(Nat.le_of_ble_eq_true rfl), (Nat.le_of_ble_eq_true rfl)⟩
      refine g_iload h 11 dX7_lookedTwin_11 rfl ?_
      refine g_iload_n h 13 dX7_lookedTwin_13 rfl ?_
      refine g_icmp_ge h 14 117 (gRi (by omega)) (gRi (by omega)) dX7_lookedTwin_14 (by decide) (fun h1 => ?_) (fun h1 => ?_)
      · exact J3 (Int.not_lt.mpr h1)
      · exact J2 h1
  exact J13 _ _ _ (by omega) hF
-- Pagewright.members
def FX7_members (a_list a_group : Int) (s : S2) : Option (Int × S2) :=
  rgd 0 24 <| gd (0 ≤ a_list ∧ a_list ≤ 1) <| gd ((-1) ≤ a_group ∧ a_group ≤ 2) <| gl2 1000 (fun k1 (x_members1 : Int) (x_i_page1 : Int) (s1 : S2) => if x_i_page1 < 24 then gd ((-2147483648) ≤ x_members1 + (if ((s1 15 x_i_page1 ≠ 0) ∧ (s1 17 x_i_page1 = a_list)) ∧ ((a_group = (-1)) ∨ (s1 21 x_i_page1 = a_group)) then 1 else 0 : Int) ∧ x_members1 + (if ((s1 15 x_i_page1 ≠ 0) ∧ (s1 17 x_i_page1 = a_list)) ∧ ((a_group = (-1)) ∨ (s1 21 x_i_page1 = a_group)) then 1 else 0 : Int) ≤ 2147483647) <| k1 (x_members1 + (if ((s1 15 x_i_page1 ≠ 0) ∧ (s1 17 x_i_page1 = a_list)) ∧ ((a_group = (-1)) ∨ (s1 21 x_i_page1 = a_group)) then 1 else 0 : Int)) (x_i_page1 + 1) s1 else some (x_members1, s1)) 0 0 s
theorem rgX7_members {a_list a_group : Int} {s s0 : S2} {r0 : Int} (hF : FX7_members a_list a_group s = some (r0, s0)) : 0 ≤ r0 ∧ r0 ≤ 24 := (rgd_some hF).2
set_option maxRecDepth 100000 in
set_option maxHeartbeats 4000000 in
theorem ctX7_members {l : Launch} {w : gW} {bs : Nat} (hl : l.stackTraces = false) {a_list a_group : Int} {s m s0 : S2} {r0 : Int} (hF : FX7_members a_list a_group s = some (r0, s0)) : gMet l w bs yX7_members cX7_members 8 (some FieldType.int) 1 0 [(10, 0), (0, a_list), (0, a_group)] (s, m) 0 (some (0, r0)) (s0, m) := by
  unfold FX7_members at hF
  obtain ⟨hF, hr⟩ := rgd_some hF
  obtain ⟨q_a_list, hF⟩ := gd_some hF
  obtain ⟨q_a_group, hF⟩ := gd_some hF
  refine g_start hl (by decide) (Nat.le_of_ble_eq_true rfl) rfl fun X h hE => ?_
  have h : gOk X "Pagewright" cX7_members 8 1 0 0 := h
  have hE : gEnd X l w bs 0 (some FieldType.int) 0 (some (0, r0)) (s0, m) := hE
  show G X 0 0 0 [(10, 0), (0, a_list), (0, a_group), (1, 0), (1, 0), (1, 0), (1, 0), (1, 0)] [] (s, m)
  refine g_iconst h 0 dX7_members_0 ?_
  refine g_istore_n h 1 dX7_members_1 (Nat.le_of_ble_eq_true rfl) rfl (L' := [(10, 0), (0, a_list), (0, a_group), (0, 0), (1, 0), (1, 0), (1, 0), (1, 0)]) rfl ?_
  refine g_aload_nq h 2 dX7_members_2 rfl rfl ?_
  refine gf_pages h 3 dX7_members_3 kw_362 ?_
  refine g_astore h 6 dX7_members_6 (Nat.le_of_ble_eq_true rfl) rfl (L' := [(10, 0), (0, a_list), (0, a_group), (0, 0), (13, 0), (1, 0), (1, 0), (1, 0)]) rfl ?_
  refine g_aloadq h 8 dX7_members_8 rfl rfl ?_
  refine an_pages h 10 dX7_members_10 ?_
  refine g_istore h 11 dX7_members_11 (Nat.le_of_ble_eq_true rfl) rfl (L' := [(10, 0), (0, a_list), (0, a_group), (0, 0), (13, 0), (0, 24), (1, 0), (1, 0)]) rfl ?_
  refine g_iconst h 13 dX7_members_13 ?_
  refine g_istore h 14 dX7_members_14 (Nat.le_of_ble_eq_true rfl) rfl (L' := [(10, 0), (0, a_list), (0, a_group), (0, 0), (13, 0), (0, 24), (0, 0), (1, 0)]) rfl ?_
  obtain ⟨f1, ef1, hF⟩ := glx2 hF
  have J7 : ∀ (n1 : Nat) (x_members1 x_i_page1 : Int) (s1 : S2), ((-2147483648) ≤ x_members1 ∧ x_members1 ≤ 2147483647) → (0 ≤ x_i_page1 ∧ x_i_page1 ≤ 24) → gl2 n1 f1 x_members1 x_i_page1 s1 = some (r0, s0) → G X 0 0 16 [(10, 0), (0, a_list), (0, a_group), (0, x_members1), (13, 0), (0, 24), (0, x_i_page1), (1, 0)] [] (s1, m) := by
    intro n1
    induction n1 with
    | zero => intro x_members1 x_i_page1 s1 _ _ hF; exact (gl2_0 hF).elim
    | succ n1 ih1 =>
      intro x_members1 x_i_page1 s1 q1 q2 hF
      obtain ⟨k1, ek1, hF⟩ := glu2 hF ef1
      have J2 : x_i_page1 < 24 → G X 0 0 23 [(10, 0), (0, a_list), (0, a_group), (0, x_members1), (13, 0), (0, 24), (0, x_i_page1), (1, 0)] [] (s1, m) := by
        intro h2
        have hF := ite_t h2 hF
        refine g_aloadq h 23 dX7_members_23 rfl rfl ?_
        refine g_iload h 25 dX7_members_25 rfl ?_
        refine al_pages h 27 dX7_members_27 (by omega) ?_
        refine g_astore h 28 dX7_members_28 (Nat.le_of_ble_eq_true rfl) rfl (L' := [(10, 0), (0, a_list), (0, a_group), (0, x_members1), (13, 0), (0, 24), (0, x_i_page1), (5, x_i_page1)]) rfl ?_
        refine G_typ fun hT_s1 => ?_
        have t1 : 0 ≤ s1 15 x_i_page1 ∧ s1 15 x_i_page1 ≤ 2 := hT_s1.1 15 x_i_page1
        have t2 : 0 ≤ s1 17 x_i_page1 ∧ s1 17 x_i_page1 ≤ 1 := hT_s1.1 17 x_i_page1
        have t3 : 0 ≤ s1 21 x_i_page1 ∧ s1 21 x_i_page1 ≤ 2 := hT_s1.1 21 x_i_page1
        refine g_iload_n h 30 dX7_members_30 rfl ?_
        suffices J4 : ∀ v1 : Int, v1 = (if ((s1 15 x_i_page1 ≠ 0) ∧ (s1 17 x_i_page1 = a_list)) ∧ ((a_group = (-1)) ∨ (s1 21 x_i_page1 = a_group)) then 1 else 0 : Int) → G X 0 0 46 [(10, 0), (0, a_list), (0, a_group), (0, x_members1), (13, 0), (0, 24), (0, x_i_page1), (5, x_i_page1)] [(0, v1), (0, x_members1)] (s1, m) by
          have J5 : ((s1 15 x_i_page1 ≠ 0) ∧ (s1 17 x_i_page1 = a_list)) ∧ ((a_group = (-1)) ∨ (s1 21 x_i_page1 = a_group)) → G X 0 0 41 [(10, 0), (0, a_list), (0, a_group), (0, x_members1), (13, 0), (0, 24), (0, x_i_page1), (5, x_i_page1)] [(0, x_members1)] (s1, m) := by
            intro h4
            refine g_iconst h 41 dX7_members_41 ?_
            refine g_goto h 42 46 dX7_members_42 (by decide) ?_
            exact J4 _ (if_pos h4).symm
          have J6 : ¬ (((s1 15 x_i_page1 ≠ 0) ∧ (s1 17 x_i_page1 = a_list)) ∧ ((a_group = (-1)) ∨ (s1 21 x_i_page1 = a_group))) → G X 0 0 45 [(10, 0), (0, a_list), (0, a_group), (0, x_members1), (13, 0), (0, 24), (0, x_i_page1), (5, x_i_page1)] [(0, x_members1)] (s1, m) := by
            intro h5
            refine g_iconst h 45 dX7_members_45 ?_
            exact J4 _ (if_neg h5).symm
          refine g_aloadq h 31 dX7_members_31 rfl rfl ?_
          refine g_iload_n h 33 dX7_members_33 rfl ?_
          refine g_iload_n h 34 dX7_members_34 rfl ?_
          refine g_callV h hE 35 dX7_members_35 (cpX2_isMember (a_this := x_i_page1) (a_ofList := a_list) (a_ofGroup := a_group) hl (by omega) (by omega) (by omega)) mwX2_isMember kw_663 (by decide) (show _ ∧ _ < (24 : Int) by omega) rfl (Nat.le_of_ble_eq_true rfl) rfl (Nat.le_of_ble_eq_true rfl) ⟨Nat.le_of_ble_eq_true rfl, Nat.le_of_ble_eq_true rfl⟩ rfl rfl ?_
          show G X 0 0 38 [(10, 0), (0, a_list), (0, a_group), (0, x_members1), (13, 0), (0, 24), (0, x_i_page1), (5, x_i_page1)] [(0, (if ((s1 15 x_i_page1 ≠ 0) ∧ (s1 17 x_i_page1 = a_list)) ∧ ((a_group = (-1)) ∨ (s1 21 x_i_page1 = a_group)) then 1 else 0 : Int)), (0, x_members1)] (s1, m)
          refine g_if_eq h 38 45 (gRi gR_ite) dX7_members_38 (by decide) (fun h3 => ?_) (fun h3 => ?_)
          · exact J6 (iz_f h3)
          · exact J5 (iz_t h3)
        intro v1 e1
        subst e1
        refine g_iadd h 46 dX7_members_46 ?_
        refine g_istore_n h 47 dX7_members_47 (Nat.le_of_ble_eq_true rfl) rfl (L' := [(10, 0), (0, a_list), (0, a_group), (0, x_members1 + (if ((s1 15 x_i_page1 ≠ 0) ∧ (s1 17 x_i_page1 = a_list)) ∧ ((a_group = (-1)) ∨ (s1 21 x_i_page1 = a_group)) then 1 else 0 : Int)), (13, 0), (0, 24), (0, x_i_page1), (5, x_i_page1)]) rfl ?_
        refine g_iinc h 48 dX7_members_48 rfl rfl (L' := [(10, 0), (0, a_list), (0, a_group), (0, x_members1 + (if ((s1 15 x_i_page1 ≠ 0) ∧ (s1 17 x_i_page1 = a_list)) ∧ ((a_group = (-1)) ∨ (s1 21 x_i_page1 = a_group)) then 1 else 0 : Int)), (13, 0), (0, 24), (0, x_i_page1 + 1), (5, x_i_page1)]) rfl ?_
        refine g_goto h 51 16 dX7_members_51 (by decide) ?_
        obtain ⟨q3, hF⟩ := gd_some hF
        refine G_weak (L' := [(10, 0), (0, a_list), (0, a_group), (0, x_members1 + (if ((s1 15 x_i_page1 ≠ 0) ∧ (s1 17 x_i_page1 = a_list)) ∧ ((a_group = (-1)) ∨ (s1 21 x_i_page1 = a_group)) then 1 else 0 : Int)), (13, 0), (0, 24), (0, x_i_page1 + 1), (1, 0)]) ⟨Or.inr rfl, Or.inr rfl, Or.inr rfl, Or.inr rfl, Or.inr rfl, Or.inr rfl, Or.inr rfl, Or.inl rfl, trivial⟩ ?_
        rw [ek1] at hF
        exact ih1 _ _ _ (by omega) (by omega) hF
      have J3 : ¬ (x_i_page1 < 24) → G X 0 0 54 [(10, 0), (0, a_list), (0, a_group), (0, x_members1), (13, 0), (0, 24), (0, x_i_page1), (1, 0)] [] (s1, m) := by
        intro h6
        have hF := ite_f h6 hF
        refine g_iload_n h 54 dX7_members_54 rfl ?_
        obtain ⟨e1, e2⟩ := some_2 hF
        rw [← e1, ← e2] at hE
        exact g_iret h 55 dX7_members_55 hE rfl rfl ⟨(Nat.le_of_ble_eq_true rfl), (Nat.le_of_ble_eq_true rfl)⟩
      refine g_iload h 16 dX7_members_16 rfl ?_
      refine g_iload h 18 dX7_members_18 rfl ?_
      refine g_icmp_ge h 20 54 (gRi (by omega)) (gRi (by omega)) dX7_members_20 (by decide) (fun h1 => ?_) (fun h1 => ?_)
      · exact J3 (Int.not_lt.mpr h1)
      · exact J2 h1
  exact J7 _ _ _ _ (by omega) (by omega) hF
-- Pagewright.membersAhead
def FX7_membersAhead (a_of : Int) (s : S2) : Option (Int × S2) :=
  rgd 0 24 <| gd (0 ≤ a_of ∧ a_of ≤ 23) <| gl2 1000 (fun k1 (x_ahead1 : Int) (x_i_page1 : Int) (s1 : S2) => if x_i_page1 < 24 then gd ((((s1 15 x_i_page1 ≠ 0) ∧ (s1 17 x_i_page1 = s1 17 a_of)) ∧ (((-1) = (-1)) ∨ (s1 21 x_i_page1 = (-1)))) → (-2147483648) ≤ s1 18 x_i_page1 ∧ s1 18 x_i_page1 ≤ 2147483647) <| gd ((((s1 15 x_i_page1 ≠ 0) ∧ (s1 17 x_i_page1 = s1 17 a_of)) ∧ (((-1) = (-1)) ∨ (s1 21 x_i_page1 = (-1)))) → (-2147483648) ≤ s1 18 a_of ∧ s1 18 a_of ≤ 2147483647) <| gd ((-2147483648) ≤ x_ahead1 + (if (((s1 15 x_i_page1 ≠ 0) ∧ (s1 17 x_i_page1 = s1 17 a_of)) ∧ (((-1) = (-1)) ∨ (s1 21 x_i_page1 = (-1)))) ∧ (s1 18 x_i_page1 < s1 18 a_of) then 1 else 0 : Int) ∧ x_ahead1 + (if (((s1 15 x_i_page1 ≠ 0) ∧ (s1 17 x_i_page1 = s1 17 a_of)) ∧ (((-1) = (-1)) ∨ (s1 21 x_i_page1 = (-1)))) ∧ (s1 18 x_i_page1 < s1 18 a_of) then 1 else 0 : Int) ≤ 2147483647) <| k1 (x_ahead1 + (if (((s1 15 x_i_page1 ≠ 0) ∧ (s1 17 x_i_page1 = s1 17 a_of)) ∧ (((-1) = (-1)) ∨ (s1 21 x_i_page1 = (-1)))) ∧ (s1 18 x_i_page1 < s1 18 a_of) then 1 else 0 : Int)) (x_i_page1 + 1) s1 else some (x_ahead1, s1)) 0 0 s
theorem rgX7_membersAhead {a_of : Int} {s s0 : S2} {r0 : Int} (hF : FX7_membersAhead a_of s = some (r0, s0)) : 0 ≤ r0 ∧ r0 ≤ 24 := (rgd_some hF).2
set_option maxRecDepth 100000 in
set_option maxHeartbeats 4000000 in
theorem ctX7_membersAhead {l : Launch} {w : gW} {bs : Nat} (hl : l.stackTraces = false) {a_of : Int} {s m s0 : S2} {r0 : Int} (hF : FX7_membersAhead a_of s = some (r0, s0)) : gMet l w bs yX7_membersAhead cX7_membersAhead 7 (some FieldType.int) 1 0 [(10, 0), (5, a_of)] (s, m) 0 (some (0, r0)) (s0, m) := by
  unfold FX7_membersAhead at hF
  obtain ⟨hF, hr⟩ := rgd_some hF
  obtain ⟨q_a_of, hF⟩ := gd_some hF
  refine g_start hl (by decide) (Nat.le_of_ble_eq_true rfl) rfl fun X h hE => ?_
  have h : gOk X "Pagewright" cX7_membersAhead 7 1 0 0 := h
  have hE : gEnd X l w bs 0 (some FieldType.int) 0 (some (0, r0)) (s0, m) := hE
  show G X 0 0 0 [(10, 0), (5, a_of), (1, 0), (1, 0), (1, 0), (1, 0), (1, 0)] [] (s, m)
  refine g_iconst h 0 dX7_membersAhead_0 ?_
  refine g_istore_n h 1 dX7_membersAhead_1 (Nat.le_of_ble_eq_true rfl) rfl (L' := [(10, 0), (5, a_of), (0, 0), (1, 0), (1, 0), (1, 0), (1, 0)]) rfl ?_
  refine g_aload_nq h 2 dX7_membersAhead_2 rfl rfl ?_
  refine gf_pages h 3 dX7_membersAhead_3 kw_362 ?_
  refine g_astore_n h 6 dX7_membersAhead_6 (Nat.le_of_ble_eq_true rfl) rfl (L' := [(10, 0), (5, a_of), (0, 0), (13, 0), (1, 0), (1, 0), (1, 0)]) rfl ?_
  refine g_aload_nq h 7 dX7_membersAhead_7 rfl rfl ?_
  refine an_pages h 8 dX7_membersAhead_8 ?_
  refine g_istore h 9 dX7_membersAhead_9 (Nat.le_of_ble_eq_true rfl) rfl (L' := [(10, 0), (5, a_of), (0, 0), (13, 0), (0, 24), (1, 0), (1, 0)]) rfl ?_
  refine g_iconst h 11 dX7_membersAhead_11 ?_
  refine g_istore h 12 dX7_membersAhead_12 (Nat.le_of_ble_eq_true rfl) rfl (L' := [(10, 0), (5, a_of), (0, 0), (13, 0), (0, 24), (0, 0), (1, 0)]) rfl ?_
  obtain ⟨f1, ef1, hF⟩ := glx2 hF
  have J7 : ∀ (n1 : Nat) (x_ahead1 x_i_page1 : Int) (s1 : S2), ((-2147483648) ≤ x_ahead1 ∧ x_ahead1 ≤ 2147483647) → (0 ≤ x_i_page1 ∧ x_i_page1 ≤ 24) → gl2 n1 f1 x_ahead1 x_i_page1 s1 = some (r0, s0) → G X 0 0 14 [(10, 0), (5, a_of), (0, x_ahead1), (13, 0), (0, 24), (0, x_i_page1), (1, 0)] [] (s1, m) := by
    intro n1
    induction n1 with
    | zero => intro x_ahead1 x_i_page1 s1 _ _ hF; exact (gl2_0 hF).elim
    | succ n1 ih1 =>
      intro x_ahead1 x_i_page1 s1 q1 q2 hF
      obtain ⟨k1, ek1, hF⟩ := glu2 hF ef1
      have J2 : x_i_page1 < 24 → G X 0 0 21 [(10, 0), (5, a_of), (0, x_ahead1), (13, 0), (0, 24), (0, x_i_page1), (1, 0)] [] (s1, m) := by
        intro h2
        have hF := ite_t h2 hF
        refine g_aload_nq h 21 dX7_membersAhead_21 rfl rfl ?_
        refine g_iload h 22 dX7_membersAhead_22 rfl ?_
        refine al_pages h 24 dX7_membersAhead_24 (by omega) ?_
        refine g_astore h 25 dX7_membersAhead_25 (Nat.le_of_ble_eq_true rfl) rfl (L' := [(10, 0), (5, a_of), (0, x_ahead1), (13, 0), (0, 24), (0, x_i_page1), (5, x_i_page1)]) rfl ?_
        refine G_typ fun hT_s1 => ?_
        have t1 : 0 ≤ s1 17 a_of ∧ s1 17 a_of ≤ 1 := hT_s1.1 17 a_of
        have t2 : 0 ≤ s1 15 x_i_page1 ∧ s1 15 x_i_page1 ≤ 2 := hT_s1.1 15 x_i_page1
        have t3 : 0 ≤ s1 17 x_i_page1 ∧ s1 17 x_i_page1 ≤ 1 := hT_s1.1 17 x_i_page1
        have t4 : 0 ≤ s1 21 x_i_page1 ∧ s1 21 x_i_page1 ≤ 2 := hT_s1.1 21 x_i_page1
        obtain ⟨q3, hF⟩ := gd_some hF
        obtain ⟨q4, hF⟩ := gd_some hF
        refine g_iload_n h 27 dX7_membersAhead_27 rfl ?_
        suffices J4 : ∀ v1 : Int, v1 = (if (((s1 15 x_i_page1 ≠ 0) ∧ (s1 17 x_i_page1 = s1 17 a_of)) ∧ (((-1) = (-1)) ∨ (s1 21 x_i_page1 = (-1)))) ∧ (s1 18 x_i_page1 < s1 18 a_of) then 1 else 0 : Int) → G X 0 0 58 [(10, 0), (5, a_of), (0, x_ahead1), (13, 0), (0, 24), (0, x_i_page1), (5, x_i_page1)] [(0, v1), (0, x_ahead1)] (s1, m) by
          have J5 : (((s1 15 x_i_page1 ≠ 0) ∧ (s1 17 x_i_page1 = s1 17 a_of)) ∧ (((-1) = (-1)) ∨ (s1 21 x_i_page1 = (-1)))) ∧ (s1 18 x_i_page1 < s1 18 a_of) → G X 0 0 53 [(10, 0), (5, a_of), (0, x_ahead1), (13, 0), (0, 24), (0, x_i_page1), (5, x_i_page1)] [(0, x_ahead1)] (s1, m) := by
            intro h5
            refine g_iconst h 53 dX7_membersAhead_53 ?_
            refine g_goto h 54 58 dX7_membersAhead_54 (by decide) ?_
            exact J4 _ (if_pos h5).symm
          have J6 : ¬ ((((s1 15 x_i_page1 ≠ 0) ∧ (s1 17 x_i_page1 = s1 17 a_of)) ∧ (((-1) = (-1)) ∨ (s1 21 x_i_page1 = (-1)))) ∧ (s1 18 x_i_page1 < s1 18 a_of)) → G X 0 0 57 [(10, 0), (5, a_of), (0, x_ahead1), (13, 0), (0, 24), (0, x_i_page1), (5, x_i_page1)] [(0, x_ahead1)] (s1, m) := by
            intro h6
            refine g_iconst h 57 dX7_membersAhead_57 ?_
            exact J4 _ (if_neg h6).symm
          refine g_aloadq h 28 dX7_membersAhead_28 rfl rfl ?_
          refine g_aload_nq h 30 dX7_membersAhead_30 rfl rfl ?_
          refine gf_Page_list h 31 dX7_membersAhead_31 kw_288 (by omega) ?_
          refine g_iconst h 34 dX7_membersAhead_34 ?_
          refine g_callV h hE 35 dX7_membersAhead_35 (cpX2_isMember (a_this := x_i_page1) (a_ofList := s1 17 a_of) (a_ofGroup := (-1)) hl (by omega) (by omega) (by omega)) mwX2_isMember kw_663 (by decide) (show _ ∧ _ < (24 : Int) by omega) rfl (Nat.le_of_ble_eq_true rfl) rfl (Nat.le_of_ble_eq_true rfl) ⟨Nat.le_of_ble_eq_true rfl, Nat.le_of_ble_eq_true rfl⟩ rfl rfl ?_
          show G X 0 0 38 [(10, 0), (5, a_of), (0, x_ahead1), (13, 0), (0, 24), (0, x_i_page1), (5, x_i_page1)] [(0, (if ((s1 15 x_i_page1 ≠ 0) ∧ (s1 17 x_i_page1 = s1 17 a_of)) ∧ (((-1) = (-1)) ∨ (s1 21 x_i_page1 = (-1))) then 1 else 0 : Int)), (0, x_ahead1)] (s1, m)
          refine g_if_eq h 38 57 (gRi gR_ite) dX7_membersAhead_38 (by decide) (fun h3 => ?_) (fun h3 => ?_)
          · exact J6 (fun q => (iz_f h3) q.1)
          · refine g_aloadq h 41 dX7_membersAhead_41 rfl rfl ?_
            refine gf_Page_turn h 43 dX7_membersAhead_43 kw_289 (by omega) ?_
            refine g_aload_nq h 46 dX7_membersAhead_46 rfl rfl ?_
            refine gf_Page_turn h 47 dX7_membersAhead_47 kw_289 (by omega) ?_
            refine g_icmp_ge h 50 57 (gRi (by omega)) (gRi (by omega)) dX7_membersAhead_50 (by decide) (fun h4 => ?_) (fun h4 => ?_)
            · exact J6 (fun q => (Int.not_lt.mpr h4) q.2)
            · exact J5 ⟨(iz_t h3), h4⟩
        intro v1 e1
        subst e1
        refine g_iadd h 58 dX7_membersAhead_58 ?_
        refine g_istore_n h 59 dX7_membersAhead_59 (Nat.le_of_ble_eq_true rfl) rfl (L' := [(10, 0), (5, a_of), (0, x_ahead1 + (if (((s1 15 x_i_page1 ≠ 0) ∧ (s1 17 x_i_page1 = s1 17 a_of)) ∧ (((-1) = (-1)) ∨ (s1 21 x_i_page1 = (-1)))) ∧ (s1 18 x_i_page1 < s1 18 a_of) then 1 else 0 : Int)), (13, 0), (0, 24), (0, x_i_page1), (5, x_i_page1)]) rfl ?_
        refine g_iinc h 60 dX7_membersAhead_60 rfl rfl (L' := [(10, 0), (5, a_of), (0, x_ahead1 + (if (((s1 15 x_i_page1 ≠ 0) ∧ (s1 17 x_i_page1 = s1 17 a_of)) ∧ (((-1) = (-1)) ∨ (s1 21 x_i_page1 = (-1)))) ∧ (s1 18 x_i_page1 < s1 18 a_of) then 1 else 0 : Int)), (13, 0), (0, 24), (0, x_i_page1 + 1), (5, x_i_page1)]) rfl ?_
        refine g_goto h 63 14 dX7_membersAhead_63 (by decide) ?_
        obtain ⟨q5, hF⟩ := gd_some hF
        refine G_weak (L' := [(10, 0), (5, a_of), (0, x_ahead1 + (if (((s1 15 x_i_page1 ≠ 0) ∧ (s1 17 x_i_page1 = s1 17 a_of)) ∧ (((-1) = (-1)) ∨ (s1 21 x_i_page1 = (-1)))) ∧ (s1 18 x_i_page1 < s1 18 a_of) then 1 else 0 : Int)), (13, 0), (0, 24), (0, x_i_page1 + 1), (1, 0)]) ⟨Or.inr rfl, Or.inr rfl, Or.inr rfl, Or.inr rfl, Or.inr rfl, Or.inr rfl, Or.inl rfl, trivial⟩ ?_
        rw [ek1] at hF
        exact ih1 _ _ _ (by omega) (by omega) hF
      have J3 : ¬ (x_i_page1 < 24) → G X 0 0 66 [(10, 0), (5, a_of), (0, x_ahead1), (13, 0), (0, 24), (0, x_i_page1), (1, 0)] [] (s1, m) := by
        intro h7
        have hF := ite_f h7 hF
        refine g_iload_n h 66 dX7_membersAhead_66 rfl ?_
        obtain ⟨e1, e2⟩ := some_2 hF
        rw [← e1, ← e2] at hE
        exact g_iret h 67 dX7_membersAhead_67 hE rfl rfl ⟨(Nat.le_of_ble_eq_true rfl), (Nat.le_of_ble_eq_true rfl)⟩
      refine g_iload h 14 dX7_membersAhead_14 rfl ?_
      refine g_iload h 16 dX7_membersAhead_16 rfl ?_
      refine g_icmp_ge h 18 66 (gRi (by omega)) (gRi (by omega)) dX7_membersAhead_18 (by decide) (fun h1 => ?_) (fun h1 => ?_)
      · exact J3 (Int.not_lt.mpr h1)
      · exact J2 h1
  exact J7 _ _ _ _ (by omega) (by omega) hF
-- Pagewright$Entry.takeOver
def FX1_takeOver (a_this a_old : Int) (s : S2) : Option (Int × S2) :=
  gd (0 ≤ a_this ∧ a_this ≤ 191) <| gd (0 ≤ a_old ∧ a_old ≤ 191) <| cb (FX1_establish a_this (s 3 a_old) (s 4 a_old) (s 5 a_old) (s 6 a_old) (s 7 a_old) s) fun r1 s1 => bn (upd2 s1 8 a_this (s1 8 a_old)) fun s2 => bn (upd2 s2 9 a_this (s2 9 a_old)) fun s3 => bn (upd2 s3 10 a_this (s3 10 a_old)) fun s4 => bn (upd2 s4 11 a_this (s4 11 a_old)) fun s5 => bn (upd2 s5 12 a_this 0) fun s6 => cb (FX1_clear a_old s6) fun r2 s7 => some (0, s7)
set_option maxRecDepth 100000 in
set_option maxHeartbeats 4000000 in
theorem ctX1_takeOver {l : Launch} {w : gW} {bs : Nat} (hl : l.stackTraces = false) {a_this a_old : Int} {s m s0 : S2} {r0 : Int} (hF : FX1_takeOver a_this a_old s = some (r0, s0)) : gMet l w bs yX1_takeOver cX1_takeOver 2 none 2 0 [(4, a_this), (4, a_old)] (s, m) 0 none (s0, m) := by
  unfold FX1_takeOver at hF
  obtain ⟨q_a_this, hF⟩ := gd_some hF
  obtain ⟨q_a_old, hF⟩ := gd_some hF
  refine g_start hl (by decide) (Nat.le_of_ble_eq_true rfl) rfl fun X h hE => ?_
  have h : gOk X "Pagewright$Entry" cX1_takeOver 2 2 0 0 := h
  have hE : gEnd X l w bs 0 none 0 none (s0, m) := hE
  show G X 0 0 0 [(4, a_this), (4, a_old)] [] (s, m)
  refine g_aload_nq h 0 dX1_takeOver_0 rfl rfl ?_
  refine G_typ fun hT_s => ?_
  have t1 : 0 ≤ s 3 a_old ∧ s 3 a_old ≤ 3 := hT_s.1 3 a_old
  refine g_aload_nq h 1 dX1_takeOver_1 rfl rfl ?_
  refine gf_Entry_rights h 2 dX1_takeOver_2 kw_195 (by omega) ?_
  have t2 : (-1) ≤ s 4 a_old ∧ s 4 a_old ≤ 2 := hT_s.1 4 a_old
  refine g_aload_nq h 5 dX1_takeOver_5 rfl rfl ?_
  refine gf_Entry_file h 6 dX1_takeOver_6 kw_198 (by omega) ?_
  have t3 : 0 ≤ s 5 a_old ∧ s 5 a_old ≤ 7 := hT_s.1 5 a_old
  refine g_aload_nq h 9 dX1_takeOver_9 rfl rfl ?_
  refine gf_Entry_index h 10 dX1_takeOver_10 kw_201 (by omega) ?_
  have t4 : 0 ≤ s 6 a_old ∧ s 6 a_old ≤ 1 := hT_s.1 6 a_old
  refine g_aload_nq h 13 dX1_takeOver_13 rfl rfl ?_
  refine gf_Entry_shared h 14 dX1_takeOver_14 kw_204 (by omega) ?_
  have t5 : 0 ≤ s 7 a_old ∧ s 7 a_old ≤ 1 := hT_s.1 7 a_old
  refine g_aload_nq h 17 dX1_takeOver_17 rfl rfl ?_
  refine gf_Entry_grows h 18 dX1_takeOver_18 kw_207 (by omega) ?_
  obtain ⟨r1, s1, c1, hF⟩ := cb_some hF
  refine g_callV h hE 21 dX1_takeOver_21 (ctX1_establish hl c1) mwX1_establish kw_613 (by decide) (show _ ∧ _ < (192 : Int) by omega) rfl (Nat.le_of_ble_eq_true rfl) rfl (Nat.le_of_ble_eq_true rfl) ⟨Nat.le_of_ble_eq_true rfl, Nat.le_of_ble_eq_true rfl⟩ rfl rfl ?_
  show G X 0 0 24 [(4, a_this), (4, a_old)] [] (s1, m)
  refine g_aload_nq h 24 dX1_takeOver_24 rfl rfl ?_
  refine G_typ fun hT_s1 => ?_
  have t6 : 0 ≤ s1 8 a_old ∧ s1 8 a_old ≤ 2 := hT_s1.1 8 a_old
  refine g_aload_nq h 25 dX1_takeOver_25 rfl rfl ?_
  refine gf_Entry_state h 26 dX1_takeOver_26 kw_209 (by omega) ?_
  obtain ⟨s2, es2, hF⟩ := bn_ex hF
  refine pf_Entry_state h 29 dX1_takeOver_29 kw_209 (by omega) (by omega) ?_
  rw [← es2]
  refine g_aload_nq h 32 dX1_takeOver_32 rfl rfl ?_
  refine G_typ fun hT_s2 => ?_
  have t7 : (-1) ≤ s2 9 a_old ∧ s2 9 a_old ≤ 23 := hT_s2.1 9 a_old
  refine g_aload_nq h 33 dX1_takeOver_33 rfl rfl ?_
  refine gf_Entry_page h 34 dX1_takeOver_34 kw_212 (by omega) ?_
  obtain ⟨s3, es3, hF⟩ := bn_ex hF
  refine pf_Entry_page h 37 dX1_takeOver_37 kw_212 (by omega) (by omega) ?_
  rw [← es3]
  refine g_aload_nq h 40 dX1_takeOver_40 rfl rfl ?_
  refine G_typ fun hT_s3 => ?_
  have t8 : 0 ≤ s3 10 a_old ∧ s3 10 a_old ≤ 1 := hT_s3.1 10 a_old
  refine g_aload_nq h 41 dX1_takeOver_41 rfl rfl ?_
  refine gf_Entry_writable h 42 dX1_takeOver_42 kw_214 (by omega) ?_
  obtain ⟨s4, es4, hF⟩ := bn_ex hF
  refine pf_Entry_writable h 45 dX1_takeOver_45 kw_214 (by omega) (by omega) ?_
  rw [← es4]
  refine g_aload_nq h 48 dX1_takeOver_48 rfl rfl ?_
  refine G_typ fun hT_s4 => ?_
  have t9 : (-1) ≤ s4 11 a_old ∧ s4 11 a_old ≤ 17 := hT_s4.1 11 a_old
  refine g_aload_nq h 49 dX1_takeOver_49 rfl rfl ?_
  refine gf_Entry_record h 50 dX1_takeOver_50 kw_217 (by omega) ?_
  obtain ⟨s5, es5, hF⟩ := bn_ex hF
  refine pf_Entry_record h 53 dX1_takeOver_53 kw_217 (by omega) (by omega) ?_
  rw [← es5]
  refine g_aload_nq h 56 dX1_takeOver_56 rfl rfl ?_
  refine g_iconst h 57 dX1_takeOver_57 ?_
  obtain ⟨s6, es6, hF⟩ := bn_ex hF
  refine pf_Entry_looked h 58 dX1_takeOver_58 kw_219 (by omega) (by omega) ?_
  rw [← es6]
  refine g_aload_nq h 61 dX1_takeOver_61 rfl rfl ?_
  obtain ⟨r2, s7, c2, hF⟩ := cb_some hF
  refine g_callV h hE 62 dX1_takeOver_62 (ctX1_clear hl c2) mwX1_clear kw_614 (by decide) (show _ ∧ _ < (192 : Int) by omega) rfl (Nat.le_of_ble_eq_true rfl) rfl (Nat.le_of_ble_eq_true rfl) ⟨Nat.le_of_ble_eq_true rfl, Nat.le_of_ble_eq_true rfl⟩ rfl rfl ?_
  show G X 0 0 65 [(4, a_this), (4, a_old)] [] (s7, m)
  obtain ⟨e1, e2⟩ := some_2 hF
  rw [← e2] at hE
  exact g_vret h 65 dX1_takeOver_65 hE rfl ⟨(Nat.le_of_ble_eq_true rfl), (Nat.le_of_ble_eq_true rfl)⟩
-- Pagewright.balance
def FX7_balance (a_group : Int) (s : S2) : Option (Int × S2) :=
  gd ((-1) ≤ a_group ∧ a_group ≤ 2) <| cb (FX7_members 1 a_group s) fun r1 s1 => cb (FX7_members 0 a_group s1) fun r2 s2 => gd ((-2147483648) ≤ r1 - r2 ∧ r1 - r2 ≤ 2147483647) <| gl1 1000 (fun k1 (x_excess1 : Int) (s3 : S2) => if 0 < x_excess1 then cb (FX7_firstMember 1 a_group s3) fun r3 s4 => if r3 < 0 then some (0, s4) else bn (upd2 s4 19 r3 0) fun s5 => cb (FX7_bringToEnd r3 0 s5) fun r4 s6 => k1 (x_excess1 + (-2)) s6 else some (0, s3)) (r1 - r2) s2
set_option maxRecDepth 100000 in
set_option maxHeartbeats 4000000 in
theorem ctX7_balance {l : Launch} {w : gW} {bs : Nat} (hl : l.stackTraces = false) {a_group : Int} {s m s0 : S2} {r0 : Int} (hF : FX7_balance a_group s = some (r0, s0)) : gMet l w bs yX7_balance cX7_balance 4 none 2 0 [(10, 0), (0, a_group)] (s, m) 0 none (s0, m) := by
  unfold FX7_balance at hF
  obtain ⟨q_a_group, hF⟩ := gd_some hF
  refine g_start hl (by decide) (Nat.le_of_ble_eq_true rfl) rfl fun X h hE => ?_
  have h : gOk X "Pagewright" cX7_balance 4 2 0 0 := h
  have hE : gEnd X l w bs 0 none 0 none (s0, m) := hE
  show G X 0 0 0 [(10, 0), (0, a_group), (1, 0), (1, 0)] [] (s, m)
  refine g_aload_nq h 0 dX7_balance_0 rfl rfl ?_
  refine g_iconst h 1 dX7_balance_1 ?_
  refine g_iload_n h 2 dX7_balance_2 rfl ?_
  obtain ⟨r1, s1, c1, hF⟩ := cb_some hF
  have t1 : 0 ≤ r1 ∧ r1 ≤ 24 := rgX7_members c1
  refine g_callV h hE 3 dX7_balance_3 (ctX7_members hl c1) mwX7_members kw_659 (by decide) (by decide) rfl (Nat.le_of_ble_eq_true rfl) rfl (Nat.le_of_ble_eq_true rfl) ⟨Nat.le_of_ble_eq_true rfl, Nat.le_of_ble_eq_true rfl⟩ rfl rfl ?_
  show G X 0 0 6 [(10, 0), (0, a_group), (1, 0), (1, 0)] [(0, r1)] (s1, m)
  refine g_aload_nq h 6 dX7_balance_6 rfl rfl ?_
  refine g_iconst h 7 dX7_balance_7 ?_
  refine g_iload_n h 8 dX7_balance_8 rfl ?_
  obtain ⟨r2, s2, c2, hF⟩ := cb_some hF
  have t2 : 0 ≤ r2 ∧ r2 ≤ 24 := rgX7_members c2
  refine g_callV h hE 9 dX7_balance_9 (ctX7_members hl c2) mwX7_members kw_659 (by decide) (by decide) rfl (Nat.le_of_ble_eq_true rfl) rfl (Nat.le_of_ble_eq_true rfl) ⟨Nat.le_of_ble_eq_true rfl, Nat.le_of_ble_eq_true rfl⟩ rfl rfl ?_
  show G X 0 0 12 [(10, 0), (0, a_group), (1, 0), (1, 0)] [(0, r2), (0, r1)] (s2, m)
  refine g_isub h 12 dX7_balance_12 ?_
  refine g_istore_n h 13 dX7_balance_13 (Nat.le_of_ble_eq_true rfl) rfl (L' := [(10, 0), (0, a_group), (0, r1 - r2), (1, 0)]) rfl ?_
  obtain ⟨q2, hF⟩ := gd_some hF
  obtain ⟨f1, ef1, hF⟩ := glx1 hF
  have J6 : ∀ (n1 : Nat) (x_excess1 : Int) (s3 : S2), ((-2147483648) ≤ x_excess1 ∧ x_excess1 ≤ 2147483647) → gl1 n1 f1 x_excess1 s3 = some (r0, s0) → G X 0 0 14 [(10, 0), (0, a_group), (0, x_excess1), (1, 0)] [] (s3, m) := by
    intro n1
    induction n1 with
    | zero => intro x_excess1 s3 _ hF; exact (gl1_0 hF).elim
    | succ n1 ih1 =>
      intro x_excess1 s3 q1 hF
      obtain ⟨k1, ek1, hF⟩ := glu1 hF ef1
      have J2 : 0 < x_excess1 → G X 0 0 18 [(10, 0), (0, a_group), (0, x_excess1), (1, 0)] [] (s3, m) := by
        intro h2
        have hF := ite_t h2 hF
        refine g_aload_nq h 18 dX7_balance_18 rfl rfl ?_
        refine g_iconst h 19 dX7_balance_19 ?_
        refine g_iload_n h 20 dX7_balance_20 rfl ?_
        obtain ⟨r3, s4, c3, hF⟩ := cb_some hF
        have t3 : (-1) ≤ r3 ∧ r3 ≤ 23 := rgX7_firstMember c3
        refine g_callV h hE 21 dX7_balance_21 (ctX7_firstMember hl c3) mwX7_firstMember kw_725 (by decide) (by decide) rfl (Nat.le_of_ble_eq_true rfl) rfl (Nat.le_of_ble_eq_true rfl) ⟨Nat.le_of_ble_eq_true rfl, Nat.le_of_ble_eq_true rfl⟩ rfl rfl ?_
        show G X 0 0 24 [(10, 0), (0, a_group), (0, x_excess1), (1, 0)] [(5, r3)] (s4, m)
        refine g_astore_n h 24 dX7_balance_24 (Nat.le_of_ble_eq_true rfl) rfl (L' := [(10, 0), (0, a_group), (0, x_excess1), (5, r3)]) rfl ?_
        have J4 : r3 < 0 → G X 0 0 29 [(10, 0), (0, a_group), (0, x_excess1), (5, r3)] [] (s4, m) := by
          intro h4
          have hF := ite_t h4 hF
          obtain ⟨e1, e2⟩ := some_2 hF
          rw [← e2] at hE
          exact g_vret h 29 dX7_balance_29 hE rfl ⟨(Nat.le_of_ble_eq_true rfl), (Nat.le_of_ble_eq_true rfl)⟩
        have J5 : ¬ (r3 < 0) → G X 0 0 30 [(10, 0), (0, a_group), (0, x_excess1), (5, r3)] [] (s4, m) := by
          intro h5
          have hF := ite_f h5 hF
          refine g_aload_nq h 30 dX7_balance_30 rfl rfl ?_
          refine g_iconst h 31 dX7_balance_31 ?_
          obtain ⟨s5, es5, hF⟩ := bn_ex hF
          refine pf_Page_seen h 32 dX7_balance_32 kw_291 (by omega) (by omega) ?_
          rw [← es5]
          refine g_aload_nq h 35 dX7_balance_35 rfl rfl ?_
          refine g_aload_nq h 36 dX7_balance_36 rfl rfl ?_
          refine g_iconst h 37 dX7_balance_37 ?_
          obtain ⟨r4, s6, c4, hF⟩ := cb_some hF
          refine g_callV h hE 38 dX7_balance_38 (ctX7_bringToEnd hl c4) mwX7_bringToEnd kw_729 (by decide) (by decide) rfl (Nat.le_of_ble_eq_true rfl) rfl (Nat.le_of_ble_eq_true rfl) ⟨Nat.le_of_ble_eq_true rfl, Nat.le_of_ble_eq_true rfl⟩ rfl rfl ?_
          show G X 0 0 41 [(10, 0), (0, a_group), (0, x_excess1), (5, r3)] [] (s6, m)
          refine g_iinc h 41 dX7_balance_41 rfl rfl (L' := [(10, 0), (0, a_group), (0, x_excess1 + (-2)), (5, r3)]) rfl ?_
          refine g_goto h 44 14 dX7_balance_44 (by decide) ?_
          refine G_weak (L' := [(10, 0), (0, a_group), (0, x_excess1 + (-2)), (1, 0)]) ⟨Or.inr rfl, Or.inr rfl, Or.inr rfl, Or.inl rfl, trivial⟩ ?_
          rw [ek1] at hF
          exact ih1 _ _ (by omega) hF
        refine g_aload_nq h 25 dX7_balance_25 rfl rfl ?_
        refine g_ifnonnull h 26 30 dX7_balance_26 (by decide) (fun h3 => ?_) (fun h3 => ?_)
        · exact J5 (Int.not_lt.mpr h3)
        · exact J4 h3
      have J3 : ¬ (0 < x_excess1) → G X 0 0 47 [(10, 0), (0, a_group), (0, x_excess1), (1, 0)] [] (s3, m) := by
        intro h6
        have hF := ite_f h6 hF
        obtain ⟨e1, e2⟩ := some_2 hF
        rw [← e2] at hE
        exact g_vret h 47 dX7_balance_47 hE rfl ⟨(Nat.le_of_ble_eq_true rfl), (Nat.le_of_ble_eq_true rfl)⟩
      refine g_iload_n h 14 dX7_balance_14 rfl ?_
      refine g_if_le h 15 47 (gRi (by omega)) dX7_balance_15 (by decide) (fun h1 => ?_) (fun h1 => ?_)
      · exact J3 (Int.not_lt.mpr h1)
      · exact J2 h1
  exact J6 _ _ _ (by omega) hF
-- Pagewright.forbidStoresInto
def FX7_forbidStoresInto (a_page : Int) (s : S2) : Option (Int × S2) :=
  gd (0 ≤ a_page ∧ a_page ≤ 23) <| gl1 1000 (fun k1 (x_i_space1 : Int) (s1 : S2) => if x_i_space1 < 6 then gl1 1000 (fun k2 (x_i_entry1 : Int) (s2 : S2) => if x_i_entry1 < 32 then bn (fun (s3 : S2) => k2 (x_i_entry1 + 1) s3) fun k3 => gd (0 ≤ 32 * x_i_space1 + x_i_entry1 ∧ 32 * x_i_space1 + x_i_entry1 ≤ 191) <| if s2 9 (32 * x_i_space1 + x_i_entry1) = a_page then cb (FX1_forbidStores (32 * x_i_space1 + x_i_entry1) s2) fun r1 s4 => k3 s4 else k3 s2 else k1 (x_i_space1 + 1) s2) 0 s1 else some (0, s1)) 0 s
set_option maxRecDepth 100000 in
set_option maxHeartbeats 4000000 in
theorem ctX7_forbidStoresInto {l : Launch} {w : gW} {bs : Nat} (hl : l.stackTraces = false) {a_page : Int} {s m s0 : S2} {r0 : Int} (hF : FX7_forbidStoresInto a_page s = some (r0, s0)) : gMet l w bs yX7_forbidStoresInto cX7_forbidStoresInto 10 none 2 0 [(10, 0), (5, a_page)] (s, m) 0 none (s0, m) := by
  unfold FX7_forbidStoresInto at hF
  obtain ⟨q_a_page, hF⟩ := gd_some hF
  refine g_start hl (by decide) (Nat.le_of_ble_eq_true rfl) rfl fun X h hE => ?_
  have h : gOk X "Pagewright" cX7_forbidStoresInto 10 2 0 0 := h
  have hE : gEnd X l w bs 0 none 0 none (s0, m) := hE
  show G X 0 0 0 [(10, 0), (5, a_page), (1, 0), (1, 0), (1, 0), (1, 0), (1, 0), (1, 0), (1, 0), (1, 0)] [] (s, m)
  refine g_aload_nq h 0 dX7_forbidStoresInto_0 rfl rfl ?_
  refine gf_spaces h 1 dX7_forbidStoresInto_1 kw_361 ?_
  refine g_astore_n h 4 dX7_forbidStoresInto_4 (Nat.le_of_ble_eq_true rfl) rfl (L' := [(10, 0), (5, a_page), (12, 0), (1, 0), (1, 0), (1, 0), (1, 0), (1, 0), (1, 0), (1, 0)]) rfl ?_
  refine g_aload_nq h 5 dX7_forbidStoresInto_5 rfl rfl ?_
  refine an_spaces h 6 dX7_forbidStoresInto_6 ?_
  refine g_istore_n h 7 dX7_forbidStoresInto_7 (Nat.le_of_ble_eq_true rfl) rfl (L' := [(10, 0), (5, a_page), (12, 0), (0, 6), (1, 0), (1, 0), (1, 0), (1, 0), (1, 0), (1, 0)]) rfl ?_
  refine g_iconst h 8 dX7_forbidStoresInto_8 ?_
  refine g_istore h 9 dX7_forbidStoresInto_9 (Nat.le_of_ble_eq_true rfl) rfl (L' := [(10, 0), (5, a_page), (12, 0), (0, 6), (0, 0), (1, 0), (1, 0), (1, 0), (1, 0), (1, 0)]) rfl ?_
  obtain ⟨f1, ef1, hF⟩ := glx1 hF
  have J11 : ∀ (n1 : Nat) (x_i_space1 : Int) (s1 : S2), (0 ≤ x_i_space1 ∧ x_i_space1 ≤ 6) → gl1 n1 f1 x_i_space1 s1 = some (r0, s0) → G X 0 0 11 [(10, 0), (5, a_page), (12, 0), (0, 6), (0, x_i_space1), (1, 0), (1, 0), (1, 0), (1, 0), (1, 0)] [] (s1, m) := by
    intro n1
    induction n1 with
    | zero => intro x_i_space1 s1 _ hF; exact (gl1_0 hF).elim
    | succ n1 ih1 =>
      intro x_i_space1 s1 q1 hF
      obtain ⟨k1, ek1, hF⟩ := glu1 hF ef1
      have J2 : x_i_space1 < 6 → G X 0 0 17 [(10, 0), (5, a_page), (12, 0), (0, 6), (0, x_i_space1), (1, 0), (1, 0), (1, 0), (1, 0), (1, 0)] [] (s1, m) := by
        intro h2
        have hF := ite_t h2 hF
        refine g_aload_nq h 17 dX7_forbidStoresInto_17 rfl rfl ?_
        refine g_iload h 18 dX7_forbidStoresInto_18 rfl ?_
        refine al_spaces h 20 dX7_forbidStoresInto_20 (by omega) ?_
        refine g_astore h 21 dX7_forbidStoresInto_21 (Nat.le_of_ble_eq_true rfl) rfl (L' := [(10, 0), (5, a_page), (12, 0), (0, 6), (0, x_i_space1), (8, x_i_space1), (1, 0), (1, 0), (1, 0), (1, 0)]) rfl ?_
        refine g_aloadq h 23 dX7_forbidStoresInto_23 rfl rfl ?_
        refine gf_Space_entries h 25 dX7_forbidStoresInto_25 kw_254 (by omega) ?_
        refine g_astore h 28 dX7_forbidStoresInto_28 (Nat.le_of_ble_eq_true rfl) rfl (L' := [(10, 0), (5, a_page), (12, 0), (0, 6), (0, x_i_space1), (8, x_i_space1), (20, x_i_space1), (1, 0), (1, 0), (1, 0)]) rfl ?_
        refine g_aloadq h 30 dX7_forbidStoresInto_30 rfl rfl ?_
        refine an_Space_entries h 32 dX7_forbidStoresInto_32 (by omega) ?_
        refine g_istore h 33 dX7_forbidStoresInto_33 (Nat.le_of_ble_eq_true rfl) rfl (L' := [(10, 0), (5, a_page), (12, 0), (0, 6), (0, x_i_space1), (8, x_i_space1), (20, x_i_space1), (0, 32), (1, 0), (1, 0)]) rfl ?_
        refine g_iconst h 35 dX7_forbidStoresInto_35 ?_
        refine g_istore h 36 dX7_forbidStoresInto_36 (Nat.le_of_ble_eq_true rfl) rfl (L' := [(10, 0), (5, a_page), (12, 0), (0, 6), (0, x_i_space1), (8, x_i_space1), (20, x_i_space1), (0, 32), (0, 0), (1, 0)]) rfl ?_
        obtain ⟨f2, ef2, hF⟩ := glx1 hF
        have J10 : ∀ (n2 : Nat) (x_i_entry1 : Int) (s2 : S2), (0 ≤ x_i_entry1 ∧ x_i_entry1 ≤ 32) → gl1 n2 f2 x_i_entry1 s2 = some (r0, s0) → G X 0 0 38 [(10, 0), (5, a_page), (12, 0), (0, 6), (0, x_i_space1), (8, x_i_space1), (20, x_i_space1), (0, 32), (0, x_i_entry1), (1, 0)] [] (s2, m) := by
          intro n2
          induction n2 with
          | zero => intro x_i_entry1 s2 _ hF; exact (gl1_0 hF).elim
          | succ n2 ih2 =>
            intro x_i_entry1 s2 q2 hF
            obtain ⟨k2, ek2, hF⟩ := glu1 hF ef2
            have J5 : x_i_entry1 < 32 → G X 0 0 45 [(10, 0), (5, a_page), (12, 0), (0, 6), (0, x_i_space1), (8, x_i_space1), (20, x_i_space1), (0, 32), (0, x_i_entry1), (1, 0)] [] (s2, m) := by
              intro h4
              have hF := ite_t h4 hF
              refine g_aloadq h 45 dX7_forbidStoresInto_45 rfl rfl ?_
              refine g_iload h 47 dX7_forbidStoresInto_47 rfl ?_
              refine al_Space_entries h 49 dX7_forbidStoresInto_49 (by omega) (by omega) ?_
              refine g_astore h 50 dX7_forbidStoresInto_50 (Nat.le_of_ble_eq_true rfl) rfl (L' := [(10, 0), (5, a_page), (12, 0), (0, 6), (0, x_i_space1), (8, x_i_space1), (20, x_i_space1), (0, 32), (0, x_i_entry1), (4, 32 * x_i_space1 + x_i_entry1)]) rfl ?_
              obtain ⟨k3, ek3, hF⟩ := bn_ex hF
              have J7 : ∀ (s3 : S2), k3 s3 = some (r0, s0) → G X 0 0 66 [(10, 0), (5, a_page), (12, 0), (0, 6), (0, x_i_space1), (8, x_i_space1), (20, x_i_space1), (0, 32), (0, x_i_entry1), (4, 32 * x_i_space1 + x_i_entry1)] [] (s3, m) := by
                intro s3 hF
                rw [ek3] at hF
                refine g_iinc h 66 dX7_forbidStoresInto_66 rfl rfl (L' := [(10, 0), (5, a_page), (12, 0), (0, 6), (0, x_i_space1), (8, x_i_space1), (20, x_i_space1), (0, 32), (0, x_i_entry1 + 1), (4, 32 * x_i_space1 + x_i_entry1)]) rfl ?_
                refine g_goto h 69 38 dX7_forbidStoresInto_69 (by decide) ?_
                refine G_weak (L' := [(10, 0), (5, a_page), (12, 0), (0, 6), (0, x_i_space1), (8, x_i_space1), (20, x_i_space1), (0, 32), (0, x_i_entry1 + 1), (1, 0)]) ⟨Or.inr rfl, Or.inr rfl, Or.inr rfl, Or.inr rfl, Or.inr rfl, Or.inr rfl, Or.inr rfl, Or.inr rfl, Or.inr rfl, Or.inl rfl, trivial⟩ ?_
                rw [ek2] at hF
                exact ih2 _ _ (by omega) hF
              refine G_typ fun hT_s2 => ?_
              have t1 : (-1) ≤ s2 9 (32 * x_i_space1 + x_i_entry1) ∧ s2 9 (32 * x_i_space1 + x_i_entry1) ≤ 23 := hT_s2.1 9 (32 * x_i_space1 + x_i_entry1)
              obtain ⟨q3, hF⟩ := gd_some hF
              have J8 : s2 9 (32 * x_i_space1 + x_i_entry1) = a_page → G X 0 0 61 [(10, 0), (5, a_page), (12, 0), (0, 6), (0, x_i_space1), (8, x_i_space1), (20, x_i_space1), (0, 32), (0, x_i_entry1), (4, 32 * x_i_space1 + x_i_entry1)] [] (s2, m) := by
                intro h6
                have hF := ite_t h6 hF
                refine g_aloadq h 61 dX7_forbidStoresInto_61 rfl rfl ?_
                obtain ⟨r1, s4, c1, hF⟩ := cb_some hF
                refine g_callV h hE 63 dX7_forbidStoresInto_63 (ctX1_forbidStores hl c1) mwX1_forbidStores kw_597 (by decide) (show _ ∧ _ < (192 : Int) by omega) rfl (Nat.le_of_ble_eq_true rfl) rfl (Nat.le_of_ble_eq_true rfl) ⟨Nat.le_of_ble_eq_true rfl, Nat.le_of_ble_eq_true rfl⟩ rfl rfl ?_
                show G X 0 0 66 [(10, 0), (5, a_page), (12, 0), (0, 6), (0, x_i_space1), (8, x_i_space1), (20, x_i_space1), (0, 32), (0, x_i_entry1), (4, 32 * x_i_space1 + x_i_entry1)] [] (s4, m)
                exact J7 _ hF
              have J9 : ¬ (s2 9 (32 * x_i_space1 + x_i_entry1) = a_page) → G X 0 0 66 [(10, 0), (5, a_page), (12, 0), (0, 6), (0, x_i_space1), (8, x_i_space1), (20, x_i_space1), (0, 32), (0, x_i_entry1), (4, 32 * x_i_space1 + x_i_entry1)] [] (s2, m) := by
                intro h7
                have hF := ite_f h7 hF
                exact J7 _ hF
              refine g_aloadq h 52 dX7_forbidStoresInto_52 rfl rfl ?_
              refine gf_Entry_page h 54 dX7_forbidStoresInto_54 kw_213 (by omega) ?_
              refine g_aload_nq h 57 dX7_forbidStoresInto_57 rfl rfl ?_
              refine g_acmp_ne h 58 66 (show -1 ≤ _ ∧ _ < (24 : Int) by omega) (show -1 ≤ _ ∧ _ < (24 : Int) by omega) (by decide) dX7_forbidStoresInto_58 (by decide) (fun h5 => ?_) (fun h5 => ?_)
              · exact J9 h5
              · exact J8 h5
            have J6 : ¬ (x_i_entry1 < 32) → G X 0 0 72 [(10, 0), (5, a_page), (12, 0), (0, 6), (0, x_i_space1), (8, x_i_space1), (20, x_i_space1), (0, 32), (0, x_i_entry1), (1, 0)] [] (s2, m) := by
              intro h8
              have hF := ite_f h8 hF
              refine g_iinc h 72 dX7_forbidStoresInto_72 rfl rfl (L' := [(10, 0), (5, a_page), (12, 0), (0, 6), (0, x_i_space1 + 1), (8, x_i_space1), (20, x_i_space1), (0, 32), (0, x_i_entry1), (1, 0)]) rfl ?_
              refine g_goto h 75 11 dX7_forbidStoresInto_75 (by decide) ?_
              refine G_weak (L' := [(10, 0), (5, a_page), (12, 0), (0, 6), (0, x_i_space1 + 1), (1, 0), (1, 0), (1, 0), (1, 0), (1, 0)]) ⟨Or.inr rfl, Or.inr rfl, Or.inr rfl, Or.inr rfl, Or.inr rfl, Or.inl rfl, Or.inl rfl, Or.inl rfl, Or.inl rfl, Or.inr rfl, trivial⟩ ?_
              rw [ek1] at hF
              exact ih1 _ _ (by omega) hF
            refine g_iload h 38 dX7_forbidStoresInto_38 rfl ?_
            refine g_iload h 40 dX7_forbidStoresInto_40 rfl ?_
            refine g_icmp_ge h 42 72 (gRi (by omega)) (gRi (by omega)) dX7_forbidStoresInto_42 (by decide) (fun h3 => ?_) (fun h3 => ?_)
            · exact J6 (Int.not_lt.mpr h3)
            · exact J5 h3
        exact J10 _ _ _ (by omega) hF
      have J3 : ¬ (x_i_space1 < 6) → G X 0 0 78 [(10, 0), (5, a_page), (12, 0), (0, 6), (0, x_i_space1), (1, 0), (1, 0), (1, 0), (1, 0), (1, 0)] [] (s1, m) := by
        intro h9
        have hF := ite_f h9 hF
        obtain ⟨e1, e2⟩ := some_2 hF
        rw [← e2] at hE
        exact g_vret h 78 dX7_forbidStoresInto_78 hE rfl ⟨(Nat.le_of_ble_eq_true rfl), (Nat.le_of_ble_eq_true rfl)⟩
      refine g_iload h 11 dX7_forbidStoresInto_11 rfl ?_
      refine g_iload_n h 13 dX7_forbidStoresInto_13 rfl ?_
      refine g_icmp_ge h 14 78 (gRi (by omega)) (gRi (by omega)) dX7_forbidStoresInto_14 (by decide) (fun h1 => ?_) (fun h1 => ?_)
      · exact J3 (Int.not_lt.mpr h1)
      · exact J2 h1
  exact J11 _ _ _ (by omega) hF
-- Pagewright.frameAt
def FX7_frameAt (a_list a_place : Int) (s : S2) : Option (Int × S2) :=
  rgd (-1) 23 <| gd (0 ≤ a_list ∧ a_list ≤ 1) <| gd ((-2147483648) ≤ a_place ∧ a_place ≤ 2147483647) <| gl1 1000 (fun k1 (x_i_page1 : Int) (s1 : S2) => if x_i_page1 < 24 then bn (fun (s2 : S2) => some (x_i_page1, s2)) fun k2 => bn (fun (s3 : S2) => k1 (x_i_page1 + 1) s3) fun k3 => if ((s1 15 x_i_page1 ≠ 0) ∧ (s1 17 x_i_page1 = a_list)) ∧ (((-1) = (-1)) ∨ (s1 21 x_i_page1 = (-1))) then cb (FX7_membersAhead x_i_page1 s1) fun r1 s4 => if r1 = a_place then k2 s4 else k3 s4 else k3 s1 else some ((-1), s1)) 0 s
theorem rgX7_frameAt {a_list a_place : Int} {s s0 : S2} {r0 : Int} (hF : FX7_frameAt a_list a_place s = some (r0, s0)) : (-1) ≤ r0 ∧ r0 ≤ 23 := (rgd_some hF).2
set_option maxRecDepth 100000 in
set_option maxHeartbeats 4000000 in
theorem ctX7_frameAt {l : Launch} {w : gW} {bs : Nat} (hl : l.stackTraces = false) {a_list a_place : Int} {s m s0 : S2} {r0 : Int} (hF : FX7_frameAt a_list a_place s = some (r0, s0)) : gMet l w bs yX7_frameAt cX7_frameAt 7 (some FieldType.int) 2 0 [(10, 0), (0, a_list), (0, a_place)] (s, m) 0 (some (0, r0)) (s0, m) := by
  unfold FX7_frameAt at hF
  obtain ⟨hF, hr⟩ := rgd_some hF
  obtain ⟨q_a_list, hF⟩ := gd_some hF
  obtain ⟨q_a_place, hF⟩ := gd_some hF
  refine g_start hl (by decide) (Nat.le_of_ble_eq_true rfl) rfl fun X h hE => ?_
  have h : gOk X "Pagewright" cX7_frameAt 7 2 0 0 := h
  have hE : gEnd X l w bs 0 (some FieldType.int) 0 (some (0, r0)) (s0, m) := hE
  show G X 0 0 0 [(10, 0), (0, a_list), (0, a_place), (1, 0), (1, 0), (1, 0), (1, 0)] [] (s, m)
  refine g_aload_nq h 0 dX7_frameAt_0 rfl rfl ?_
  refine gf_pages h 1 dX7_frameAt_1 kw_362 ?_
  refine g_astore_n h 4 dX7_frameAt_4 (Nat.le_of_ble_eq_true rfl) rfl (L' := [(10, 0), (0, a_list), (0, a_place), (13, 0), (1, 0), (1, 0), (1, 0)]) rfl ?_
  refine g_aload_nq h 5 dX7_frameAt_5 rfl rfl ?_
  refine an_pages h 6 dX7_frameAt_6 ?_
  refine g_istore h 7 dX7_frameAt_7 (Nat.le_of_ble_eq_true rfl) rfl (L' := [(10, 0), (0, a_list), (0, a_place), (13, 0), (0, 24), (1, 0), (1, 0)]) rfl ?_
  refine g_iconst h 9 dX7_frameAt_9 ?_
  refine g_istore h 10 dX7_frameAt_10 (Nat.le_of_ble_eq_true rfl) rfl (L' := [(10, 0), (0, a_list), (0, a_place), (13, 0), (0, 24), (0, 0), (1, 0)]) rfl ?_
  obtain ⟨f1, ef1, hF⟩ := glx1 hF
  have J8 : ∀ (n1 : Nat) (x_i_page1 : Int) (s1 : S2), (0 ≤ x_i_page1 ∧ x_i_page1 ≤ 24) → gl1 n1 f1 x_i_page1 s1 = some (r0, s0) → G X 0 0 12 [(10, 0), (0, a_list), (0, a_place), (13, 0), (0, 24), (0, x_i_page1), (1, 0)] [] (s1, m) := by
    intro n1
    induction n1 with
    | zero => intro x_i_page1 s1 _ hF; exact (gl1_0 hF).elim
    | succ n1 ih1 =>
      intro x_i_page1 s1 q1 hF
      obtain ⟨k1, ek1, hF⟩ := glu1 hF ef1
      have J2 : x_i_page1 < 24 → G X 0 0 19 [(10, 0), (0, a_list), (0, a_place), (13, 0), (0, 24), (0, x_i_page1), (1, 0)] [] (s1, m) := by
        intro h2
        have hF := ite_t h2 hF
        refine g_aload_nq h 19 dX7_frameAt_19 rfl rfl ?_
        refine g_iload h 20 dX7_frameAt_20 rfl ?_
        refine al_pages h 22 dX7_frameAt_22 (by omega) ?_
        refine g_astore h 23 dX7_frameAt_23 (Nat.le_of_ble_eq_true rfl) rfl (L' := [(10, 0), (0, a_list), (0, a_place), (13, 0), (0, 24), (0, x_i_page1), (5, x_i_page1)]) rfl ?_
        obtain ⟨k2, ek2, hF⟩ := bn_ex hF
        have J4 : ∀ (s2 : S2), k2 s2 = some (r0, s0) → G X 0 0 45 [(10, 0), (0, a_list), (0, a_place), (13, 0), (0, 24), (0, x_i_page1), (5, x_i_page1)] [] (s2, m) := by
          intro s2 hF
          rw [ek2] at hF
          refine g_aloadq h 45 dX7_frameAt_45 rfl rfl ?_
          refine gf_Page_frame h 47 dX7_frameAt_47 kw_282 (by omega) ?_
          obtain ⟨e1, e2⟩ := some_2 hF
          rw [← e1, ← e2] at hE
          exact g_iret h 50 dX7_frameAt_50 hE rfl rfl ⟨(Nat.le_of_ble_eq_true rfl), (Nat.le_of_ble_eq_true rfl)⟩
        obtain ⟨k3, ek3, hF⟩ := bn_ex hF
        have J5 : ∀ (s3 : S2), k3 s3 = some (r0, s0) → G X 0 0 51 [(10, 0), (0, a_list), (0, a_place), (13, 0), (0, 24), (0, x_i_page1), (5, x_i_page1)] [] (s3, m) := by
          intro s3 hF
          rw [ek3] at hF
          refine g_iinc h 51 dX7_frameAt_51 rfl rfl (L' := [(10, 0), (0, a_list), (0, a_place), (13, 0), (0, 24), (0, x_i_page1 + 1), (5, x_i_page1)]) rfl ?_
          refine g_goto h 54 12 dX7_frameAt_54 (by decide) ?_
          refine G_weak (L' := [(10, 0), (0, a_list), (0, a_place), (13, 0), (0, 24), (0, x_i_page1 + 1), (1, 0)]) ⟨Or.inr rfl, Or.inr rfl, Or.inr rfl, Or.inr rfl, Or.inr rfl, Or.inr rfl, Or.inl rfl, trivial⟩ ?_
          rw [ek1] at hF
          exact ih1 _ _ (by omega) hF
        refine G_typ fun hT_s1 => ?_
        have t1 : 0 ≤ s1 15 x_i_page1 ∧ s1 15 x_i_page1 ≤ 2 := hT_s1.1 15 x_i_page1
        have t2 : 0 ≤ s1 17 x_i_page1 ∧ s1 17 x_i_page1 ≤ 1 := hT_s1.1 17 x_i_page1
        have t3 : 0 ≤ s1 21 x_i_page1 ∧ s1 21 x_i_page1 ≤ 2 := hT_s1.1 21 x_i_page1
        have J6 : ((s1 15 x_i_page1 ≠ 0) ∧ (s1 17 x_i_page1 = a_list)) ∧ (((-1) = (-1)) ∨ (s1 21 x_i_page1 = (-1))) → G X 0 0 35 [(10, 0), (0, a_list), (0, a_place), (13, 0), (0, 24), (0, x_i_page1), (5, x_i_page1)] [] (s1, m) := by
          intro h4
          have hF := ite_t h4 hF
          refine g_aload_nq h 35 dX7_frameAt_35 rfl rfl ?_
          refine g_aloadq h 36 dX7_frameAt_36 rfl rfl ?_
          obtain ⟨r1, s4, c1, hF⟩ := cb_some hF
          have t4 : 0 ≤ r1 ∧ r1 ≤ 24 := rgX7_membersAhead c1
          refine g_callV h hE 38 dX7_frameAt_38 (ctX7_membersAhead hl c1) mwX7_membersAhead kw_974 (by decide) (by decide) rfl (Nat.le_of_ble_eq_true rfl) rfl (Nat.le_of_ble_eq_true rfl) ⟨Nat.le_of_ble_eq_true rfl, Nat.le_of_ble_eq_true rfl⟩ rfl rfl ?_
          show G X 0 0 41 [(10, 0), (0, a_list), (0, a_place), (13, 0), (0, 24), (0, x_i_page1), (5, x_i_page1)] [(0, r1)] (s4, m)
          refine g_iload_n h 41 dX7_frameAt_41 rfl ?_
          refine g_icmp_ne h 42 51 (gRi (by omega)) (gRi (by omega)) dX7_frameAt_42 (by decide) (fun h5 => ?_) (fun h5 => ?_)
          · have hF := ite_f h5 hF
            exact J5 _ hF
          · have hF := ite_t h5 hF
            exact J4 _ hF
        have J7 : ¬ (((s1 15 x_i_page1 ≠ 0) ∧ (s1 17 x_i_page1 = a_list)) ∧ (((-1) = (-1)) ∨ (s1 21 x_i_page1 = (-1)))) → G X 0 0 51 [(10, 0), (0, a_list), (0, a_place), (13, 0), (0, 24), (0, x_i_page1), (5, x_i_page1)] [] (s1, m) := by
          intro h6
          have hF := ite_f h6 hF
          exact J5 _ hF
        refine g_aloadq h 25 dX7_frameAt_25 rfl rfl ?_
        refine g_iload_n h 27 dX7_frameAt_27 rfl ?_
        refine g_iconst h 28 dX7_frameAt_28 ?_
        refine g_callV h hE 29 dX7_frameAt_29 (cpX2_isMember (a_this := x_i_page1) (a_ofList := a_list) (a_ofGroup := (-1)) hl (by omega) (by omega) (by omega)) mwX2_isMember kw_663 (by decide) (show _ ∧ _ < (24 : Int) by omega) rfl (Nat.le_of_ble_eq_true rfl) rfl (Nat.le_of_ble_eq_true rfl) ⟨Nat.le_of_ble_eq_true rfl, Nat.le_of_ble_eq_true rfl⟩ rfl rfl ?_
        show G X 0 0 32 [(10, 0), (0, a_list), (0, a_place), (13, 0), (0, 24), (0, x_i_page1), (5, x_i_page1)] [(0, (if ((s1 15 x_i_page1 ≠ 0) ∧ (s1 17 x_i_page1 = a_list)) ∧ (((-1) = (-1)) ∨ (s1 21 x_i_page1 = (-1))) then 1 else 0 : Int))] (s1, m)
        refine g_if_eq h 32 51 (gRi gR_ite) dX7_frameAt_32 (by decide) (fun h3 => ?_) (fun h3 => ?_)
        · exact J7 (iz_f h3)
        · exact J6 (iz_t h3)
      have J3 : ¬ (x_i_page1 < 24) → G X 0 0 57 [(10, 0), (0, a_list), (0, a_place), (13, 0), (0, 24), (0, x_i_page1), (1, 0)] [] (s1, m) := by
        intro h7
        have hF := ite_f h7 hF
        refine g_iconst h 57 dX7_frameAt_57 ?_
        obtain ⟨e1, e2⟩ := some_2 hF
        rw [← e1, ← e2] at hE
        exact g_iret h 58 dX7_frameAt_58 hE rfl rfl ⟨(Nat.le_of_ble_eq_true rfl), (Nat.le_of_ble_eq_true rfl)⟩
      refine g_iload h 12 dX7_frameAt_12 rfl ?_
      refine g_iload h 14 dX7_frameAt_14 rfl ?_
      refine g_icmp_ge h 16 57 (gRi (by omega)) (gRi (by omega)) dX7_frameAt_16 (by decide) (fun h1 => ?_) (fun h1 => ?_)
      · exact J3 (Int.not_lt.mpr h1)
      · exact J2 h1
  exact J8 _ _ _ (by omega) hF
-- Pagewright.give
def FX7_give (a_entry a_page a_writable : Int) (s : S2) : Option (Int × S2) :=
  gd (0 ≤ a_entry ∧ a_entry ≤ 191) <| gd (0 ≤ a_page ∧ a_page ≤ 23) <| gd (0 ≤ a_writable ∧ a_writable ≤ 1) <| cb (FX7_leave a_entry s) fun r1 s1 => bn (upd2 s1 8 a_entry 1) fun s2 => bn (upd2 s2 9 a_entry a_page) fun s3 => bn (upd2 s3 10 a_entry a_writable) fun s4 => gd (0 ≤ (s4 20 a_page) + 1 ∧ (s4 20 a_page) + 1 ≤ 192) <| bn (upd2 s4 20 a_page ((s4 20 a_page) + 1)) fun s5 => some (0, s5)
set_option maxRecDepth 100000 in
set_option maxHeartbeats 4000000 in
theorem ctX7_give {l : Launch} {w : gW} {bs : Nat} (hl : l.stackTraces = false) {a_entry a_page a_writable : Int} {s m s0 : S2} {r0 : Int} (hF : FX7_give a_entry a_page a_writable s = some (r0, s0)) : gMet l w bs yX7_give cX7_give 4 none 2 0 [(10, 0), (4, a_entry), (5, a_page), (0, a_writable)] (s, m) 0 none (s0, m) := by
  unfold FX7_give at hF
  obtain ⟨q_a_entry, hF⟩ := gd_some hF
  obtain ⟨q_a_page, hF⟩ := gd_some hF
  obtain ⟨q_a_writable, hF⟩ := gd_some hF
  refine g_start hl (by decide) (Nat.le_of_ble_eq_true rfl) rfl fun X h hE => ?_
  have h : gOk X "Pagewright" cX7_give 4 2 0 0 := h
  have hE : gEnd X l w bs 0 none 0 none (s0, m) := hE
  show G X 0 0 0 [(10, 0), (4, a_entry), (5, a_page), (0, a_writable)] [] (s, m)
  refine g_aload_nq h 0 dX7_give_0 rfl rfl ?_
  refine g_aload_nq h 1 dX7_give_1 rfl rfl ?_
  obtain ⟨r1, s1, c1, hF⟩ := cb_some hF
  refine g_callV h hE 2 dX7_give_2 (ctX7_leave hl c1) mwX7_leave kw_565 (by decide) (by decide) rfl (Nat.le_of_ble_eq_true rfl) rfl (Nat.le_of_ble_eq_true rfl) ⟨Nat.le_of_ble_eq_true rfl, Nat.le_of_ble_eq_true rfl⟩ rfl rfl ?_
  show G X 0 0 5 [(10, 0), (4, a_entry), (5, a_page), (0, a_writable)] [] (s1, m)
  refine g_aload_nq h 5 dX7_give_5 rfl rfl ?_
  refine g_iconst h 6 dX7_give_6 ?_
  obtain ⟨s2, es2, hF⟩ := bn_ex hF
  refine pf_Entry_state h 7 dX7_give_7 kw_211 (by omega) (by omega) ?_
  rw [← es2]
  refine g_aload_nq h 10 dX7_give_10 rfl rfl ?_
  refine g_aload_nq h 11 dX7_give_11 rfl rfl ?_
  obtain ⟨s3, es3, hF⟩ := bn_ex hF
  refine pf_Entry_page h 12 dX7_give_12 kw_213 (by omega) (by omega) ?_
  rw [← es3]
  refine g_aload_nq h 15 dX7_give_15 rfl rfl ?_
  refine g_iload_n h 16 dX7_give_16 rfl ?_
  obtain ⟨s4, es4, hF⟩ := bn_ex hF
  refine pf_Entry_writable h 17 dX7_give_17 kw_216 (by omega) (by omega) ?_
  rw [← es4]
  refine g_aload_nq h 20 dX7_give_20 rfl rfl ?_
  refine G_typ fun hT_s4 => ?_
  have t1 : 0 ≤ s4 20 a_page ∧ s4 20 a_page ≤ 192 := hT_s4.1 20 a_page
  refine g_dup h 21 dX7_give_21 (show (5 : Nat) ≠ 2 by decide) ?_
  refine gf_Page_holders h 22 dX7_give_22 kw_294 (by omega) ?_
  refine g_iconst h 25 dX7_give_25 ?_
  refine g_iadd h 26 dX7_give_26 ?_
  obtain ⟨q1, hF⟩ := gd_some hF
  obtain ⟨s5, es5, hF⟩ := bn_ex hF
  refine pf_Page_holders h 27 dX7_give_27 kw_294 (by omega) (by omega) ?_
  rw [← es5]
  obtain ⟨e1, e2⟩ := some_2 hF
  rw [← e2] at hE
  exact g_vret h 30 dX7_give_30 hE rfl ⟨(Nat.le_of_ble_eq_true rfl), (Nat.le_of_ble_eq_true rfl)⟩
-- Pagewright.handleAll
def FX7_handleAll (s : S2) : Option (Int × S2) :=
  gl1 1000 (fun k1 (x_i_cache1 : Int) (s1 : S2) => if x_i_cache1 < 2 then cb (FX0_obey x_i_cache1 s1) fun r1 s2 => k1 (x_i_cache1 + 1) s2 else some (0, s1)) 0 s
set_option maxRecDepth 100000 in
set_option maxHeartbeats 4000000 in
theorem ctX7_handleAll {l : Launch} {w : gW} {bs : Nat} (hl : l.stackTraces = false) {s m s0 : S2} {r0 : Int} (hF : FX7_handleAll s = some (r0, s0)) : gMet l w bs yX7_handleAll cX7_handleAll 5 none 2 0 [(10, 0)] (s, m) 0 none (s0, m) := by
  unfold FX7_handleAll at hF
  refine g_start hl (by decide) (Nat.le_of_ble_eq_true rfl) rfl fun X h hE => ?_
  have h : gOk X "Pagewright" cX7_handleAll 5 2 0 0 := h
  have hE : gEnd X l w bs 0 none 0 none (s0, m) := hE
  show G X 0 0 0 [(10, 0), (1, 0), (1, 0), (1, 0), (1, 0)] [] (s, m)
  refine g_aload_nq h 0 dX7_handleAll_0 rfl rfl ?_
  refine gf_caches h 1 dX7_handleAll_1 kw_363 ?_
  refine g_astore_n h 4 dX7_handleAll_4 (Nat.le_of_ble_eq_true rfl) rfl (L' := [(10, 0), (14, 0), (1, 0), (1, 0), (1, 0)]) rfl ?_
  refine g_aload_nq h 5 dX7_handleAll_5 rfl rfl ?_
  refine an_caches h 6 dX7_handleAll_6 ?_
  refine g_istore_n h 7 dX7_handleAll_7 (Nat.le_of_ble_eq_true rfl) rfl (L' := [(10, 0), (14, 0), (0, 2), (1, 0), (1, 0)]) rfl ?_
  refine g_iconst h 8 dX7_handleAll_8 ?_
  refine g_istore_n h 9 dX7_handleAll_9 (Nat.le_of_ble_eq_true rfl) rfl (L' := [(10, 0), (14, 0), (0, 2), (0, 0), (1, 0)]) rfl ?_
  obtain ⟨f1, ef1, hF⟩ := glx1 hF
  have J4 : ∀ (n1 : Nat) (x_i_cache1 : Int) (s1 : S2), (0 ≤ x_i_cache1 ∧ x_i_cache1 ≤ 2) → gl1 n1 f1 x_i_cache1 s1 = some (r0, s0) → G X 0 0 10 [(10, 0), (14, 0), (0, 2), (0, x_i_cache1), (1, 0)] [] (s1, m) := by
    intro n1
    induction n1 with
    | zero => intro x_i_cache1 s1 _ hF; exact (gl1_0 hF).elim
    | succ n1 ih1 =>
      intro x_i_cache1 s1 q1 hF
      obtain ⟨k1, ek1, hF⟩ := glu1 hF ef1
      have J2 : x_i_cache1 < 2 → G X 0 0 15 [(10, 0), (14, 0), (0, 2), (0, x_i_cache1), (1, 0)] [] (s1, m) := by
        intro h2
        have hF := ite_t h2 hF
        refine g_aload_nq h 15 dX7_handleAll_15 rfl rfl ?_
        refine g_iload_n h 16 dX7_handleAll_16 rfl ?_
        refine al_caches h 17 dX7_handleAll_17 (by omega) ?_
        refine g_astore h 18 dX7_handleAll_18 (Nat.le_of_ble_eq_true rfl) rfl (L' := [(10, 0), (14, 0), (0, 2), (0, x_i_cache1), (3, x_i_cache1)]) rfl ?_
        refine g_aloadq h 20 dX7_handleAll_20 rfl rfl ?_
        obtain ⟨r1, s2, c1, hF⟩ := cb_some hF
        have t1 : 0 ≤ r1 ∧ r1 ≤ 4 := rgX0_obey c1
        refine g_callV h hE 22 dX7_handleAll_22 (ctX0_obey hl c1) mwX0_obey kw_683 (by decide) (show _ ∧ _ < (2 : Int) by omega) rfl (Nat.le_of_ble_eq_true rfl) rfl (Nat.le_of_ble_eq_true rfl) ⟨Nat.le_of_ble_eq_true rfl, Nat.le_of_ble_eq_true rfl⟩ rfl rfl ?_
        show G X 0 0 25 [(10, 0), (14, 0), (0, 2), (0, x_i_cache1), (3, x_i_cache1)] [(0, r1)] (s2, m)
        refine g_pop h 25 dX7_handleAll_25 (show (0 : Nat) ≠ 2 by decide) ?_
        refine g_iinc h 26 dX7_handleAll_26 rfl rfl (L' := [(10, 0), (14, 0), (0, 2), (0, x_i_cache1 + 1), (3, x_i_cache1)]) rfl ?_
        refine g_goto h 29 10 dX7_handleAll_29 (by decide) ?_
        refine G_weak (L' := [(10, 0), (14, 0), (0, 2), (0, x_i_cache1 + 1), (1, 0)]) ⟨Or.inr rfl, Or.inr rfl, Or.inr rfl, Or.inr rfl, Or.inl rfl, trivial⟩ ?_
        rw [ek1] at hF
        exact ih1 _ _ (by omega) hF
      have J3 : ¬ (x_i_cache1 < 2) → G X 0 0 32 [(10, 0), (14, 0), (0, 2), (0, x_i_cache1), (1, 0)] [] (s1, m) := by
        intro h3
        have hF := ite_f h3 hF
        obtain ⟨e1, e2⟩ := some_2 hF
        rw [← e2] at hE
        exact g_vret h 32 dX7_handleAll_32 hE rfl ⟨(Nat.le_of_ble_eq_true rfl), (Nat.le_of_ble_eq_true rfl)⟩
      refine g_iload_n h 10 dX7_handleAll_10 rfl ?_
      refine g_iload_n h 11 dX7_handleAll_11 rfl ?_
      refine g_icmp_ge h 12 32 (gRi (by omega)) (gRi (by omega)) dX7_handleAll_12 (by decide) (fun h1 => ?_) (fun h1 => ?_)
      · exact J3 (Int.not_lt.mpr h1)
      · exact J2 h1
  exact J4 _ _ _ (by omega) hF
-- Pagewright.lowestWithoutPage
def FX7_lowestWithoutPage (a_lingering : Int) (s : S2) : Option (Int × S2) :=
  rgd (-1) 23 <| gd (0 ≤ a_lingering ∧ a_lingering ≤ 1) <| gl1 1000 (fun k1 (x_i1 : Int) (s1 : S2) => if x_i1 < 24 then bn (fun (s2 : S2) => some (x_i1, s2)) fun k2 => bn (fun (s3 : S2) => k1 (x_i1 + 1) s3) fun k3 => if s1 15 x_i1 = 0 then cb (FX7_isTranslated x_i1 s1) fun r1 s4 => if r1 = a_lingering then k2 s4 else k3 s4 else k3 s1 else some ((-1), s1)) 0 s
theorem rgX7_lowestWithoutPage {a_lingering : Int} {s s0 : S2} {r0 : Int} (hF : FX7_lowestWithoutPage a_lingering s = some (r0, s0)) : (-1) ≤ r0 ∧ r0 ≤ 23 := (rgd_some hF).2
set_option maxRecDepth 100000 in
set_option maxHeartbeats 4000000 in
theorem ctX7_lowestWithoutPage {l : Launch} {w : gW} {bs : Nat} (hl : l.stackTraces = false) {a_lingering : Int} {s m s0 : S2} {r0 : Int} (hF : FX7_lowestWithoutPage a_lingering s = some (r0, s0)) : gMet l w bs yX7_lowestWithoutPage cX7_lowestWithoutPage 3 (some FieldType.int) 2 0 [(10, 0), (0, a_lingering)] (s, m) 0 (some (0, r0)) (s0, m) := by
  unfold FX7_lowestWithoutPage at hF
  obtain ⟨hF, hr⟩ := rgd_some hF
  obtain ⟨q_a_lingering, hF⟩ := gd_some hF
  refine g_start hl (by decide) (Nat.le_of_ble_eq_true rfl) rfl fun X h hE => ?_
  have h : gOk X "Pagewright" cX7_lowestWithoutPage 3 2 0 0 := h
  have hE : gEnd X l w bs 0 (some FieldType.int) 0 (some (0, r0)) (s0, m) := hE
  show G X 0 0 0 [(10, 0), (0, a_lingering), (1, 0)] [] (s, m)
  refine g_iconst h 0 dX7_lowestWithoutPage_0 ?_
  refine g_istore_n h 1 dX7_lowestWithoutPage_1 (Nat.le_of_ble_eq_true rfl) rfl (L' := [(10, 0), (0, a_lingering), (0, 0)]) rfl ?_
  obtain ⟨f1, ef1, hF⟩ := glx1 hF
  have J8 : ∀ (n1 : Nat) (x_i1 : Int) (s1 : S2), (0 ≤ x_i1 ∧ x_i1 ≤ 24) → gl1 n1 f1 x_i1 s1 = some (r0, s0) → G X 0 0 2 [(10, 0), (0, a_lingering), (0, x_i1)] [] (s1, m) := by
    intro n1
    induction n1 with
    | zero => intro x_i1 s1 _ hF; exact (gl1_0 hF).elim
    | succ n1 ih1 =>
      intro x_i1 s1 q1 hF
      obtain ⟨k1, ek1, hF⟩ := glu1 hF ef1
      have J2 : x_i1 < 24 → G X 0 0 8 [(10, 0), (0, a_lingering), (0, x_i1)] [] (s1, m) := by
        intro h2
        have hF := ite_t h2 hF
        obtain ⟨k2, ek2, hF⟩ := bn_ex hF
        have J4 : ∀ (s2 : S2), k2 s2 = some (r0, s0) → G X 0 0 29 [(10, 0), (0, a_lingering), (0, x_i1)] [] (s2, m) := by
          intro s2 hF
          rw [ek2] at hF
          refine g_iload_n h 29 dX7_lowestWithoutPage_29 rfl ?_
          obtain ⟨e1, e2⟩ := some_2 hF
          rw [← e1, ← e2] at hE
          exact g_iret h 30 dX7_lowestWithoutPage_30 hE rfl rfl ⟨(Nat.le_of_ble_eq_true rfl), (Nat.le_of_ble_eq_true rfl)⟩
        obtain ⟨k3, ek3, hF⟩ := bn_ex hF
        have J5 : ∀ (s3 : S2), k3 s3 = some (r0, s0) → G X 0 0 31 [(10, 0), (0, a_lingering), (0, x_i1)] [] (s3, m) := by
          intro s3 hF
          rw [ek3] at hF
          refine g_iinc h 31 dX7_lowestWithoutPage_31 rfl rfl (L' := [(10, 0), (0, a_lingering), (0, x_i1 + 1)]) rfl ?_
          refine g_goto h 34 2 dX7_lowestWithoutPage_34 (by decide) ?_
          rw [ek1] at hF
          exact ih1 _ _ (by omega) hF
        refine G_typ fun hT_s1 => ?_
        have t1 : 0 ≤ s1 15 x_i1 ∧ s1 15 x_i1 ≤ 2 := hT_s1.1 15 x_i1
        have J6 : s1 15 x_i1 = 0 → G X 0 0 20 [(10, 0), (0, a_lingering), (0, x_i1)] [] (s1, m) := by
          intro h4
          have hF := ite_t h4 hF
          refine g_aload_nq h 20 dX7_lowestWithoutPage_20 rfl rfl ?_
          refine g_iload_n h 21 dX7_lowestWithoutPage_21 rfl ?_
          obtain ⟨r1, s4, c1, hF⟩ := cb_some hF
          have t2 : 0 ≤ r1 ∧ r1 ≤ 1 := rgX7_isTranslated c1
          refine g_callV h hE 22 dX7_lowestWithoutPage_22 (ctX7_isTranslated hl c1) mwX7_isTranslated kw_778 (by decide) (by decide) rfl (Nat.le_of_ble_eq_true rfl) rfl (Nat.le_of_ble_eq_true rfl) ⟨Nat.le_of_ble_eq_true rfl, Nat.le_of_ble_eq_true rfl⟩ rfl rfl ?_
          show G X 0 0 25 [(10, 0), (0, a_lingering), (0, x_i1)] [(0, r1)] (s4, m)
          refine g_iload_n h 25 dX7_lowestWithoutPage_25 rfl ?_
          refine g_icmp_ne h 26 31 (gRi (by omega)) (gRi (by omega)) dX7_lowestWithoutPage_26 (by decide) (fun h5 => ?_) (fun h5 => ?_)
          · have hF := ite_f h5 hF
            exact J5 _ hF
          · have hF := ite_t h5 hF
            exact J4 _ hF
        have J7 : ¬ (s1 15 x_i1 = 0) → G X 0 0 31 [(10, 0), (0, a_lingering), (0, x_i1)] [] (s1, m) := by
          intro h6
          have hF := ite_f h6 hF
          exact J5 _ hF
        refine g_aload_nq h 8 dX7_lowestWithoutPage_8 rfl rfl ?_
        refine gf_pages h 9 dX7_lowestWithoutPage_9 kw_362 ?_
        refine g_iload_n h 12 dX7_lowestWithoutPage_12 rfl ?_
        refine al_pages h 13 dX7_lowestWithoutPage_13 (by omega) ?_
        refine gf_Page_kind h 14 dX7_lowestWithoutPage_14 kw_284 (by omega) ?_
        refine g_if_ne h 17 31 (gRi (by omega)) dX7_lowestWithoutPage_17 (by decide) (fun h3 => ?_) (fun h3 => ?_)
        · exact J7 h3
        · exact J6 h3
      have J3 : ¬ (x_i1 < 24) → G X 0 0 37 [(10, 0), (0, a_lingering), (0, x_i1)] [] (s1, m) := by
        intro h7
        have hF := ite_f h7 hF
        refine g_iconst h 37 dX7_lowestWithoutPage_37 ?_
        obtain ⟨e1, e2⟩ := some_2 hF
        rw [← e1, ← e2] at hE
        exact g_iret h 38 dX7_lowestWithoutPage_38 hE rfl rfl ⟨(Nat.le_of_ble_eq_true rfl), (Nat.le_of_ble_eq_true rfl)⟩
      refine g_iload_n h 2 dX7_lowestWithoutPage_2 rfl ?_
      refine g_bipush h 3 dX7_lowestWithoutPage_3 (by decide) ?_
      refine g_icmp_ge h 5 37 (gRi (by omega)) (gRi (by omega)) dX7_lowestWithoutPage_5 (by decide) (fun h1 => ?_) (fun h1 => ?_)
      · exact J3 (Int.not_lt.mpr h1)
      · exact J2 h1
  exact J8 _ _ _ (by omega) hF
-- Pagewright.messages
def FX7_messages (s : S2) : Option (Int × S2) :=
  rgd 0 8 <| gl2 1000 (fun k1 (x_messages1 : Int) (x_i_cache1 : Int) (s1 : S2) => if x_i_cache1 < 2 then cb (FX0_messages x_i_cache1 s1) fun r1 s2 => gd ((-2147483648) ≤ x_messages1 + r1 ∧ x_messages1 + r1 ≤ 2147483647) <| k1 (x_messages1 + r1) (x_i_cache1 + 1) s2 else some (x_messages1, s1)) 0 0 s
theorem rgX7_messages {s s0 : S2} {r0 : Int} (hF : FX7_messages s = some (r0, s0)) : 0 ≤ r0 ∧ r0 ≤ 8 := (rgd_some hF).2
set_option maxRecDepth 100000 in
set_option maxHeartbeats 4000000 in
theorem ctX7_messages {l : Launch} {w : gW} {bs : Nat} (hl : l.stackTraces = false) {s m s0 : S2} {r0 : Int} (hF : FX7_messages s = some (r0, s0)) : gMet l w bs yX7_messages cX7_messages 6 (some FieldType.int) 2 0 [(10, 0)] (s, m) 0 (some (0, r0)) (s0, m) := by
  unfold FX7_messages at hF
  obtain ⟨hF, hr⟩ := rgd_some hF
  refine g_start hl (by decide) (Nat.le_of_ble_eq_true rfl) rfl fun X h hE => ?_
  have h : gOk X "Pagewright" cX7_messages 6 2 0 0 := h
  have hE : gEnd X l w bs 0 (some FieldType.int) 0 (some (0, r0)) (s0, m) := hE
  show G X 0 0 0 [(10, 0), (1, 0), (1, 0), (1, 0), (1, 0), (1, 0)] [] (s, m)
  refine g_iconst h 0 dX7_messages_0 ?_
  refine g_istore_n h 1 dX7_messages_1 (Nat.le_of_ble_eq_true rfl) rfl (L' := [(10, 0), (0, 0), (1, 0), (1, 0), (1, 0), (1, 0)]) rfl ?_
  refine g_aload_nq h 2 dX7_messages_2 rfl rfl ?_
  refine gf_caches h 3 dX7_messages_3 kw_363 ?_
  refine g_astore_n h 6 dX7_messages_6 (Nat.le_of_ble_eq_true rfl) rfl (L' := [(10, 0), (0, 0), (14, 0), (1, 0), (1, 0), (1, 0)]) rfl ?_
  refine g_aload_nq h 7 dX7_messages_7 rfl rfl ?_
  refine an_caches h 8 dX7_messages_8 ?_
  refine g_istore_n h 9 dX7_messages_9 (Nat.le_of_ble_eq_true rfl) rfl (L' := [(10, 0), (0, 0), (14, 0), (0, 2), (1, 0), (1, 0)]) rfl ?_
  refine g_iconst h 10 dX7_messages_10 ?_
  refine g_istore h 11 dX7_messages_11 (Nat.le_of_ble_eq_true rfl) rfl (L' := [(10, 0), (0, 0), (14, 0), (0, 2), (0, 0), (1, 0)]) rfl ?_
  obtain ⟨f1, ef1, hF⟩ := glx2 hF
  have J4 : ∀ (n1 : Nat) (x_messages1 x_i_cache1 : Int) (s1 : S2), ((-2147483648) ≤ x_messages1 ∧ x_messages1 ≤ 2147483647) → (0 ≤ x_i_cache1 ∧ x_i_cache1 ≤ 2) → gl2 n1 f1 x_messages1 x_i_cache1 s1 = some (r0, s0) → G X 0 0 13 [(10, 0), (0, x_messages1), (14, 0), (0, 2), (0, x_i_cache1), (1, 0)] [] (s1, m) := by
    intro n1
    induction n1 with
    | zero => intro x_messages1 x_i_cache1 s1 _ _ hF; exact (gl2_0 hF).elim
    | succ n1 ih1 =>
      intro x_messages1 x_i_cache1 s1 q1 q2 hF
      obtain ⟨k1, ek1, hF⟩ := glu2 hF ef1
      have J2 : x_i_cache1 < 2 → G X 0 0 19 [(10, 0), (0, x_messages1), (14, 0), (0, 2), (0, x_i_cache1), (1, 0)] [] (s1, m) := by
        intro h2
        have hF := ite_t h2 hF
        refine g_aload_nq h 19 dX7_messages_19 rfl rfl ?_
        refine g_iload h 20 dX7_messages_20 rfl ?_
        refine al_caches h 22 dX7_messages_22 (by omega) ?_
        refine g_astore h 23 dX7_messages_23 (Nat.le_of_ble_eq_true rfl) rfl (L' := [(10, 0), (0, x_messages1), (14, 0), (0, 2), (0, x_i_cache1), (3, x_i_cache1)]) rfl ?_
        refine g_iload_n h 25 dX7_messages_25 rfl ?_
        refine g_aloadq h 26 dX7_messages_26 rfl rfl ?_
        obtain ⟨r1, s2, c1, hF⟩ := cb_some hF
        have t1 : 0 ≤ r1 ∧ r1 ≤ 4 := rgX0_messages c1
        refine g_callV h hE 28 dX7_messages_28 (ctX0_messages hl c1) mwX0_messages kw_1000 (by decide) (show _ ∧ _ < (2 : Int) by omega) rfl (Nat.le_of_ble_eq_true rfl) rfl (Nat.le_of_ble_eq_true rfl) ⟨Nat.le_of_ble_eq_true rfl, Nat.le_of_ble_eq_true rfl⟩ rfl rfl ?_
        show G X 0 0 31 [(10, 0), (0, x_messages1), (14, 0), (0, 2), (0, x_i_cache1), (3, x_i_cache1)] [(0, r1), (0, x_messages1)] (s2, m)
        refine g_iadd h 31 dX7_messages_31 ?_
        refine g_istore_n h 32 dX7_messages_32 (Nat.le_of_ble_eq_true rfl) rfl (L' := [(10, 0), (0, x_messages1 + r1), (14, 0), (0, 2), (0, x_i_cache1), (3, x_i_cache1)]) rfl ?_
        refine g_iinc h 33 dX7_messages_33 rfl rfl (L' := [(10, 0), (0, x_messages1 + r1), (14, 0), (0, 2), (0, x_i_cache1 + 1), (3, x_i_cache1)]) rfl ?_
        refine g_goto h 36 13 dX7_messages_36 (by decide) ?_
        obtain ⟨q3, hF⟩ := gd_some hF
        refine G_weak (L' := [(10, 0), (0, x_messages1 + r1), (14, 0), (0, 2), (0, x_i_cache1 + 1), (1, 0)]) ⟨Or.inr rfl, Or.inr rfl, Or.inr rfl, Or.inr rfl, Or.inr rfl, Or.inl rfl, trivial⟩ ?_
        rw [ek1] at hF
        exact ih1 _ _ _ (by omega) (by omega) hF
      have J3 : ¬ (x_i_cache1 < 2) → G X 0 0 39 [(10, 0), (0, x_messages1), (14, 0), (0, 2), (0, x_i_cache1), (1, 0)] [] (s1, m) := by
        intro h3
        have hF := ite_f h3 hF
        refine g_iload_n h 39 dX7_messages_39 rfl ?_
        obtain ⟨e1, e2⟩ := some_2 hF
        rw [← e1, ← e2] at hE
        exact g_iret h 40 dX7_messages_40 hE rfl rfl ⟨(Nat.le_of_ble_eq_true rfl), (Nat.le_of_ble_eq_true rfl)⟩
      refine g_iload h 13 dX7_messages_13 rfl ?_
      refine g_iload_n h 15 dX7_messages_15 rfl ?_
      refine g_icmp_ge h 16 39 (gRi (by omega)) (gRi (by omega)) dX7_messages_16 (by decide) (fun h1 => ?_) (fun h1 => ?_)
      · exact J3 (Int.not_lt.mpr h1)
      · exact J2 h1
  exact J4 _ _ _ _ (by omega) (by omega) hF
-- Pagewright.pagesOf
def FX7_pagesOf (a_group : Int) (s : S2) : Option (Int × S2) :=
  rgd 0 48 <| gd ((-1) ≤ a_group ∧ a_group ≤ 2) <| cb (FX7_members 0 a_group s) fun r1 s1 => cb (FX7_members 1 a_group s1) fun r2 s2 => some (r1 + r2, s2)
theorem rgX7_pagesOf {a_group : Int} {s s0 : S2} {r0 : Int} (hF : FX7_pagesOf a_group s = some (r0, s0)) : 0 ≤ r0 ∧ r0 ≤ 48 := (rgd_some hF).2
set_option maxRecDepth 100000 in
set_option maxHeartbeats 4000000 in
theorem ctX7_pagesOf {l : Launch} {w : gW} {bs : Nat} (hl : l.stackTraces = false) {a_group : Int} {s m s0 : S2} {r0 : Int} (hF : FX7_pagesOf a_group s = some (r0, s0)) : gMet l w bs yX7_pagesOf cX7_pagesOf 2 (some FieldType.int) 2 0 [(10, 0), (0, a_group)] (s, m) 0 (some (0, r0)) (s0, m) := by
  unfold FX7_pagesOf at hF
  obtain ⟨hF, hr⟩ := rgd_some hF
  obtain ⟨q_a_group, hF⟩ := gd_some hF
  refine g_start hl (by decide) (Nat.le_of_ble_eq_true rfl) rfl fun X h hE => ?_
  have h : gOk X "Pagewright" cX7_pagesOf 2 2 0 0 := h
  have hE : gEnd X l w bs 0 (some FieldType.int) 0 (some (0, r0)) (s0, m) := hE
  show G X 0 0 0 [(10, 0), (0, a_group)] [] (s, m)
  refine g_aload_nq h 0 dX7_pagesOf_0 rfl rfl ?_
  refine g_iconst h 1 dX7_pagesOf_1 ?_
  refine g_iload_n h 2 dX7_pagesOf_2 rfl ?_
  obtain ⟨r1, s1, c1, hF⟩ := cb_some hF
  have t1 : 0 ≤ r1 ∧ r1 ≤ 24 := rgX7_members c1
  refine g_callV h hE 3 dX7_pagesOf_3 (ctX7_members hl c1) mwX7_members kw_659 (by decide) (by decide) rfl (Nat.le_of_ble_eq_true rfl) rfl (Nat.le_of_ble_eq_true rfl) ⟨Nat.le_of_ble_eq_true rfl, Nat.le_of_ble_eq_true rfl⟩ rfl rfl ?_
  show G X 0 0 6 [(10, 0), (0, a_group)] [(0, r1)] (s1, m)
  refine g_aload_nq h 6 dX7_pagesOf_6 rfl rfl ?_
  refine g_iconst h 7 dX7_pagesOf_7 ?_
  refine g_iload_n h 8 dX7_pagesOf_8 rfl ?_
  obtain ⟨r2, s2, c2, hF⟩ := cb_some hF
  have t2 : 0 ≤ r2 ∧ r2 ≤ 24 := rgX7_members c2
  refine g_callV h hE 9 dX7_pagesOf_9 (ctX7_members hl c2) mwX7_members kw_659 (by decide) (by decide) rfl (Nat.le_of_ble_eq_true rfl) rfl (Nat.le_of_ble_eq_true rfl) ⟨Nat.le_of_ble_eq_true rfl, Nat.le_of_ble_eq_true rfl⟩ rfl rfl ?_
  show G X 0 0 12 [(10, 0), (0, a_group)] [(0, r2), (0, r1)] (s2, m)
  refine g_iadd h 12 dX7_pagesOf_12 ?_
  obtain ⟨e1, e2⟩ := some_2 hF
  rw [← e1, ← e2] at hE
  exact g_iret h 13 dX7_pagesOf_13 hE rfl rfl ⟨(Nat.le_of_ble_eq_true rfl), (Nat.le_of_ble_eq_true rfl)⟩
-- Pagewright.putOut
def FX7_putOut (a_page : Int) (s : S2) : Option (Int × S2) :=
  rgd 0 1 <| gd (0 ≤ a_page ∧ a_page ≤ 23) <| bn (fun (x_record1 : Int) (s1 : S2) => gl1 1000 (fun k3 (x_i_space1 : Int) (s6 : S2) => if x_i_space1 < 6 then gl1 1000 (fun k4 (x_i_entry1 : Int) (s7 : S2) => if x_i_entry1 < 32 then bn (fun (s8 : S2) => k4 (x_i_entry1 + 1) s8) fun k5 => gd (0 ≤ 32 * x_i_space1 + x_i_entry1 ∧ 32 * x_i_space1 + x_i_entry1 ≤ 191) <| if s7 9 (32 * x_i_space1 + x_i_entry1) = a_page then cb (FX1_tellProcessors (32 * x_i_space1 + x_i_entry1) s7) fun r4 s9 => cb (FX7_setJoined ((32 * x_i_space1 + x_i_entry1) / 4) 0 s9) fun r5 s10 => cb (FX1_becomeOut (32 * x_i_space1 + x_i_entry1) x_record1 s10) fun r6 s11 => k5 s11 else k5 s7 else k3 (x_i_space1 + 1) s7) 0 s6 else bn (upd2 s6 15 a_page 0) fun s12 => bn (upd2 s12 48 2 ((s12 48 2) + 1)) fun s13 => some (1, s13)) 0 s1) fun k1 => if s 15 a_page = 2 then bn (fun (s2 : S2) => cb (FX7_noteEviction a_page s2) fun r2 s4 => k1 (-1) s4) fun k2 => if s 23 a_page ≠ 0 then cb (FX7_writeBack a_page s) fun r1 s3 => k2 s3 else k2 s else cb (FX4_keep (s 16 a_page) s) fun r3 s5 => if r3 < 0 then some (0, s5) else k1 r3 s5
theorem rgX7_putOut {a_page : Int} {s s0 : S2} {r0 : Int} (hF : FX7_putOut a_page s = some (r0, s0)) : 0 ≤ r0 ∧ r0 ≤ 1 := (rgd_some hF).2
set_option maxRecDepth 100000 in
set_option maxHeartbeats 4000000 in
theorem ctX7_putOut {l : Launch} {w : gW} {bs : Nat} (hl : l.stackTraces = false) {a_page : Int} {s m s0 : S2} {r0 : Int} (hF : FX7_putOut a_page s = some (r0, s0)) : gMet l w bs yX7_putOut cX7_putOut 11 (some FieldType.boolean) 2 0 [(10, 0), (5, a_page)] (s, m) 0 (some (0, r0)) (s0, m) := by
  unfold FX7_putOut at hF
  obtain ⟨hF, hr⟩ := rgd_some hF
  obtain ⟨q_a_page, hF⟩ := gd_some hF
  refine g_start hl (by decide) (Nat.le_of_ble_eq_true rfl) rfl fun X h hE => ?_
  have h : gOk X "Pagewright" cX7_putOut 11 2 0 0 := h
  have hE : gEnd X l w bs 0 (some FieldType.boolean) 0 (some (0, r0)) (s0, m) := hE
  show G X 0 0 0 [(10, 0), (5, a_page), (1, 0), (1, 0), (1, 0), (1, 0), (1, 0), (1, 0), (1, 0), (1, 0), (1, 0)] [] (s, m)
  refine g_nullq h 0 6 rfl dX7_putOut_0 ?_
  refine g_astore_n h 1 dX7_putOut_1 (Nat.le_of_ble_eq_true rfl) rfl (L' := [(10, 0), (5, a_page), (6, (-1)), (1, 0), (1, 0), (1, 0), (1, 0), (1, 0), (1, 0), (1, 0), (1, 0)]) rfl ?_
  obtain ⟨k1, ek1, hF⟩ := bn_ex hF
  have J1 : ∀ (x_record1 : Int) (s1 : S2), ((-1) ≤ x_record1 ∧ x_record1 ≤ 17) → k1 x_record1 s1 = some (r0, s0) → G X 0 0 48 [(10, 0), (5, a_page), (6, x_record1), (1, 0), (1, 0), (1, 0), (1, 0), (1, 0), (1, 0), (1, 0), (1, 0)] [] (s1, m) := by
    intro x_record1 s1 q1 hF
    rw [ek1] at hF
    refine g_aload_nq h 48 dX7_putOut_48 rfl rfl ?_
    refine gf_spaces h 49 dX7_putOut_49 kw_361 ?_
    refine g_astore_n h 52 dX7_putOut_52 (Nat.le_of_ble_eq_true rfl) rfl (L' := [(10, 0), (5, a_page), (6, x_record1), (12, 0), (1, 0), (1, 0), (1, 0), (1, 0), (1, 0), (1, 0), (1, 0)]) rfl ?_
    refine g_aload_nq h 53 dX7_putOut_53 rfl rfl ?_
    refine an_spaces h 54 dX7_putOut_54 ?_
    refine g_istore h 55 dX7_putOut_55 (Nat.le_of_ble_eq_true rfl) rfl (L' := [(10, 0), (5, a_page), (6, x_record1), (12, 0), (0, 6), (1, 0), (1, 0), (1, 0), (1, 0), (1, 0), (1, 0)]) rfl ?_
    refine g_iconst h 57 dX7_putOut_57 ?_
    refine g_istore h 58 dX7_putOut_58 (Nat.le_of_ble_eq_true rfl) rfl (L' := [(10, 0), (5, a_page), (6, x_record1), (12, 0), (0, 6), (0, 0), (1, 0), (1, 0), (1, 0), (1, 0), (1, 0)]) rfl ?_
    obtain ⟨f1, ef1, hF⟩ := glx1 hF
    have J19 : ∀ (n1 : Nat) (x_i_space1 : Int) (s6 : S2), (0 ≤ x_i_space1 ∧ x_i_space1 ≤ 6) → gl1 n1 f1 x_i_space1 s6 = some (r0, s0) → G X 0 0 60 [(10, 0), (5, a_page), (6, x_record1), (12, 0), (0, 6), (0, x_i_space1), (1, 0), (1, 0), (1, 0), (1, 0), (1, 0)] [] (s6, m) := by
      intro n1
      induction n1 with
      | zero => intro x_i_space1 s6 _ hF; exact (gl1_0 hF).elim
      | succ n1 ih1 =>
        intro x_i_space1 s6 q2 hF
        obtain ⟨k3, ek3, hF⟩ := glu1 hF ef1
        have J10 : x_i_space1 < 6 → G X 0 0 67 [(10, 0), (5, a_page), (6, x_record1), (12, 0), (0, 6), (0, x_i_space1), (1, 0), (1, 0), (1, 0), (1, 0), (1, 0)] [] (s6, m) := by
          intro h11
          have hF := ite_t h11 hF
          refine g_aload_nq h 67 dX7_putOut_67 rfl rfl ?_
          refine g_iload h 68 dX7_putOut_68 rfl ?_
          refine al_spaces h 70 dX7_putOut_70 (by omega) ?_
          refine g_astore h 71 dX7_putOut_71 (Nat.le_of_ble_eq_true rfl) rfl (L' := [(10, 0), (5, a_page), (6, x_record1), (12, 0), (0, 6), (0, x_i_space1), (8, x_i_space1), (1, 0), (1, 0), (1, 0), (1, 0)]) rfl ?_
          refine g_aloadq h 73 dX7_putOut_73 rfl rfl ?_
          refine gf_Space_entries h 75 dX7_putOut_75 kw_254 (by omega) ?_
          refine g_astore h 78 dX7_putOut_78 (Nat.le_of_ble_eq_true rfl) rfl (L' := [(10, 0), (5, a_page), (6, x_record1), (12, 0), (0, 6), (0, x_i_space1), (8, x_i_space1), (20, x_i_space1), (1, 0), (1, 0), (1, 0)]) rfl ?_
          refine g_aloadq h 80 dX7_putOut_80 rfl rfl ?_
          refine an_Space_entries h 82 dX7_putOut_82 (by omega) ?_
          refine g_istore h 83 dX7_putOut_83 (Nat.le_of_ble_eq_true rfl) rfl (L' := [(10, 0), (5, a_page), (6, x_record1), (12, 0), (0, 6), (0, x_i_space1), (8, x_i_space1), (20, x_i_space1), (0, 32), (1, 0), (1, 0)]) rfl ?_
          refine g_iconst h 85 dX7_putOut_85 ?_
          refine g_istore h 86 dX7_putOut_86 (Nat.le_of_ble_eq_true rfl) rfl (L' := [(10, 0), (5, a_page), (6, x_record1), (12, 0), (0, 6), (0, x_i_space1), (8, x_i_space1), (20, x_i_space1), (0, 32), (0, 0), (1, 0)]) rfl ?_
          obtain ⟨f2, ef2, hF⟩ := glx1 hF
          have J18 : ∀ (n2 : Nat) (x_i_entry1 : Int) (s7 : S2), (0 ≤ x_i_entry1 ∧ x_i_entry1 ≤ 32) → gl1 n2 f2 x_i_entry1 s7 = some (r0, s0) → G X 0 0 88 [(10, 0), (5, a_page), (6, x_record1), (12, 0), (0, 6), (0, x_i_space1), (8, x_i_space1), (20, x_i_space1), (0, 32), (0, x_i_entry1), (1, 0)] [] (s7, m) := by
            intro n2
            induction n2 with
            | zero => intro x_i_entry1 s7 _ hF; exact (gl1_0 hF).elim
            | succ n2 ih2 =>
              intro x_i_entry1 s7 q3 hF
              obtain ⟨k4, ek4, hF⟩ := glu1 hF ef2
              have J13 : x_i_entry1 < 32 → G X 0 0 95 [(10, 0), (5, a_page), (6, x_record1), (12, 0), (0, 6), (0, x_i_space1), (8, x_i_space1), (20, x_i_space1), (0, 32), (0, x_i_entry1), (1, 0)] [] (s7, m) := by
                intro h13
                have hF := ite_t h13 hF
                refine g_aloadq h 95 dX7_putOut_95 rfl rfl ?_
                refine g_iload h 97 dX7_putOut_97 rfl ?_
                refine al_Space_entries h 99 dX7_putOut_99 (by omega) (by omega) ?_
                refine g_astore h 100 dX7_putOut_100 (Nat.le_of_ble_eq_true rfl) rfl (L' := [(10, 0), (5, a_page), (6, x_record1), (12, 0), (0, 6), (0, x_i_space1), (8, x_i_space1), (20, x_i_space1), (0, 32), (0, x_i_entry1), (4, 32 * x_i_space1 + x_i_entry1)]) rfl ?_
                obtain ⟨k5, ek5, hF⟩ := bn_ex hF
                have J15 : ∀ (s8 : S2), k5 s8 = some (r0, s0) → G X 0 0 132 [(10, 0), (5, a_page), (6, x_record1), (12, 0), (0, 6), (0, x_i_space1), (8, x_i_space1), (20, x_i_space1), (0, 32), (0, x_i_entry1), (4, 32 * x_i_space1 + x_i_entry1)] [] (s8, m) := by
                  intro s8 hF
                  rw [ek5] at hF
                  refine g_iinc h 132 dX7_putOut_132 rfl rfl (L' := [(10, 0), (5, a_page), (6, x_record1), (12, 0), (0, 6), (0, x_i_space1), (8, x_i_space1), (20, x_i_space1), (0, 32), (0, x_i_entry1 + 1), (4, 32 * x_i_space1 + x_i_entry1)]) rfl ?_
                  refine g_goto h 135 88 dX7_putOut_135 (by decide) ?_
                  refine G_weak (L' := [(10, 0), (5, a_page), (6, x_record1), (12, 0), (0, 6), (0, x_i_space1), (8, x_i_space1), (20, x_i_space1), (0, 32), (0, x_i_entry1 + 1), (1, 0)]) ⟨Or.inr rfl, Or.inr rfl, Or.inr rfl, Or.inr rfl, Or.inr rfl, Or.inr rfl, Or.inr rfl, Or.inr rfl, Or.inr rfl, Or.inr rfl, Or.inl rfl, trivial⟩ ?_
                  rw [ek4] at hF
                  exact ih2 _ _ (by omega) hF
                refine G_typ fun hT_s7 => ?_
                have t5 : (-1) ≤ s7 9 (32 * x_i_space1 + x_i_entry1) ∧ s7 9 (32 * x_i_space1 + x_i_entry1) ≤ 23 := hT_s7.1 9 (32 * x_i_space1 + x_i_entry1)
                obtain ⟨q4, hF⟩ := gd_some hF
                have J16 : s7 9 (32 * x_i_space1 + x_i_entry1) = a_page → G X 0 0 111 [(10, 0), (5, a_page), (6, x_record1), (12, 0), (0, 6), (0, x_i_space1), (8, x_i_space1), (20, x_i_space1), (0, 32), (0, x_i_entry1), (4, 32 * x_i_space1 + x_i_entry1)] [] (s7, m) := by
                  intro h15
                  have hF := ite_t h15 hF
                  refine g_aloadq h 111 dX7_putOut_111 rfl rfl ?_
                  obtain ⟨r4, s9, c4, hF⟩ := cb_some hF
                  refine g_callV h hE 113 dX7_putOut_113 (ctX1_tellProcessors hl c4) mwX1_tellProcessors kw_569 (by decide) (show _ ∧ _ < (192 : Int) by omega) rfl (Nat.le_of_ble_eq_true rfl) rfl (Nat.le_of_ble_eq_true rfl) ⟨Nat.le_of_ble_eq_true rfl, Nat.le_of_ble_eq_true rfl⟩ rfl rfl ?_
                  show G X 0 0 116 [(10, 0), (5, a_page), (6, x_record1), (12, 0), (0, 6), (0, x_i_space1), (8, x_i_space1), (20, x_i_space1), (0, 32), (0, x_i_entry1), (4, 32 * x_i_space1 + x_i_entry1)] [] (s9, m)
                  refine g_aload_nq h 116 dX7_putOut_116 rfl rfl ?_
                  refine g_aloadq h 117 dX7_putOut_117 rfl rfl ?_
                  refine gf_Entry_block h 119 dX7_putOut_119 kw_191 (by omega) ?_
                  refine g_iconst h 122 dX7_putOut_122 ?_
                  obtain ⟨r5, s10, c5, hF⟩ := cb_some hF
                  refine g_callV h hE 123 dX7_putOut_123 (ctX7_setJoined hl c5) mwX7_setJoined kw_573 (by decide) (by decide) rfl (Nat.le_of_ble_eq_true rfl) rfl (Nat.le_of_ble_eq_true rfl) ⟨Nat.le_of_ble_eq_true rfl, Nat.le_of_ble_eq_true rfl⟩ rfl rfl ?_
                  show G X 0 0 126 [(10, 0), (5, a_page), (6, x_record1), (12, 0), (0, 6), (0, x_i_space1), (8, x_i_space1), (20, x_i_space1), (0, 32), (0, x_i_entry1), (4, 32 * x_i_space1 + x_i_entry1)] [] (s10, m)
                  refine g_aloadq h 126 dX7_putOut_126 rfl rfl ?_
                  refine g_aload_nq h 128 dX7_putOut_128 rfl rfl ?_
                  obtain ⟨r6, s11, c6, hF⟩ := cb_some hF
                  refine g_callV h hE 129 dX7_putOut_129 (ctX1_becomeOut hl c6) mwX1_becomeOut kw_761 (by decide) (show _ ∧ _ < (192 : Int) by omega) rfl (Nat.le_of_ble_eq_true rfl) rfl (Nat.le_of_ble_eq_true rfl) ⟨Nat.le_of_ble_eq_true rfl, Nat.le_of_ble_eq_true rfl⟩ rfl rfl ?_
                  show G X 0 0 132 [(10, 0), (5, a_page), (6, x_record1), (12, 0), (0, 6), (0, x_i_space1), (8, x_i_space1), (20, x_i_space1), (0, 32), (0, x_i_entry1), (4, 32 * x_i_space1 + x_i_entry1)] [] (s11, m)
                  exact J15 _ hF
                have J17 : ¬ (s7 9 (32 * x_i_space1 + x_i_entry1) = a_page) → G X 0 0 132 [(10, 0), (5, a_page), (6, x_record1), (12, 0), (0, 6), (0, x_i_space1), (8, x_i_space1), (20, x_i_space1), (0, 32), (0, x_i_entry1), (4, 32 * x_i_space1 + x_i_entry1)] [] (s7, m) := by
                  intro h16
                  have hF := ite_f h16 hF
                  exact J15 _ hF
                refine g_aloadq h 102 dX7_putOut_102 rfl rfl ?_
                refine gf_Entry_page h 104 dX7_putOut_104 kw_213 (by omega) ?_
                refine g_aload_nq h 107 dX7_putOut_107 rfl rfl ?_
                refine g_acmp_ne h 108 132 (show -1 ≤ _ ∧ _ < (24 : Int) by omega) (show -1 ≤ _ ∧ _ < (24 : Int) by omega) (by decide) dX7_putOut_108 (by decide) (fun h14 => ?_) (fun h14 => ?_)
                · exact J17 h14
                · exact J16 h14
              have J14 : ¬ (x_i_entry1 < 32) → G X 0 0 138 [(10, 0), (5, a_page), (6, x_record1), (12, 0), (0, 6), (0, x_i_space1), (8, x_i_space1), (20, x_i_space1), (0, 32), (0, x_i_entry1), (1, 0)] [] (s7, m) := by
                intro h17
                have hF := ite_f h17 hF
                refine g_iinc h 138 dX7_putOut_138 rfl rfl (L' := [(10, 0), (5, a_page), (6, x_record1), (12, 0), (0, 6), (0, x_i_space1 + 1), (8, x_i_space1), (20, x_i_space1), (0, 32), (0, x_i_entry1), (1, 0)]) rfl ?_
                refine g_goto h 141 60 dX7_putOut_141 (by decide) ?_
                refine G_weak (L' := [(10, 0), (5, a_page), (6, x_record1), (12, 0), (0, 6), (0, x_i_space1 + 1), (1, 0), (1, 0), (1, 0), (1, 0), (1, 0)]) ⟨Or.inr rfl, Or.inr rfl, Or.inr rfl, Or.inr rfl, Or.inr rfl, Or.inr rfl, Or.inl rfl, Or.inl rfl, Or.inl rfl, Or.inl rfl, Or.inr rfl, trivial⟩ ?_
                rw [ek3] at hF
                exact ih1 _ _ (by omega) hF
              refine g_iload h 88 dX7_putOut_88 rfl ?_
              refine g_iload h 90 dX7_putOut_90 rfl ?_
              refine g_icmp_ge h 92 138 (gRi (by omega)) (gRi (by omega)) dX7_putOut_92 (by decide) (fun h12 => ?_) (fun h12 => ?_)
              · exact J14 (Int.not_lt.mpr h12)
              · exact J13 h12
          exact J18 _ _ _ (by omega) hF
        have J11 : ¬ (x_i_space1 < 6) → G X 0 0 144 [(10, 0), (5, a_page), (6, x_record1), (12, 0), (0, 6), (0, x_i_space1), (1, 0), (1, 0), (1, 0), (1, 0), (1, 0)] [] (s6, m) := by
          intro h18
          have hF := ite_f h18 hF
          refine g_aload_nq h 144 dX7_putOut_144 rfl rfl ?_
          refine g_iconst h 145 dX7_putOut_145 ?_
          obtain ⟨s12, es12, hF⟩ := bn_ex hF
          refine pf_Page_kind h 146 dX7_putOut_146 kw_284 (by omega) (by omega) ?_
          rw [← es12]
          refine g_aload_nq h 149 dX7_putOut_149 rfl rfl ?_
          refine gf_counts h 150 dX7_putOut_150 kw_369 ?_
          refine g_iconst h 153 dX7_putOut_153 ?_
          refine g_dup2 h 154 dX7_putOut_154 (show (0 : Nat) ≠ 2 by decide) (show (19 : Nat) ≠ 2 by decide) ?_
          refine al_counts h 155 dX7_putOut_155 (by omega) ?_
          refine g_iconst h 156 dX7_putOut_156 ?_
          refine g_iadd h 157 dX7_putOut_157 ?_
          obtain ⟨s13, es13, hF⟩ := bn_ex hF
          refine as_counts h 158 dX7_putOut_158 (by omega) ?_
          rw [← es13]
          refine g_iconst h 159 dX7_putOut_159 ?_
          obtain ⟨e1, e2⟩ := some_2 hF
          rw [← e1, ← e2] at hE
          exact g_iret h 160 dX7_putOut_160 hE rfl (g_nb (by rw [← e1] at hr; exact hr)) ⟨(Nat.le_of_ble_eq_true rfl), (Nat.le_of_ble_eq_true rfl)⟩
        refine g_iload h 60 dX7_putOut_60 rfl ?_
        refine g_iload h 62 dX7_putOut_62 rfl ?_
        refine g_icmp_ge h 64 144 (gRi (by omega)) (gRi (by omega)) dX7_putOut_64 (by decide) (fun h10 => ?_) (fun h10 => ?_)
        · exact J11 (Int.not_lt.mpr h10)
        · exact J10 h10
    exact J19 _ _ _ (by omega) hF
  refine G_typ fun hT_s => ?_
  have t1 : 0 ≤ s 15 a_page ∧ s 15 a_page ≤ 2 := hT_s.1 15 a_page
  have J2 : s 15 a_page = 2 → G X 0 0 10 [(10, 0), (5, a_page), (6, (-1)), (1, 0), (1, 0), (1, 0), (1, 0), (1, 0), (1, 0), (1, 0), (1, 0)] [] (s, m) := by
    intro h2
    have hF := ite_t h2 hF
    obtain ⟨k2, ek2, hF⟩ := bn_ex hF
    have J4 : ∀ (s2 : S2), k2 s2 = some (r0, s0) → G X 0 0 22 [(10, 0), (5, a_page), (6, (-1)), (1, 0), (1, 0), (1, 0), (1, 0), (1, 0), (1, 0), (1, 0), (1, 0)] [] (s2, m) := by
      intro s2 hF
      rw [ek2] at hF
      refine g_aload_nq h 22 dX7_putOut_22 rfl rfl ?_
      refine g_aload_nq h 23 dX7_putOut_23 rfl rfl ?_
      obtain ⟨r2, s4, c2, hF⟩ := cb_some hF
      refine g_callV h hE 24 dX7_putOut_24 (ctX7_noteEviction hl c2) mwX7_noteEviction kw_741 (by decide) (by decide) rfl (Nat.le_of_ble_eq_true rfl) rfl (Nat.le_of_ble_eq_true rfl) ⟨Nat.le_of_ble_eq_true rfl, Nat.le_of_ble_eq_true rfl⟩ rfl rfl ?_
      show G X 0 0 27 [(10, 0), (5, a_page), (6, (-1)), (1, 0), (1, 0), (1, 0), (1, 0), (1, 0), (1, 0), (1, 0), (1, 0)] [] (s4, m)
      refine g_goto h 27 48 dX7_putOut_27 (by decide) ?_
      exact J1 _ _ (by omega) hF
    have t2 : 0 ≤ s 23 a_page ∧ s 23 a_page ≤ 1 := hT_s.1 23 a_page
    have J5 : s 23 a_page ≠ 0 → G X 0 0 17 [(10, 0), (5, a_page), (6, (-1)), (1, 0), (1, 0), (1, 0), (1, 0), (1, 0), (1, 0), (1, 0), (1, 0)] [] (s, m) := by
      intro h4
      have hF := ite_t h4 hF
      refine g_aload_nq h 17 dX7_putOut_17 rfl rfl ?_
      refine g_aload_nq h 18 dX7_putOut_18 rfl rfl ?_
      obtain ⟨r1, s3, c1, hF⟩ := cb_some hF
      refine g_callV h hE 19 dX7_putOut_19 (ctX7_writeBack hl c1) mwX7_writeBack kw_737 (by decide) (by decide) rfl (Nat.le_of_ble_eq_true rfl) rfl (Nat.le_of_ble_eq_true rfl) ⟨Nat.le_of_ble_eq_true rfl, Nat.le_of_ble_eq_true rfl⟩ rfl rfl ?_
      show G X 0 0 22 [(10, 0), (5, a_page), (6, (-1)), (1, 0), (1, 0), (1, 0), (1, 0), (1, 0), (1, 0), (1, 0), (1, 0)] [] (s3, m)
      exact J4 _ hF
    have J6 : ¬ (s 23 a_page ≠ 0) → G X 0 0 22 [(10, 0), (5, a_page), (6, (-1)), (1, 0), (1, 0), (1, 0), (1, 0), (1, 0), (1, 0), (1, 0), (1, 0)] [] (s, m) := by
      intro h5
      have hF := ite_f h5 hF
      exact J4 _ hF
    refine g_aload_nq h 10 dX7_putOut_10 rfl rfl ?_
    refine gf_Page_dirty h 11 dX7_putOut_11 kw_299 (by omega) ?_
    refine g_if_eq h 14 22 (gRi (by omega)) dX7_putOut_14 (by decide) (fun h3 => ?_) (fun h3 => ?_)
    · exact J6 (fun q => q h3)
    · exact J5 h3
  have J3 : ¬ (s 15 a_page = 2) → G X 0 0 30 [(10, 0), (5, a_page), (6, (-1)), (1, 0), (1, 0), (1, 0), (1, 0), (1, 0), (1, 0), (1, 0), (1, 0)] [] (s, m) := by
    intro h6
    have hF := ite_f h6 hF
    refine g_aload_nq h 30 dX7_putOut_30 rfl rfl ?_
    refine gf_records h 31 dX7_putOut_31 kw_364 ?_
    have t3 : 0 ≤ s 16 a_page ∧ s 16 a_page ≤ 99999 := hT_s.1 16 a_page
    refine g_aload_nq h 34 dX7_putOut_34 rfl rfl ?_
    refine gf_Page_value h 35 dX7_putOut_35 kw_286 (by omega) ?_
    obtain ⟨r3, s5, c3, hF⟩ := cb_some hF
    have t4 : (-1) ≤ r3 ∧ r3 ≤ 17 := rgX4_keep c3
    refine g_callV h hE 38 dX7_putOut_38 (ctX4_keep hl c3) mwX4_keep kw_745 (by decide) (by decide) rfl (Nat.le_of_ble_eq_true rfl) rfl (Nat.le_of_ble_eq_true rfl) ⟨Nat.le_of_ble_eq_true rfl, Nat.le_of_ble_eq_true rfl⟩ rfl rfl ?_
    show G X 0 0 41 [(10, 0), (5, a_page), (6, (-1)), (1, 0), (1, 0), (1, 0), (1, 0), (1, 0), (1, 0), (1, 0), (1, 0)] [(6, r3)] (s5, m)
    refine g_astore_n h 41 dX7_putOut_41 (Nat.le_of_ble_eq_true rfl) rfl (L' := [(10, 0), (5, a_page), (6, r3), (1, 0), (1, 0), (1, 0), (1, 0), (1, 0), (1, 0), (1, 0), (1, 0)]) rfl ?_
    have J7 : r3 < 0 → G X 0 0 46 [(10, 0), (5, a_page), (6, r3), (1, 0), (1, 0), (1, 0), (1, 0), (1, 0), (1, 0), (1, 0), (1, 0)] [] (s5, m) := by
      intro h8
      have hF := ite_t h8 hF
      refine g_iconst h 46 dX7_putOut_46 ?_
      obtain ⟨e1, e2⟩ := some_2 hF
      rw [← e1, ← e2] at hE
      exact g_iret h 47 dX7_putOut_47 hE rfl (g_nb (by rw [← e1] at hr; exact hr)) ⟨(Nat.le_of_ble_eq_true rfl), (Nat.le_of_ble_eq_true rfl)⟩
    have J8 : ¬ (r3 < 0) → G X 0 0 48 [(10, 0), (5, a_page), (6, r3), (1, 0), (1, 0), (1, 0), (1, 0), (1, 0), (1, 0), (1, 0), (1, 0)] [] (s5, m) := by
      intro h9
      have hF := ite_f h9 hF
      exact J1 _ _ (by omega) hF
    refine g_aload_nq h 42 dX7_putOut_42 rfl rfl ?_
    refine g_ifnonnull h 43 48 dX7_putOut_43 (by decide) (fun h7 => ?_) (fun h7 => ?_)
    · exact J8 (Int.not_lt.mpr h7)
    · exact J7 h7
  refine g_aload_nq h 2 dX7_putOut_2 rfl rfl ?_
  refine gf_Page_kind h 3 dX7_putOut_3 kw_284 (by omega) ?_
  refine g_iconst h 6 dX7_putOut_6 ?_
  refine g_icmp_ne h 7 30 (gRi (by omega)) (gRi (by omega)) dX7_putOut_7 (by decide) (fun h1 => ?_) (fun h1 => ?_)
  · exact J3 h1
  · exact J2 h1
-- Pagewright.remove
def FX7_remove (a_entry : Int) (s : S2) : Option (Int × S2) :=
  gd (0 ≤ a_entry ∧ a_entry ≤ 191) <| bn (fun (s1 : S2) => some (0, s1)) fun k1 => if s 2 a_entry ≠ 0 then cb (FX7_leave a_entry s) fun r1 s2 => cb (FX1_clear a_entry s2) fun r2 s3 => k1 s3 else k1 s
set_option maxRecDepth 100000 in
set_option maxHeartbeats 4000000 in
theorem ctX7_remove {l : Launch} {w : gW} {bs : Nat} (hl : l.stackTraces = false) {a_entry : Int} {s m s0 : S2} {r0 : Int} (hF : FX7_remove a_entry s = some (r0, s0)) : gMet l w bs yX7_remove cX7_remove 2 none 2 0 [(10, 0), (4, a_entry)] (s, m) 0 none (s0, m) := by
  unfold FX7_remove at hF
  obtain ⟨q_a_entry, hF⟩ := gd_some hF
  refine g_start hl (by decide) (Nat.le_of_ble_eq_true rfl) rfl fun X h hE => ?_
  have h : gOk X "Pagewright" cX7_remove 2 2 0 0 := h
  have hE : gEnd X l w bs 0 none 0 none (s0, m) := hE
  show G X 0 0 0 [(10, 0), (4, a_entry)] [] (s, m)
  obtain ⟨k1, ek1, hF⟩ := bn_ex hF
  have J1 : ∀ (s1 : S2), k1 s1 = some (r0, s0) → G X 0 0 16 [(10, 0), (4, a_entry)] [] (s1, m) := by
    intro s1 hF
    rw [ek1] at hF
    obtain ⟨e1, e2⟩ := some_2 hF
    rw [← e2] at hE
    exact g_vret h 16 dX7_remove_16 hE rfl ⟨(Nat.le_of_ble_eq_true rfl), (Nat.le_of_ble_eq_true rfl)⟩
  refine G_typ fun hT_s => ?_
  have t1 : 0 ≤ s 2 a_entry ∧ s 2 a_entry ≤ 1 := hT_s.1 2 a_entry
  have J2 : s 2 a_entry ≠ 0 → G X 0 0 7 [(10, 0), (4, a_entry)] [] (s, m) := by
    intro h2
    have hF := ite_t h2 hF
    refine g_aload_nq h 7 dX7_remove_7 rfl rfl ?_
    refine g_aload_nq h 8 dX7_remove_8 rfl rfl ?_
    obtain ⟨r1, s2, c1, hF⟩ := cb_some hF
    refine g_callV h hE 9 dX7_remove_9 (ctX7_leave hl c1) mwX7_leave kw_565 (by decide) (by decide) rfl (Nat.le_of_ble_eq_true rfl) rfl (Nat.le_of_ble_eq_true rfl) ⟨Nat.le_of_ble_eq_true rfl, Nat.le_of_ble_eq_true rfl⟩ rfl rfl ?_
    show G X 0 0 12 [(10, 0), (4, a_entry)] [] (s2, m)
    refine g_aload_nq h 12 dX7_remove_12 rfl rfl ?_
    obtain ⟨r2, s3, c2, hF⟩ := cb_some hF
    refine g_callV h hE 13 dX7_remove_13 (ctX1_clear hl c2) mwX1_clear kw_585 (by decide) (show _ ∧ _ < (192 : Int) by omega) rfl (Nat.le_of_ble_eq_true rfl) rfl (Nat.le_of_ble_eq_true rfl) ⟨Nat.le_of_ble_eq_true rfl, Nat.le_of_ble_eq_true rfl⟩ rfl rfl ?_
    show G X 0 0 16 [(10, 0), (4, a_entry)] [] (s3, m)
    exact J1 _ hF
  have J3 : ¬ (s 2 a_entry ≠ 0) → G X 0 0 16 [(10, 0), (4, a_entry)] [] (s, m) := by
    intro h3
    have hF := ite_f h3 hF
    exact J1 _ hF
  refine g_aload_nq h 0 dX7_remove_0 rfl rfl ?_
  refine gf_Entry_mapped h 1 dX7_remove_1 kw_194 (by omega) ?_
  refine g_if_eq h 4 16 (gRi (by omega)) dX7_remove_4 (by decide) (fun h1 => ?_) (fun h1 => ?_)
  · exact J3 (fun q => q h1)
  · exact J2 h1
-- Pagewright.victim
def FX7_victim (a_group : Int) (s : S2) : Option (Int × S2) :=
  rgd (-1) 5 <| gd ((-1) ≤ a_group ∧ a_group ≤ 2) <| gl2 1000 (fun k1 (x_victim1 : Int) (x_i_space1 : Int) (s1 : S2) => if x_i_space1 < 6 then bn (fun (x_victim2 : Int) (s2 : S2) => k1 x_victim2 (x_i_space1 + 1) s2) fun k2 => bn (fun (s3 : S2) => k2 x_i_space1 s3) fun k3 => bn (fun (s4 : S2) => k2 x_victim1 s4) fun k4 => if (s1 35 x_i_space1 ≠ 0) ∧ ((a_group = (-1)) ∨ (s1 33 x_i_space1 = a_group)) then if x_victim1 < 0 then k3 s1 else cb (FX5_score x_i_space1 s1) fun r1 s5 => cb (FX5_score x_victim1 s5) fun r2 s6 => if r2 < r1 then k3 s6 else k4 s6 else k4 s1 else some (x_victim1, s1)) (-1) 0 s
theorem rgX7_victim {a_group : Int} {s s0 : S2} {r0 : Int} (hF : FX7_victim a_group s = some (r0, s0)) : (-1) ≤ r0 ∧ r0 ≤ 5 := (rgd_some hF).2
set_option maxRecDepth 100000 in
set_option maxHeartbeats 4000000 in
theorem ctX7_victim {l : Launch} {w : gW} {bs : Nat} (hl : l.stackTraces = false) {a_group : Int} {s m s0 : S2} {r0 : Int} (hF : FX7_victim a_group s = some (r0, s0)) : gMet l w bs yX7_victim cX7_victim 8 (some (FieldType.object "Pagewright$Space")) 2 0 [(10, 0), (0, a_group)] (s, m) 0 (some (8, r0)) (s0, m) := by
  unfold FX7_victim at hF
  obtain ⟨hF, hr⟩ := rgd_some hF
  obtain ⟨q_a_group, hF⟩ := gd_some hF
  refine g_start hl (by decide) (Nat.le_of_ble_eq_true rfl) rfl fun X h hE => ?_
  have h : gOk X "Pagewright" cX7_victim 8 2 0 0 := h
  have hE : gEnd X l w bs 0 (some (FieldType.object "Pagewright$Space")) 0 (some (8, r0)) (s0, m) := hE
  show G X 0 0 0 [(10, 0), (0, a_group), (1, 0), (1, 0), (1, 0), (1, 0), (1, 0), (1, 0)] [] (s, m)
  refine g_nullq h 0 8 rfl dX7_victim_0 ?_
  refine g_astore_n h 1 dX7_victim_1 (Nat.le_of_ble_eq_true rfl) rfl (L' := [(10, 0), (0, a_group), (8, (-1)), (1, 0), (1, 0), (1, 0), (1, 0), (1, 0)]) rfl ?_
  refine g_aload_nq h 2 dX7_victim_2 rfl rfl ?_
  refine gf_spaces h 3 dX7_victim_3 kw_361 ?_
  refine g_astore_n h 6 dX7_victim_6 (Nat.le_of_ble_eq_true rfl) rfl (L' := [(10, 0), (0, a_group), (8, (-1)), (12, 0), (1, 0), (1, 0), (1, 0), (1, 0)]) rfl ?_
  refine g_aload_nq h 7 dX7_victim_7 rfl rfl ?_
  refine an_spaces h 8 dX7_victim_8 ?_
  refine g_istore h 9 dX7_victim_9 (Nat.le_of_ble_eq_true rfl) rfl (L' := [(10, 0), (0, a_group), (8, (-1)), (12, 0), (0, 6), (1, 0), (1, 0), (1, 0)]) rfl ?_
  refine g_iconst h 11 dX7_victim_11 ?_
  refine g_istore h 12 dX7_victim_12 (Nat.le_of_ble_eq_true rfl) rfl (L' := [(10, 0), (0, a_group), (8, (-1)), (12, 0), (0, 6), (0, 0), (1, 0), (1, 0)]) rfl ?_
  obtain ⟨f1, ef1, hF⟩ := glx2 hF
  have J14 : ∀ (n1 : Nat) (x_victim1 x_i_space1 : Int) (s1 : S2), ((-1) ≤ x_victim1 ∧ x_victim1 ≤ 5) → (0 ≤ x_i_space1 ∧ x_i_space1 ≤ 6) → gl2 n1 f1 x_victim1 x_i_space1 s1 = some (r0, s0) → G X 0 0 14 [(10, 0), (0, a_group), (8, x_victim1), (12, 0), (0, 6), (0, x_i_space1), (1, 0), (1, 0)] [] (s1, m) := by
    intro n1
    induction n1 with
    | zero => intro x_victim1 x_i_space1 s1 _ _ hF; exact (gl2_0 hF).elim
    | succ n1 ih1 =>
      intro x_victim1 x_i_space1 s1 q1 q2 hF
      obtain ⟨k1, ek1, hF⟩ := glu2 hF ef1
      have J2 : x_i_space1 < 6 → G X 0 0 21 [(10, 0), (0, a_group), (8, x_victim1), (12, 0), (0, 6), (0, x_i_space1), (1, 0), (1, 0)] [] (s1, m) := by
        intro h2
        have hF := ite_t h2 hF
        refine g_aload_nq h 21 dX7_victim_21 rfl rfl ?_
        refine g_iload h 22 dX7_victim_22 rfl ?_
        refine al_spaces h 24 dX7_victim_24 (by omega) ?_
        refine g_astore h 25 dX7_victim_25 (Nat.le_of_ble_eq_true rfl) rfl (L' := [(10, 0), (0, a_group), (8, x_victim1), (12, 0), (0, 6), (0, x_i_space1), (8, x_i_space1), (1, 0)]) rfl ?_
        refine G_typ fun hT_s1 => ?_
        have t1 : 0 ≤ s1 35 x_i_space1 ∧ s1 35 x_i_space1 ≤ 1 := hT_s1.1 35 x_i_space1
        have t2 : 0 ≤ s1 33 x_i_space1 ∧ s1 33 x_i_space1 ≤ 2 := hT_s1.1 33 x_i_space1
        suffices J4 : ∀ v1 : Int, v1 = (if (s1 35 x_i_space1 ≠ 0) ∧ ((a_group = (-1)) ∨ (s1 33 x_i_space1 = a_group)) then 1 else 0 : Int) → G X 0 0 54 [(10, 0), (0, a_group), (8, x_victim1), (12, 0), (0, 6), (0, x_i_space1), (8, x_i_space1), (1, 0)] [(0, v1)] (s1, m) by
          have J5 : (s1 35 x_i_space1 ≠ 0) ∧ ((a_group = (-1)) ∨ (s1 33 x_i_space1 = a_group)) → G X 0 0 49 [(10, 0), (0, a_group), (8, x_victim1), (12, 0), (0, 6), (0, x_i_space1), (8, x_i_space1), (1, 0)] [] (s1, m) := by
            intro h6
            refine g_iconst h 49 dX7_victim_49 ?_
            refine g_goto h 50 54 dX7_victim_50 (by decide) ?_
            exact J4 _ (if_pos h6).symm
          have J6 : ¬ ((s1 35 x_i_space1 ≠ 0) ∧ ((a_group = (-1)) ∨ (s1 33 x_i_space1 = a_group))) → G X 0 0 53 [(10, 0), (0, a_group), (8, x_victim1), (12, 0), (0, 6), (0, x_i_space1), (8, x_i_space1), (1, 0)] [] (s1, m) := by
            intro h7
            refine g_iconst h 53 dX7_victim_53 ?_
            exact J4 _ (if_neg h7).symm
          refine g_aloadq h 27 dX7_victim_27 rfl rfl ?_
          refine gf_Space_living h 29 dX7_victim_29 kw_259 (by omega) ?_
          refine g_if_eq h 32 53 (gRi (by omega)) dX7_victim_32 (by decide) (fun h3 => ?_) (fun h3 => ?_)
          · exact J6 (fun q => (fun q => q h3) q.1)
          · refine g_iload_n h 35 dX7_victim_35 rfl ?_
            refine g_iconst h 36 dX7_victim_36 ?_
            refine g_icmp_eq h 37 49 (gRi (by omega)) (gRi (by omega)) dX7_victim_37 (by decide) (fun h4 => ?_) (fun h4 => ?_)
            · exact J5 ⟨h3, (Or.inl h4)⟩
            · refine g_aloadq h 40 dX7_victim_40 rfl rfl ?_
              refine gf_Space_group h 42 dX7_victim_42 kw_255 (by omega) ?_
              refine g_iload_n h 45 dX7_victim_45 rfl ?_
              refine g_icmp_ne h 46 53 (gRi (by omega)) (gRi (by omega)) dX7_victim_46 (by decide) (fun h5 => ?_) (fun h5 => ?_)
              · exact J6 (fun q => (fun q => q.elim h4 h5) q.2)
              · exact J5 ⟨h3, (Or.inr h5)⟩
        intro v1 e1
        subst e1
        refine g_istore h 54 dX7_victim_54 (Nat.le_of_ble_eq_true rfl) rfl (L' := [(10, 0), (0, a_group), (8, x_victim1), (12, 0), (0, 6), (0, x_i_space1), (8, x_i_space1), (0, (if (s1 35 x_i_space1 ≠ 0) ∧ ((a_group = (-1)) ∨ (s1 33 x_i_space1 = a_group)) then 1 else 0 : Int))]) rfl ?_
        obtain ⟨k2, ek2, hF⟩ := bn_ex hF
        have J7 : ∀ (x_victim2 : Int) (s2 : S2), ((-1) ≤ x_victim2 ∧ x_victim2 ≤ 5) → k2 x_victim2 s2 = some (r0, s0) → G X 0 0 80 [(10, 0), (0, a_group), (8, x_victim2), (12, 0), (0, 6), (0, x_i_space1), (8, x_i_space1), (0, (if (s1 35 x_i_space1 ≠ 0) ∧ ((a_group = (-1)) ∨ (s1 33 x_i_space1 = a_group)) then 1 else 0 : Int))] [] (s2, m) := by
          intro x_victim2 s2 q3 hF
          rw [ek2] at hF
          refine g_iinc h 80 dX7_victim_80 rfl rfl (L' := [(10, 0), (0, a_group), (8, x_victim2), (12, 0), (0, 6), (0, x_i_space1 + 1), (8, x_i_space1), (0, (if (s1 35 x_i_space1 ≠ 0) ∧ ((a_group = (-1)) ∨ (s1 33 x_i_space1 = a_group)) then 1 else 0 : Int))]) rfl ?_
          refine g_goto h 83 14 dX7_victim_83 (by decide) ?_
          refine G_weak (L' := [(10, 0), (0, a_group), (8, x_victim2), (12, 0), (0, 6), (0, x_i_space1 + 1), (1, 0), (1, 0)]) ⟨Or.inr rfl, Or.inr rfl, Or.inr rfl, Or.inr rfl, Or.inr rfl, Or.inr rfl, Or.inl rfl, Or.inl rfl, trivial⟩ ?_
          rw [ek1] at hF
          exact ih1 _ _ _ (by omega) (by omega) hF
        obtain ⟨k3, ek3, hF⟩ := bn_ex hF
        have J8 : ∀ (s3 : S2), k3 s3 = some (r0, s0) → G X 0 0 77 [(10, 0), (0, a_group), (8, x_victim1), (12, 0), (0, 6), (0, x_i_space1), (8, x_i_space1), (0, (if (s1 35 x_i_space1 ≠ 0) ∧ ((a_group = (-1)) ∨ (s1 33 x_i_space1 = a_group)) then 1 else 0 : Int))] [] (s3, m) := by
          intro s3 hF
          rw [ek3] at hF
          refine g_aloadq h 77 dX7_victim_77 rfl rfl ?_
          refine g_astore_n h 79 dX7_victim_79 (Nat.le_of_ble_eq_true rfl) rfl (L' := [(10, 0), (0, a_group), (8, x_i_space1), (12, 0), (0, 6), (0, x_i_space1), (8, x_i_space1), (0, (if (s1 35 x_i_space1 ≠ 0) ∧ ((a_group = (-1)) ∨ (s1 33 x_i_space1 = a_group)) then 1 else 0 : Int))]) rfl ?_
          exact J7 _ _ (by omega) hF
        obtain ⟨k4, ek4, hF⟩ := bn_ex hF
        have J9 : ∀ (s4 : S2), k4 s4 = some (r0, s0) → G X 0 0 80 [(10, 0), (0, a_group), (8, x_victim1), (12, 0), (0, 6), (0, x_i_space1), (8, x_i_space1), (0, (if (s1 35 x_i_space1 ≠ 0) ∧ ((a_group = (-1)) ∨ (s1 33 x_i_space1 = a_group)) then 1 else 0 : Int))] [] (s4, m) := by
          intro s4 hF
          rw [ek4] at hF
          exact J7 _ _ (by omega) hF
        have J10 : (s1 35 x_i_space1 ≠ 0) ∧ ((a_group = (-1)) ∨ (s1 33 x_i_space1 = a_group)) → G X 0 0 61 [(10, 0), (0, a_group), (8, x_victim1), (12, 0), (0, 6), (0, x_i_space1), (8, x_i_space1), (0, (if (s1 35 x_i_space1 ≠ 0) ∧ ((a_group = (-1)) ∨ (s1 33 x_i_space1 = a_group)) then 1 else 0 : Int))] [] (s1, m) := by
          intro h9
          have hF := ite_t h9 hF
          have J12 : x_victim1 < 0 → G X 0 0 77 [(10, 0), (0, a_group), (8, x_victim1), (12, 0), (0, 6), (0, x_i_space1), (8, x_i_space1), (0, (if (s1 35 x_i_space1 ≠ 0) ∧ ((a_group = (-1)) ∨ (s1 33 x_i_space1 = a_group)) then 1 else 0 : Int))] [] (s1, m) := by
            intro h11
            have hF := ite_t h11 hF
            exact J8 _ hF
          have J13 : ¬ (x_victim1 < 0) → G X 0 0 65 [(10, 0), (0, a_group), (8, x_victim1), (12, 0), (0, 6), (0, x_i_space1), (8, x_i_space1), (0, (if (s1 35 x_i_space1 ≠ 0) ∧ ((a_group = (-1)) ∨ (s1 33 x_i_space1 = a_group)) then 1 else 0 : Int))] [] (s1, m) := by
            intro h12
            have hF := ite_f h12 hF
            refine g_aloadq h 65 dX7_victim_65 rfl rfl ?_
            obtain ⟨r1, s5, c1, hF⟩ := cb_some hF
            have t3 : (-50) ≤ r1 ∧ r1 ≤ 114 := rgX5_score c1
            refine g_callV h hE 67 dX7_victim_67 (ctX5_score hl c1) mwX5_score kw_769 (by decide) (show _ ∧ _ < (6 : Int) by omega) rfl (Nat.le_of_ble_eq_true rfl) rfl (Nat.le_of_ble_eq_true rfl) ⟨Nat.le_of_ble_eq_true rfl, Nat.le_of_ble_eq_true rfl⟩ rfl rfl ?_
            show G X 0 0 70 [(10, 0), (0, a_group), (8, x_victim1), (12, 0), (0, 6), (0, x_i_space1), (8, x_i_space1), (0, (if (s1 35 x_i_space1 ≠ 0) ∧ ((a_group = (-1)) ∨ (s1 33 x_i_space1 = a_group)) then 1 else 0 : Int))] [(0, r1)] (s5, m)
            refine g_aload_nq h 70 dX7_victim_70 rfl rfl ?_
            obtain ⟨r2, s6, c2, hF⟩ := cb_some hF
            have t4 : (-50) ≤ r2 ∧ r2 ≤ 114 := rgX5_score c2
            refine g_callV h hE 71 dX7_victim_71 (ctX5_score hl c2) mwX5_score kw_769 (by decide) (show _ ∧ _ < (6 : Int) by omega) rfl (Nat.le_of_ble_eq_true rfl) rfl (Nat.le_of_ble_eq_true rfl) ⟨Nat.le_of_ble_eq_true rfl, Nat.le_of_ble_eq_true rfl⟩ rfl rfl ?_
            show G X 0 0 74 [(10, 0), (0, a_group), (8, x_victim1), (12, 0), (0, 6), (0, x_i_space1), (8, x_i_space1), (0, (if (s1 35 x_i_space1 ≠ 0) ∧ ((a_group = (-1)) ∨ (s1 33 x_i_space1 = a_group)) then 1 else 0 : Int))] [(0, r2), (0, r1)] (s6, m)
            refine g_icmp_le h 74 80 (gRi (by omega)) (gRi (by omega)) dX7_victim_74 (by decide) (fun h13 => ?_) (fun h13 => ?_)
            · have hF := ite_f (Int.not_lt.mpr h13) hF
              exact J9 _ hF
            · have hF := ite_t h13 hF
              exact J8 _ hF
          refine g_aload_nq h 61 dX7_victim_61 rfl rfl ?_
          refine g_ifnull h 62 77 dX7_victim_62 (by decide) (fun h10 => ?_) (fun h10 => ?_)
          · exact J12 h10
          · exact J13 (Int.not_lt.mpr h10)
        have J11 : ¬ ((s1 35 x_i_space1 ≠ 0) ∧ ((a_group = (-1)) ∨ (s1 33 x_i_space1 = a_group))) → G X 0 0 80 [(10, 0), (0, a_group), (8, x_victim1), (12, 0), (0, 6), (0, x_i_space1), (8, x_i_space1), (0, (if (s1 35 x_i_space1 ≠ 0) ∧ ((a_group = (-1)) ∨ (s1 33 x_i_space1 = a_group)) then 1 else 0 : Int))] [] (s1, m) := by
          intro h14
          have hF := ite_f h14 hF
          exact J9 _ hF
        refine g_iload h 56 dX7_victim_56 rfl ?_
        refine g_if_eq h 58 80 (gRi gR_ite) dX7_victim_58 (by decide) (fun h8 => ?_) (fun h8 => ?_)
        · exact J11 (iz_f h8)
        · exact J10 (iz_t h8)
      have J3 : ¬ (x_i_space1 < 6) → G X 0 0 86 [(10, 0), (0, a_group), (8, x_victim1), (12, 0), (0, 6), (0, x_i_space1), (1, 0), (1, 0)] [] (s1, m) := by
        intro h15
        have hF := ite_f h15 hF
        refine g_aload_nq h 86 dX7_victim_86 rfl rfl ?_
        obtain ⟨e1, e2⟩ := some_2 hF
        rw [← e1, ← e2] at hE
        exact g_aret h 87 dX7_victim_87 hE rfl ⟨(Nat.le_of_ble_eq_true rfl), (Nat.le_of_ble_eq_true rfl)⟩
      refine g_iload h 14 dX7_victim_14 rfl ?_
      refine g_iload h 16 dX7_victim_16 rfl ?_
      refine g_icmp_ge h 18 86 (gRi (by omega)) (gRi (by omega)) dX7_victim_18 (by decide) (fun h1 => ?_) (fun h1 => ?_)
      · exact J3 (Int.not_lt.mpr h1)
      · exact J2 h1
  exact J14 _ _ _ _ (by omega) (by omega) hF
-- Pagewright.bury
def FX7_bury (a_space : Int) (s : S2) : Option (Int × S2) :=
  gd (0 ≤ a_space ∧ a_space ≤ 5) <| gl1 1000 (fun k1 (x_i_entry1 : Int) (s1 : S2) => if x_i_entry1 < 32 then cb (FX7_remove (32 * a_space + x_i_entry1) s1) fun r1 s2 => k1 (x_i_entry1 + 1) s2 else bn (upd2 s1 35 a_space 0) fun s3 => some (0, s3)) 0 s
set_option maxRecDepth 100000 in
set_option maxHeartbeats 4000000 in
theorem ctX7_bury {l : Launch} {w : gW} {bs : Nat} (hl : l.stackTraces = false) {a_space : Int} {s m s0 : S2} {r0 : Int} (hF : FX7_bury a_space s = some (r0, s0)) : gMet l w bs yX7_bury cX7_bury 6 none 3 0 [(10, 0), (8, a_space)] (s, m) 0 none (s0, m) := by
  unfold FX7_bury at hF
  obtain ⟨q_a_space, hF⟩ := gd_some hF
  refine g_start hl (by decide) (Nat.le_of_ble_eq_true rfl) rfl fun X h hE => ?_
  have h : gOk X "Pagewright" cX7_bury 6 3 0 0 := h
  have hE : gEnd X l w bs 0 none 0 none (s0, m) := hE
  show G X 0 0 0 [(10, 0), (8, a_space), (1, 0), (1, 0), (1, 0), (1, 0)] [] (s, m)
  refine g_aload_nq h 0 dX7_bury_0 rfl rfl ?_
  refine gf_Space_entries h 1 dX7_bury_1 kw_254 (by omega) ?_
  refine g_astore_n h 4 dX7_bury_4 (Nat.le_of_ble_eq_true rfl) rfl (L' := [(10, 0), (8, a_space), (20, a_space), (1, 0), (1, 0), (1, 0)]) rfl ?_
  refine g_aload_nq h 5 dX7_bury_5 rfl rfl ?_
  refine an_Space_entries h 6 dX7_bury_6 (by omega) ?_
  refine g_istore_n h 7 dX7_bury_7 (Nat.le_of_ble_eq_true rfl) rfl (L' := [(10, 0), (8, a_space), (20, a_space), (0, 32), (1, 0), (1, 0)]) rfl ?_
  refine g_iconst h 8 dX7_bury_8 ?_
  refine g_istore h 9 dX7_bury_9 (Nat.le_of_ble_eq_true rfl) rfl (L' := [(10, 0), (8, a_space), (20, a_space), (0, 32), (0, 0), (1, 0)]) rfl ?_
  obtain ⟨f1, ef1, hF⟩ := glx1 hF
  have J4 : ∀ (n1 : Nat) (x_i_entry1 : Int) (s1 : S2), (0 ≤ x_i_entry1 ∧ x_i_entry1 ≤ 32) → gl1 n1 f1 x_i_entry1 s1 = some (r0, s0) → G X 0 0 11 [(10, 0), (8, a_space), (20, a_space), (0, 32), (0, x_i_entry1), (1, 0)] [] (s1, m) := by
    intro n1
    induction n1 with
    | zero => intro x_i_entry1 s1 _ hF; exact (gl1_0 hF).elim
    | succ n1 ih1 =>
      intro x_i_entry1 s1 q1 hF
      obtain ⟨k1, ek1, hF⟩ := glu1 hF ef1
      have J2 : x_i_entry1 < 32 → G X 0 0 17 [(10, 0), (8, a_space), (20, a_space), (0, 32), (0, x_i_entry1), (1, 0)] [] (s1, m) := by
        intro h2
        have hF := ite_t h2 hF
        refine g_aload_nq h 17 dX7_bury_17 rfl rfl ?_
        refine g_iload h 18 dX7_bury_18 rfl ?_
        refine al_Space_entries h 20 dX7_bury_20 (by omega) (by omega) ?_
        refine g_astore h 21 dX7_bury_21 (Nat.le_of_ble_eq_true rfl) rfl (L' := [(10, 0), (8, a_space), (20, a_space), (0, 32), (0, x_i_entry1), (4, 32 * a_space + x_i_entry1)]) rfl ?_
        refine g_aload_nq h 23 dX7_bury_23 rfl rfl ?_
        refine g_aloadq h 24 dX7_bury_24 rfl rfl ?_
        obtain ⟨r1, s2, c1, hF⟩ := cb_some hF
        refine g_callV h hE 26 dX7_bury_26 (ctX7_remove hl c1) mwX7_remove kw_561 (by decide) (by decide) rfl (Nat.le_of_ble_eq_true rfl) rfl (Nat.le_of_ble_eq_true rfl) ⟨Nat.le_of_ble_eq_true rfl, Nat.le_of_ble_eq_true rfl⟩ rfl rfl ?_
        show G X 0 0 29 [(10, 0), (8, a_space), (20, a_space), (0, 32), (0, x_i_entry1), (4, 32 * a_space + x_i_entry1)] [] (s2, m)
        refine g_iinc h 29 dX7_bury_29 rfl rfl (L' := [(10, 0), (8, a_space), (20, a_space), (0, 32), (0, x_i_entry1 + 1), (4, 32 * a_space + x_i_entry1)]) rfl ?_
        refine g_goto h 32 11 dX7_bury_32 (by decide) ?_
        refine G_weak (L' := [(10, 0), (8, a_space), (20, a_space), (0, 32), (0, x_i_entry1 + 1), (1, 0)]) ⟨Or.inr rfl, Or.inr rfl, Or.inr rfl, Or.inr rfl, Or.inr rfl, Or.inl rfl, trivial⟩ ?_
        rw [ek1] at hF
        exact ih1 _ _ (by omega) hF
      have J3 : ¬ (x_i_entry1 < 32) → G X 0 0 35 [(10, 0), (8, a_space), (20, a_space), (0, 32), (0, x_i_entry1), (1, 0)] [] (s1, m) := by
        intro h3
        have hF := ite_f h3 hF
        refine g_aload_nq h 35 dX7_bury_35 rfl rfl ?_
        refine g_iconst h 36 dX7_bury_36 ?_
        obtain ⟨s3, es3, hF⟩ := bn_ex hF
        refine pf_Space_living h 37 dX7_bury_37 kw_259 (by omega) (by omega) ?_
        rw [← es3]
        obtain ⟨e1, e2⟩ := some_2 hF
        rw [← e2] at hE
        exact g_vret h 40 dX7_bury_40 hE rfl ⟨(Nat.le_of_ble_eq_true rfl), (Nat.le_of_ble_eq_true rfl)⟩
      refine g_iload h 11 dX7_bury_11 rfl ?_
      refine g_iload_n h 13 dX7_bury_13 rfl ?_
      refine g_icmp_ge h 14 35 (gRi (by omega)) (gRi (by omega)) dX7_bury_14 (by decide) (fun h1 => ?_) (fun h1 => ?_)
      · exact J3 (Int.not_lt.mpr h1)
      · exact J2 h1
  exact J4 _ _ _ (by omega) hF
-- Pagewright.evictOne
def FX7_evictOne (a_group : Int) (s : S2) : Option (Int × S2) :=
  rgd 0 1 <| gd ((-1) ≤ a_group ∧ a_group ≤ 2) <| cb (FX7_pagesOf a_group s) fun r1 s1 => gl1 1000 (fun k1 (x_turn1 : Int) (s2 : S2) => gd ((-2147483648) ≤ 2 * r1 ∧ 2 * r1 ≤ 2147483647) <| if x_turn1 < 2 * r1 then cb (FX7_balance a_group s2) fun r2 s3 => cb (FX7_firstMember 0 a_group s3) fun r3 s4 => if r3 < 0 then some (0, s4) else bn (fun (s5 : S2) => some (1, s5)) fun k2 => bn (fun (s6 : S2) => bn (upd2 s6 19 r3 0) fun s8 => cb (FX7_bringToEnd r3 1 s8) fun r5 s9 => k1 (x_turn1 + 1) s9) fun k3 => if ¬ (s4 19 r3 ≠ 0) then cb (FX7_putOut r3 s4) fun r4 s7 => if r4 ≠ 0 then k2 s7 else k3 s7 else k3 s4 else some (0, s2)) 0 s1
theorem rgX7_evictOne {a_group : Int} {s s0 : S2} {r0 : Int} (hF : FX7_evictOne a_group s = some (r0, s0)) : 0 ≤ r0 ∧ r0 ≤ 1 := (rgd_some hF).2
set_option maxRecDepth 100000 in
set_option maxHeartbeats 4000000 in
theorem ctX7_evictOne {l : Launch} {w : gW} {bs : Nat} (hl : l.stackTraces = false) {a_group : Int} {s m s0 : S2} {r0 : Int} (hF : FX7_evictOne a_group s = some (r0, s0)) : gMet l w bs yX7_evictOne cX7_evictOne 5 (some FieldType.boolean) 3 0 [(10, 0), (0, a_group)] (s, m) 0 (some (0, r0)) (s0, m) := by
  unfold FX7_evictOne at hF
  obtain ⟨hF, hr⟩ := rgd_some hF
  obtain ⟨q_a_group, hF⟩ := gd_some hF
  refine g_start hl (by decide) (Nat.le_of_ble_eq_true rfl) rfl fun X h hE => ?_
  have h : gOk X "Pagewright" cX7_evictOne 5 3 0 0 := h
  have hE : gEnd X l w bs 0 (some FieldType.boolean) 0 (some (0, r0)) (s0, m) := hE
  show G X 0 0 0 [(10, 0), (0, a_group), (1, 0), (1, 0), (1, 0)] [] (s, m)
  refine g_iconst h 0 dX7_evictOne_0 ?_
  refine g_aload_nq h 1 dX7_evictOne_1 rfl rfl ?_
  refine g_iload_n h 2 dX7_evictOne_2 rfl ?_
  obtain ⟨r1, s1, c1, hF⟩ := cb_some hF
  have t1 : 0 ≤ r1 ∧ r1 ≤ 48 := rgX7_pagesOf c1
  refine g_callV h hE 3 dX7_evictOne_3 (ctX7_pagesOf hl c1) mwX7_pagesOf kw_655 (by decide) (by decide) rfl (Nat.le_of_ble_eq_true rfl) rfl (Nat.le_of_ble_eq_true rfl) ⟨Nat.le_of_ble_eq_true rfl, Nat.le_of_ble_eq_true rfl⟩ rfl rfl ?_
  show G X 0 0 6 [(10, 0), (0, a_group), (1, 0), (1, 0), (1, 0)] [(0, r1), (0, 2)] (s1, m)
  refine g_imul h 6 dX7_evictOne_6 ?_
  refine g_istore_n h 7 dX7_evictOne_7 (Nat.le_of_ble_eq_true rfl) rfl (L' := [(10, 0), (0, a_group), (0, 2 * r1), (1, 0), (1, 0)]) rfl ?_
  refine g_iconst h 8 dX7_evictOne_8 ?_
  refine g_istore_n h 9 dX7_evictOne_9 (Nat.le_of_ble_eq_true rfl) rfl (L' := [(10, 0), (0, a_group), (0, 2 * r1), (0, 0), (1, 0)]) rfl ?_
  obtain ⟨f1, ef1, hF⟩ := glx1 hF
  have J10 : ∀ (n1 : Nat) (x_turn1 : Int) (s2 : S2), ((-2147483648) ≤ x_turn1 ∧ x_turn1 ≤ 2147483647) → gl1 n1 f1 x_turn1 s2 = some (r0, s0) → G X 0 0 10 [(10, 0), (0, a_group), (0, 2 * r1), (0, x_turn1), (1, 0)] [] (s2, m) := by
    intro n1
    induction n1 with
    | zero => intro x_turn1 s2 _ hF; exact (gl1_0 hF).elim
    | succ n1 ih1 =>
      intro x_turn1 s2 q1 hF
      obtain ⟨k1, ek1, hF⟩ := glu1 hF ef1
      obtain ⟨q2, hF⟩ := gd_some hF
      have J2 : x_turn1 < 2 * r1 → G X 0 0 15 [(10, 0), (0, a_group), (0, 2 * r1), (0, x_turn1), (1, 0)] [] (s2, m) := by
        intro h2
        have hF := ite_t h2 hF
        refine g_aload_nq h 15 dX7_evictOne_15 rfl rfl ?_
        refine g_iload_n h 16 dX7_evictOne_16 rfl ?_
        obtain ⟨r2, s3, c2, hF⟩ := cb_some hF
        refine g_callV h hE 17 dX7_evictOne_17 (ctX7_balance hl c2) mwX7_balance kw_721 (by decide) (by decide) rfl (Nat.le_of_ble_eq_true rfl) rfl (Nat.le_of_ble_eq_true rfl) ⟨Nat.le_of_ble_eq_true rfl, Nat.le_of_ble_eq_true rfl⟩ rfl rfl ?_
        show G X 0 0 20 [(10, 0), (0, a_group), (0, 2 * r1), (0, x_turn1), (1, 0)] [] (s3, m)
        refine g_aload_nq h 20 dX7_evictOne_20 rfl rfl ?_
        refine g_iconst h 21 dX7_evictOne_21 ?_
        refine g_iload_n h 22 dX7_evictOne_22 rfl ?_
        obtain ⟨r3, s4, c3, hF⟩ := cb_some hF
        have t2 : (-1) ≤ r3 ∧ r3 ≤ 23 := rgX7_firstMember c3
        refine g_callV h hE 23 dX7_evictOne_23 (ctX7_firstMember hl c3) mwX7_firstMember kw_725 (by decide) (by decide) rfl (Nat.le_of_ble_eq_true rfl) rfl (Nat.le_of_ble_eq_true rfl) ⟨Nat.le_of_ble_eq_true rfl, Nat.le_of_ble_eq_true rfl⟩ rfl rfl ?_
        show G X 0 0 26 [(10, 0), (0, a_group), (0, 2 * r1), (0, x_turn1), (1, 0)] [(5, r3)] (s4, m)
        refine g_astore h 26 dX7_evictOne_26 (Nat.le_of_ble_eq_true rfl) rfl (L' := [(10, 0), (0, a_group), (0, 2 * r1), (0, x_turn1), (5, r3)]) rfl ?_
        have J4 : r3 < 0 → G X 0 0 33 [(10, 0), (0, a_group), (0, 2 * r1), (0, x_turn1), (5, r3)] [] (s4, m) := by
          intro h4
          have hF := ite_t h4 hF
          refine g_iconst h 33 dX7_evictOne_33 ?_
          obtain ⟨e1, e2⟩ := some_2 hF
          rw [← e1, ← e2] at hE
          exact g_iret h 34 dX7_evictOne_34 hE rfl (g_nb (by rw [← e1] at hr; exact hr)) ⟨(Nat.le_of_ble_eq_true rfl), (Nat.le_of_ble_eq_true rfl)⟩
        have J5 : ¬ (r3 < 0) → G X 0 0 35 [(10, 0), (0, a_group), (0, 2 * r1), (0, x_turn1), (5, r3)] [] (s4, m) := by
          intro h5
          have hF := ite_f h5 hF
          obtain ⟨k2, ek2, hF⟩ := bn_ex hF
          have J6 : ∀ (s5 : S2), k2 s5 = some (r0, s0) → G X 0 0 52 [(10, 0), (0, a_group), (0, 2 * r1), (0, x_turn1), (5, r3)] [] (s5, m) := by
            intro s5 hF
            rw [ek2] at hF
            refine g_iconst h 52 dX7_evictOne_52 ?_
            obtain ⟨e1, e2⟩ := some_2 hF
            rw [← e1, ← e2] at hE
            exact g_iret h 53 dX7_evictOne_53 hE rfl (g_nb (by rw [← e1] at hr; exact hr)) ⟨(Nat.le_of_ble_eq_true rfl), (Nat.le_of_ble_eq_true rfl)⟩
          obtain ⟨k3, ek3, hF⟩ := bn_ex hF
          have J7 : ∀ (s6 : S2), k3 s6 = some (r0, s0) → G X 0 0 54 [(10, 0), (0, a_group), (0, 2 * r1), (0, x_turn1), (5, r3)] [] (s6, m) := by
            intro s6 hF
            rw [ek3] at hF
            refine g_aloadq h 54 dX7_evictOne_54 rfl rfl ?_
            refine g_iconst h 56 dX7_evictOne_56 ?_
            obtain ⟨s8, es8, hF⟩ := bn_ex hF
            refine pf_Page_seen h 57 dX7_evictOne_57 kw_291 (by omega) (by omega) ?_
            rw [← es8]
            refine g_aload_nq h 60 dX7_evictOne_60 rfl rfl ?_
            refine g_aloadq h 61 dX7_evictOne_61 rfl rfl ?_
            refine g_iconst h 63 dX7_evictOne_63 ?_
            obtain ⟨r5, s9, c5, hF⟩ := cb_some hF
            refine g_callV h hE 64 dX7_evictOne_64 (ctX7_bringToEnd hl c5) mwX7_bringToEnd kw_729 (by decide) (by decide) rfl (Nat.le_of_ble_eq_true rfl) rfl (Nat.le_of_ble_eq_true rfl) ⟨Nat.le_of_ble_eq_true rfl, Nat.le_of_ble_eq_true rfl⟩ rfl rfl ?_
            show G X 0 0 67 [(10, 0), (0, a_group), (0, 2 * r1), (0, x_turn1), (5, r3)] [] (s9, m)
            refine g_iinc h 67 dX7_evictOne_67 rfl rfl (L' := [(10, 0), (0, a_group), (0, 2 * r1), (0, x_turn1 + 1), (5, r3)]) rfl ?_
            refine g_goto h 70 10 dX7_evictOne_70 (by decide) ?_
            refine G_weak (L' := [(10, 0), (0, a_group), (0, 2 * r1), (0, x_turn1 + 1), (1, 0)]) ⟨Or.inr rfl, Or.inr rfl, Or.inr rfl, Or.inr rfl, Or.inl rfl, trivial⟩ ?_
            rw [ek1] at hF
            exact ih1 _ _ (by omega) hF
          refine G_typ fun hT_s4 => ?_
          have t3 : 0 ≤ s4 19 r3 ∧ s4 19 r3 ≤ 1 := hT_s4.1 19 r3
          have J8 : ¬ (s4 19 r3 ≠ 0) → G X 0 0 43 [(10, 0), (0, a_group), (0, 2 * r1), (0, x_turn1), (5, r3)] [] (s4, m) := by
            intro h7
            have hF := ite_t h7 hF
            refine g_aload_nq h 43 dX7_evictOne_43 rfl rfl ?_
            refine g_aloadq h 44 dX7_evictOne_44 rfl rfl ?_
            obtain ⟨r4, s7, c4, hF⟩ := cb_some hF
            have t4 : 0 ≤ r4 ∧ r4 ≤ 1 := rgX7_putOut c4
            refine g_callV h hE 46 dX7_evictOne_46 (ctX7_putOut hl c4) mwX7_putOut kw_733 (by decide) (by decide) rfl (Nat.le_of_ble_eq_true rfl) rfl (Nat.le_of_ble_eq_true rfl) ⟨Nat.le_of_ble_eq_true rfl, Nat.le_of_ble_eq_true rfl⟩ rfl rfl ?_
            show G X 0 0 49 [(10, 0), (0, a_group), (0, 2 * r1), (0, x_turn1), (5, r3)] [(0, r4)] (s7, m)
            refine g_if_eq h 49 54 (gRi (by omega)) dX7_evictOne_49 (by decide) (fun h8 => ?_) (fun h8 => ?_)
            · have hF := ite_f (fun q => q h8) hF
              exact J7 _ hF
            · have hF := ite_t h8 hF
              exact J6 _ hF
          have J9 : ¬ (¬ (s4 19 r3 ≠ 0)) → G X 0 0 54 [(10, 0), (0, a_group), (0, 2 * r1), (0, x_turn1), (5, r3)] [] (s4, m) := by
            intro h9
            have hF := ite_f h9 hF
            exact J7 _ hF
          refine g_aloadq h 35 dX7_evictOne_35 rfl rfl ?_
          refine gf_Page_seen h 37 dX7_evictOne_37 kw_291 (by omega) ?_
          refine g_if_ne h 40 54 (gRi (by omega)) dX7_evictOne_40 (by decide) (fun h6 => ?_) (fun h6 => ?_)
          · exact J9 (fun q => q h6)
          · exact J8 (fun q => q h6)
        refine g_aloadq h 28 dX7_evictOne_28 rfl rfl ?_
        refine g_ifnonnull h 30 35 dX7_evictOne_30 (by decide) (fun h3 => ?_) (fun h3 => ?_)
        · exact J5 (Int.not_lt.mpr h3)
        · exact J4 h3
      have J3 : ¬ (x_turn1 < 2 * r1) → G X 0 0 73 [(10, 0), (0, a_group), (0, 2 * r1), (0, x_turn1), (1, 0)] [] (s2, m) := by
        intro h10
        have hF := ite_f h10 hF
        refine g_iconst h 73 dX7_evictOne_73 ?_
        obtain ⟨e1, e2⟩ := some_2 hF
        rw [← e1, ← e2] at hE
        exact g_iret h 74 dX7_evictOne_74 hE rfl (g_nb (by rw [← e1] at hr; exact hr)) ⟨(Nat.le_of_ble_eq_true rfl), (Nat.le_of_ble_eq_true rfl)⟩
      refine g_iload_n h 10 dX7_evictOne_10 rfl ?_
      refine g_iload_n h 11 dX7_evictOne_11 rfl ?_
      refine g_icmp_ge h 12 73 (gRi (by omega)) (gRi (by omega)) dX7_evictOne_12 (by decide) (fun h1 => ?_) (fun h1 => ?_)
      · exact J3 (Int.not_lt.mpr h1)
      · exact J2 h1
  exact J10 _ _ _ (by omega) hF
-- Pagewright.isAtLimit
def FX7_isAtLimit (a_group : Int) (s : S2) : Option (Int × S2) :=
  rgd 0 1 <| gd (0 ≤ a_group ∧ a_group ≤ 2) <| bn (fun (v1 : Int) (s1 : S2) => some (v1, s1)) fun k1 => bn (fun (s2 : S2) => k1 1 s2) fun k2 => bn (fun (s3 : S2) => k1 0 s3) fun k3 => if ((0 ≤ a_group) ∧ (a_group < 3)) ∧ (s 47 a_group ≠ (-1)) then cb (FX7_pagesOf a_group s) fun r1 s4 => if s4 47 a_group ≤ r1 then k2 s4 else k3 s4 else k3 s
theorem rgX7_isAtLimit {a_group : Int} {s s0 : S2} {r0 : Int} (hF : FX7_isAtLimit a_group s = some (r0, s0)) : 0 ≤ r0 ∧ r0 ≤ 1 := (rgd_some hF).2
set_option maxRecDepth 100000 in
set_option maxHeartbeats 4000000 in
theorem ctX7_isAtLimit {l : Launch} {w : gW} {bs : Nat} (hl : l.stackTraces = false) {a_group : Int} {s m s0 : S2} {r0 : Int} (hF : FX7_isAtLimit a_group s = some (r0, s0)) : gMet l w bs yX7_isAtLimit cX7_isAtLimit 2 (some FieldType.boolean) 3 0 [(10, 0), (0, a_group)] (s, m) 0 (some (0, r0)) (s0, m) := by
  unfold FX7_isAtLimit at hF
  obtain ⟨hF, hr⟩ := rgd_some hF
  obtain ⟨q_a_group, hF⟩ := gd_some hF
  refine g_start hl (by decide) (Nat.le_of_ble_eq_true rfl) rfl fun X h hE => ?_
  have h : gOk X "Pagewright" cX7_isAtLimit 2 3 0 0 := h
  have hE : gEnd X l w bs 0 (some FieldType.boolean) 0 (some (0, r0)) (s0, m) := hE
  show G X 0 0 0 [(10, 0), (0, a_group)] [] (s, m)
  obtain ⟨k1, ek1, hF⟩ := bn_ex hF
  have J1 : ∀ (v1 : Int) (s1 : S2), (0 ≤ v1 ∧ v1 ≤ 1) → k1 v1 s1 = some (r0, s0) → G X 0 0 38 [(10, 0), (0, a_group)] [(0, v1)] (s1, m) := by
    intro v1 s1 q1 hF
    rw [ek1] at hF
    obtain ⟨e1, e2⟩ := some_2 hF
    rw [← e1, ← e2] at hE
    exact g_iret h 38 dX7_isAtLimit_38 hE rfl (g_nb (by rw [← e1] at hr; exact hr)) ⟨(Nat.le_of_ble_eq_true rfl), (Nat.le_of_ble_eq_true rfl)⟩
  obtain ⟨k2, ek2, hF⟩ := bn_ex hF
  have J2 : ∀ (s2 : S2), k2 s2 = some (r0, s0) → G X 0 0 33 [(10, 0), (0, a_group)] [] (s2, m) := by
    intro s2 hF
    rw [ek2] at hF
    refine g_iconst h 33 dX7_isAtLimit_33 ?_
    refine g_goto h 34 38 dX7_isAtLimit_34 (by decide) ?_
    exact J1 _ _ (by omega) hF
  obtain ⟨k3, ek3, hF⟩ := bn_ex hF
  have J3 : ∀ (s3 : S2), k3 s3 = some (r0, s0) → G X 0 0 37 [(10, 0), (0, a_group)] [] (s3, m) := by
    intro s3 hF
    rw [ek3] at hF
    refine g_iconst h 37 dX7_isAtLimit_37 ?_
    exact J1 _ _ (by omega) hF
  refine G_typ fun hT_s => ?_
  have t1 : (-1) ≤ s 47 a_group ∧ s 47 a_group ≤ 24 := hT_s.1 47 a_group
  have J4 : ((0 ≤ a_group) ∧ (a_group < 3)) ∧ (s 47 a_group ≠ (-1)) → G X 0 0 19 [(10, 0), (0, a_group)] [] (s, m) := by
    intro h4
    have hF := ite_t h4 hF
    refine g_aload_nq h 19 dX7_isAtLimit_19 rfl rfl ?_
    refine g_iload_n h 20 dX7_isAtLimit_20 rfl ?_
    obtain ⟨r1, s4, c1, hF⟩ := cb_some hF
    have t2 : 0 ≤ r1 ∧ r1 ≤ 48 := rgX7_pagesOf c1
    refine g_callV h hE 21 dX7_isAtLimit_21 (ctX7_pagesOf hl c1) mwX7_pagesOf kw_655 (by decide) (by decide) rfl (Nat.le_of_ble_eq_true rfl) rfl (Nat.le_of_ble_eq_true rfl) ⟨Nat.le_of_ble_eq_true rfl, Nat.le_of_ble_eq_true rfl⟩ rfl rfl ?_
    show G X 0 0 24 [(10, 0), (0, a_group)] [(0, r1)] (s4, m)
    refine G_typ fun hT_s4 => ?_
    have t3 : (-1) ≤ s4 47 a_group ∧ s4 47 a_group ≤ 24 := hT_s4.1 47 a_group
    refine g_aload_nq h 24 dX7_isAtLimit_24 rfl rfl ?_
    refine gf_limits h 25 dX7_isAtLimit_25 kw_368 ?_
    refine g_iload_n h 28 dX7_isAtLimit_28 rfl ?_
    refine al_limits h 29 dX7_isAtLimit_29 (by omega) ?_
    refine g_icmp_lt h 30 37 (gRi (by omega)) (gRi (by omega)) dX7_isAtLimit_30 (by decide) (fun h5 => ?_) (fun h5 => ?_)
    · have hF := ite_f (Int.not_le.mpr h5) hF
      exact J3 _ hF
    · have hF := ite_t h5 hF
      exact J2 _ hF
  have J5 : ¬ (((0 ≤ a_group) ∧ (a_group < 3)) ∧ (s 47 a_group ≠ (-1))) → G X 0 0 37 [(10, 0), (0, a_group)] [] (s, m) := by
    intro h6
    have hF := ite_f h6 hF
    exact J3 _ hF
  refine g_iload_n h 0 dX7_isAtLimit_0 rfl ?_
  refine g_if_lt h 1 37 (gRi (by omega)) dX7_isAtLimit_1 (by decide) (fun h1 => ?_) (fun h1 => ?_)
  · exact J5 (fun q => (fun q => (Int.not_le.mpr h1) q.1) q.1)
  · refine g_iload_n h 4 dX7_isAtLimit_4 rfl ?_
    refine g_iconst h 5 dX7_isAtLimit_5 ?_
    refine g_icmp_ge h 6 37 (gRi (by omega)) (gRi (by omega)) dX7_isAtLimit_6 (by decide) (fun h2 => ?_) (fun h2 => ?_)
    · exact J5 (fun q => (fun q => (Int.not_lt.mpr h2) q.2) q.1)
    · refine g_aload_nq h 9 dX7_isAtLimit_9 rfl rfl ?_
      refine gf_limits h 10 dX7_isAtLimit_10 kw_368 ?_
      refine g_iload_n h 13 dX7_isAtLimit_13 rfl ?_
      refine al_limits h 14 dX7_isAtLimit_14 (by omega) ?_
      refine g_iconst h 15 dX7_isAtLimit_15 ?_
      refine g_icmp_eq h 16 37 (gRi (by omega)) (gRi (by omega)) dX7_isAtLimit_16 (by decide) (fun h3 => ?_) (fun h3 => ?_)
      · exact J5 (fun q => (fun q => q h3) q.2)
      · exact J4 ⟨⟨h1, h2⟩, h3⟩
-- Pagewright.look
def FX7_look (a_entry : Int) (s : S2) : Option (Int × S2) :=
  rgd 0 1 <| gd (0 ≤ a_entry ∧ a_entry ≤ 191) <| if (s 9 a_entry < 0) ∨ (¬ ((s 15 (s 9 a_entry) = 1) ∧ (¬ (s 22 (s 9 a_entry) ≠ 0)))) then some (0, s) else cb (FX7_mergedTwin (s 9 a_entry) s) fun r1 s1 => bn (fun (x_twin1 : Int) (s2 : S2) => cb (FX7_give a_entry x_twin1 0 s2) fun r5 s8 => some (1, s8)) fun k1 => if r1 < 0 then cb (FX7_lookedTwin (s 9 a_entry) s1) fun r2 s3 => if (r2 < 0) ∨ (s3 9 r2 < 0) then bn (upd2 s3 12 a_entry 1) fun s4 => some (0, s4) else bn (upd2 s3 22 (s3 9 r2) 1) fun s5 => cb (FX1_forbidStores r2 s5) fun r3 s6 => cb (FX7_setJoined (r2 / 4) 0 s6) fun r4 s7 => k1 (s3 9 r2) s7 else k1 r1 s1
theorem rgX7_look {a_entry : Int} {s s0 : S2} {r0 : Int} (hF : FX7_look a_entry s = some (r0, s0)) : 0 ≤ r0 ∧ r0 ≤ 1 := (rgd_some hF).2
set_option maxRecDepth 100000 in
set_option maxHeartbeats 4000000 in
theorem ctX7_look {l : Launch} {w : gW} {bs : Nat} (hl : l.stackTraces = false) {a_entry : Int} {s m s0 : S2} {r0 : Int} (hF : FX7_look a_entry s = some (r0, s0)) : gMet l w bs yX7_look cX7_look 5 (some FieldType.boolean) 3 0 [(10, 0), (4, a_entry)] (s, m) 0 (some (0, r0)) (s0, m) := by
  unfold FX7_look at hF
  obtain ⟨hF, hr⟩ := rgd_some hF
  obtain ⟨q_a_entry, hF⟩ := gd_some hF
  refine g_start hl (by decide) (Nat.le_of_ble_eq_true rfl) rfl fun X h hE => ?_
  have h : gOk X "Pagewright" cX7_look 5 3 0 0 := h
  have hE : gEnd X l w bs 0 (some FieldType.boolean) 0 (some (0, r0)) (s0, m) := hE
  show G X 0 0 0 [(10, 0), (4, a_entry), (1, 0), (1, 0), (1, 0)] [] (s, m)
  refine G_typ fun hT_s => ?_
  have t1 : (-1) ≤ s 9 a_entry ∧ s 9 a_entry ≤ 23 := hT_s.1 9 a_entry
  refine g_aload_nq h 0 dX7_look_0 rfl rfl ?_
  refine gf_Entry_page h 1 dX7_look_1 kw_213 (by omega) ?_
  refine g_astore_n h 4 dX7_look_4 (Nat.le_of_ble_eq_true rfl) rfl (L' := [(10, 0), (4, a_entry), (5, s 9 a_entry), (1, 0), (1, 0)]) rfl ?_
  have t2 : 0 ≤ s 15 (s 9 a_entry) ∧ s 15 (s 9 a_entry) ≤ 2 := hT_s.1 15 (s 9 a_entry)
  have t3 : 0 ≤ s 22 (s 9 a_entry) ∧ s 22 (s 9 a_entry) ≤ 1 := hT_s.1 22 (s 9 a_entry)
  have J1 : (s 9 a_entry < 0) ∨ (¬ ((s 15 (s 9 a_entry) = 1) ∧ (¬ (s 22 (s 9 a_entry) ≠ 0)))) → G X 0 0 16 [(10, 0), (4, a_entry), (5, s 9 a_entry), (1, 0), (1, 0)] [] (s, m) := by
    intro h3
    have hF := ite_t h3 hF
    refine g_iconst h 16 dX7_look_16 ?_
    obtain ⟨e1, e2⟩ := some_2 hF
    rw [← e1, ← e2] at hE
    exact g_iret h 17 dX7_look_17 hE rfl (g_nb (by rw [← e1] at hr; exact hr)) ⟨(Nat.le_of_ble_eq_true rfl), (Nat.le_of_ble_eq_true rfl)⟩
  have J2 : ¬ ((s 9 a_entry < 0) ∨ (¬ ((s 15 (s 9 a_entry) = 1) ∧ (¬ (s 22 (s 9 a_entry) ≠ 0))))) → G X 0 0 18 [(10, 0), (4, a_entry), (5, s 9 a_entry), (1, 0), (1, 0)] [] (s, m) := by
    intro h4
    have hF := ite_f h4 hF
    refine g_aload_nq h 18 dX7_look_18 rfl rfl ?_
    refine g_aload_nq h 19 dX7_look_19 rfl rfl ?_
    obtain ⟨r1, s1, c1, hF⟩ := cb_some hF
    have t4 : (-1) ≤ r1 ∧ r1 ≤ 23 := rgX7_mergedTwin c1
    refine g_callV h hE 20 dX7_look_20 (ctX7_mergedTwin hl c1) mwX7_mergedTwin kw_929 (by decide) (by decide) rfl (Nat.le_of_ble_eq_true rfl) rfl (Nat.le_of_ble_eq_true rfl) ⟨Nat.le_of_ble_eq_true rfl, Nat.le_of_ble_eq_true rfl⟩ rfl rfl ?_
    show G X 0 0 23 [(10, 0), (4, a_entry), (5, s 9 a_entry), (1, 0), (1, 0)] [(5, r1)] (s1, m)
    refine g_astore_n h 23 dX7_look_23 (Nat.le_of_ble_eq_true rfl) rfl (L' := [(10, 0), (4, a_entry), (5, s 9 a_entry), (5, r1), (1, 0)]) rfl ?_
    obtain ⟨k1, ek1, hF⟩ := bn_ex hF
    have J3 : ∀ (x_twin1 : Int) (s2 : S2), ((-1) ≤ x_twin1 ∧ x_twin1 ≤ 23) → k1 x_twin1 s2 = some (r0, s0) → G X 0 0 81 [(10, 0), (4, a_entry), (5, s 9 a_entry), (5, x_twin1), (1, 0)] [] (s2, m) := by
      intro x_twin1 s2 q1 hF
      rw [ek1] at hF
      refine g_aload_nq h 81 dX7_look_81 rfl rfl ?_
      refine g_aload_nq h 82 dX7_look_82 rfl rfl ?_
      refine g_aload_nq h 83 dX7_look_83 rfl rfl ?_
      refine g_iconst h 84 dX7_look_84 ?_
      obtain ⟨r5, s8, c5, hF⟩ := cb_some hF
      refine g_callV h hE 85 dX7_look_85 (ctX7_give hl c5) mwX7_give kw_805 (by decide) (by decide) rfl (Nat.le_of_ble_eq_true rfl) rfl (Nat.le_of_ble_eq_true rfl) ⟨Nat.le_of_ble_eq_true rfl, Nat.le_of_ble_eq_true rfl⟩ rfl rfl ?_
      show G X 0 0 88 [(10, 0), (4, a_entry), (5, s 9 a_entry), (5, x_twin1), (1, 0)] [] (s8, m)
      refine g_iconst h 88 dX7_look_88 ?_
      obtain ⟨e1, e2⟩ := some_2 hF
      rw [← e1, ← e2] at hE
      exact g_iret h 89 dX7_look_89 hE rfl (g_nb (by rw [← e1] at hr; exact hr)) ⟨(Nat.le_of_ble_eq_true rfl), (Nat.le_of_ble_eq_true rfl)⟩
    have J4 : r1 < 0 → G X 0 0 28 [(10, 0), (4, a_entry), (5, s 9 a_entry), (5, r1), (1, 0)] [] (s1, m) := by
      intro h6
      have hF := ite_t h6 hF
      refine g_aload_nq h 28 dX7_look_28 rfl rfl ?_
      refine g_aload_nq h 29 dX7_look_29 rfl rfl ?_
      obtain ⟨r2, s3, c2, hF⟩ := cb_some hF
      have t5 : (-1) ≤ r2 ∧ r2 ≤ 191 := rgX7_lookedTwin c2
      refine g_callV h hE 30 dX7_look_30 (ctX7_lookedTwin hl c2) mwX7_lookedTwin kw_933 (by decide) (by decide) rfl (Nat.le_of_ble_eq_true rfl) rfl (Nat.le_of_ble_eq_true rfl) ⟨Nat.le_of_ble_eq_true rfl, Nat.le_of_ble_eq_true rfl⟩ rfl rfl ?_
      show G X 0 0 33 [(10, 0), (4, a_entry), (5, s 9 a_entry), (5, r1), (1, 0)] [(4, r2)] (s3, m)
      refine g_astore h 33 dX7_look_33 (Nat.le_of_ble_eq_true rfl) rfl (L' := [(10, 0), (4, a_entry), (5, s 9 a_entry), (5, r1), (4, r2)]) rfl ?_
      refine G_typ fun hT_s3 => ?_
      have t6 : (-1) ≤ s3 9 r2 ∧ s3 9 r2 ≤ 23 := hT_s3.1 9 r2
      have J6 : (r2 < 0) ∨ (s3 9 r2 < 0) → G X 0 0 48 [(10, 0), (4, a_entry), (5, s 9 a_entry), (5, r1), (4, r2)] [] (s3, m) := by
        intro h9
        have hF := ite_t h9 hF
        refine g_aload_nq h 48 dX7_look_48 rfl rfl ?_
        refine g_iconst h 49 dX7_look_49 ?_
        obtain ⟨s4, es4, hF⟩ := bn_ex hF
        refine pf_Entry_looked h 50 dX7_look_50 kw_220 (by omega) (by omega) ?_
        rw [← es4]
        refine g_iconst h 53 dX7_look_53 ?_
        obtain ⟨e1, e2⟩ := some_2 hF
        rw [← e1, ← e2] at hE
        exact g_iret h 54 dX7_look_54 hE rfl (g_nb (by rw [← e1] at hr; exact hr)) ⟨(Nat.le_of_ble_eq_true rfl), (Nat.le_of_ble_eq_true rfl)⟩
      have J7 : ¬ ((r2 < 0) ∨ (s3 9 r2 < 0)) → G X 0 0 55 [(10, 0), (4, a_entry), (5, s 9 a_entry), (5, r1), (4, r2)] [] (s3, m) := by
        intro h10
        have hF := ite_f h10 hF
        refine g_aloadq h 55 dX7_look_55 rfl rfl ?_
        refine gf_Entry_page h 57 dX7_look_57 kw_213 (by omega) ?_
        refine g_astore_n h 60 dX7_look_60 (Nat.le_of_ble_eq_true rfl) rfl (L' := [(10, 0), (4, a_entry), (5, s 9 a_entry), (5, s3 9 r2), (4, r2)]) rfl ?_
        refine g_aload_nq h 61 dX7_look_61 rfl rfl ?_
        refine g_iconst h 62 dX7_look_62 ?_
        obtain ⟨s5, es5, hF⟩ := bn_ex hF
        refine pf_Page_merged h 63 dX7_look_63 kw_297 (by omega) (by omega) ?_
        rw [← es5]
        refine g_aloadq h 66 dX7_look_66 rfl rfl ?_
        obtain ⟨r3, s6, c3, hF⟩ := cb_some hF
        refine g_callV h hE 68 dX7_look_68 (ctX1_forbidStores hl c3) mwX1_forbidStores kw_597 (by decide) (show _ ∧ _ < (192 : Int) by omega) rfl (Nat.le_of_ble_eq_true rfl) rfl (Nat.le_of_ble_eq_true rfl) ⟨Nat.le_of_ble_eq_true rfl, Nat.le_of_ble_eq_true rfl⟩ rfl rfl ?_
        show G X 0 0 71 [(10, 0), (4, a_entry), (5, s 9 a_entry), (5, s3 9 r2), (4, r2)] [] (s6, m)
        refine g_aload_nq h 71 dX7_look_71 rfl rfl ?_
        refine g_aloadq h 72 dX7_look_72 rfl rfl ?_
        refine gf_Entry_block h 74 dX7_look_74 kw_191 (by omega) ?_
        refine g_iconst h 77 dX7_look_77 ?_
        obtain ⟨r4, s7, c4, hF⟩ := cb_some hF
        refine g_callV h hE 78 dX7_look_78 (ctX7_setJoined hl c4) mwX7_setJoined kw_573 (by decide) (by decide) rfl (Nat.le_of_ble_eq_true rfl) rfl (Nat.le_of_ble_eq_true rfl) ⟨Nat.le_of_ble_eq_true rfl, Nat.le_of_ble_eq_true rfl⟩ rfl rfl ?_
        show G X 0 0 81 [(10, 0), (4, a_entry), (5, s 9 a_entry), (5, s3 9 r2), (4, r2)] [] (s7, m)
        refine G_weak (L' := [(10, 0), (4, a_entry), (5, s 9 a_entry), (5, s3 9 r2), (1, 0)]) ⟨Or.inr rfl, Or.inr rfl, Or.inr rfl, Or.inr rfl, Or.inl rfl, trivial⟩ ?_
        exact J3 _ _ (by omega) hF
      refine g_aloadq h 35 dX7_look_35 rfl rfl ?_
      refine g_ifnull h 37 48 dX7_look_37 (by decide) (fun h7 => ?_) (fun h7 => ?_)
      · exact J6 (Or.inl h7)
      · refine g_aloadq h 40 dX7_look_40 rfl rfl ?_
        refine gf_Entry_page h 42 dX7_look_42 kw_213 (by omega) ?_
        refine g_ifnonnull h 45 55 dX7_look_45 (by decide) (fun h8 => ?_) (fun h8 => ?_)
        · exact J7 (fun q => q.elim (Int.not_lt.mpr h7) (Int.not_lt.mpr h8))
        · exact J6 (Or.inr h8)
    have J5 : ¬ (r1 < 0) → G X 0 0 81 [(10, 0), (4, a_entry), (5, s 9 a_entry), (5, r1), (1, 0)] [] (s1, m) := by
      intro h11
      have hF := ite_f h11 hF
      exact J3 _ _ (by omega) hF
    refine g_aload_nq h 24 dX7_look_24 rfl rfl ?_
    refine g_ifnonnull h 25 81 dX7_look_25 (by decide) (fun h5 => ?_) (fun h5 => ?_)
    · exact J5 (Int.not_lt.mpr h5)
    · exact J4 h5
  refine g_aload_nq h 5 dX7_look_5 rfl rfl ?_
  refine g_ifnull h 6 16 dX7_look_6 (by decide) (fun h1 => ?_) (fun h1 => ?_)
  · exact J1 (Or.inl h1)
  · refine g_aload_nq h 9 dX7_look_9 rfl rfl ?_
    refine g_callV h hE 10 dX7_look_10 (cpX2_isMergeable (a_this := s 9 a_entry) hl (by omega)) mwX2_isMergeable kw_894 (by decide) (show _ ∧ _ < (24 : Int) by omega) rfl (Nat.le_of_ble_eq_true rfl) rfl (Nat.le_of_ble_eq_true rfl) ⟨Nat.le_of_ble_eq_true rfl, Nat.le_of_ble_eq_true rfl⟩ rfl rfl ?_
    show G X 0 0 13 [(10, 0), (4, a_entry), (5, s 9 a_entry), (1, 0), (1, 0)] [(0, (if (s 15 (s 9 a_entry) = 1) ∧ (¬ (s 22 (s 9 a_entry) ≠ 0)) then 1 else 0 : Int))] (s, m)
    refine g_if_ne h 13 18 (gRi gR_ite) dX7_look_13 (by decide) (fun h2 => ?_) (fun h2 => ?_)
    · exact J2 (fun q => q.elim (Int.not_lt.mpr h1) (fun q => q (iz_t h2)))
    · exact J1 (Or.inr (iz_f h2))
-- Pagewright.frameFor
def FX7_frameFor (a_group a_needing : Int) (s : S2) : Option (Int × S2) :=
  rgd (-5) 23 <| gd (0 ≤ a_group ∧ a_group ≤ 2) <| gd ((-1) ≤ a_needing ∧ a_needing ≤ 5) <| bn (fun (x_turn1 : Int) (s1 : S2) => gl1 1000 (fun k6 (x_turn3 : Int) (s11 : S2) => if x_turn3 < 100000 then cb (FX7_lowestWithoutPage 0 s11) fun r5 s12 => if r5 ≠ (-1) then some (r5, s12) else bn (fun (s13 : S2) => k6 (x_turn3 + 1) s13) fun k7 => cb (FX7_lowestWithoutPage 1 s12) fun r6 s14 => if r6 ≠ (-1) then cb (FX7_handleAll s14) fun r10 s20 => k7 s20 else bn (fun (s15 : S2) => k7 s15) fun k8 => cb (FX7_evictOne (-1) s14) fun r7 s16 => if r7 ≠ 0 then k8 s16 else cb (FX7_victim (-1) s16) fun r8 s17 => if r8 < 0 then some ((-5), s17) else cb (FX7_bury r8 s17) fun r9 s18 => bn (upd2 s18 48 7 ((s18 48 7) + 1)) fun s19 => if r8 = a_needing then some ((-4), s19) else k8 s19 else some ((-5), s11)) 0 s1) fun k1 => gl1 1000 (fun k2 (x_turn2 : Int) (s2 : S2) => bn (fun (s3 : S2) => bn (fun (s6 : S2) => gd (0 ≤ x_turn2 + 1 ∧ x_turn2 + 1 ≤ 100000) <| k2 (x_turn2 + 1) s6) fun k5 => cb (FX7_evictOne a_group s3) fun r2 s7 => if r2 ≠ 0 then k5 s7 else cb (FX7_victim a_group s7) fun r3 s8 => if r3 < 0 then k1 x_turn2 s8 else cb (FX7_bury r3 s8) fun r4 s9 => bn (upd2 s9 48 7 ((s9 48 7) + 1)) fun s10 => if r3 = a_needing then some ((-4), s10) else k5 s10) fun k3 => bn (fun (s4 : S2) => k1 x_turn2 s4) fun k4 => if x_turn2 < 100000 then cb (FX7_isAtLimit a_group s2) fun r1 s5 => if r1 ≠ 0 then k3 s5 else k4 s5 else k4 s2) 0 s
theorem rgX7_frameFor {a_group a_needing : Int} {s s0 : S2} {r0 : Int} (hF : FX7_frameFor a_group a_needing s = some (r0, s0)) : (-5) ≤ r0 ∧ r0 ≤ 23 := (rgd_some hF).2
set_option maxRecDepth 100000 in
set_option maxHeartbeats 4000000 in
theorem ctX7_frameFor {l : Launch} {w : gW} {bs : Nat} (hl : l.stackTraces = false) {a_group a_needing : Int} {s m s0 : S2} {r0 : Int} (hF : FX7_frameFor a_group a_needing s = some (r0, s0)) : gMet l w bs yX7_frameFor cX7_frameFor 6 (some FieldType.int) 4 0 [(10, 0), (0, a_group), (8, a_needing)] (s, m) 0 (some (0, r0)) (s0, m) := by
  unfold FX7_frameFor at hF
  obtain ⟨hF, hr⟩ := rgd_some hF
  obtain ⟨q_a_group, hF⟩ := gd_some hF
  obtain ⟨q_a_needing, hF⟩ := gd_some hF
  refine g_start hl (by decide) (Nat.le_of_ble_eq_true rfl) rfl fun X h hE => ?_
  have h : gOk X "Pagewright" cX7_frameFor 6 4 0 0 := h
  have hE : gEnd X l w bs 0 (some FieldType.int) 0 (some (0, r0)) (s0, m) := hE
  show G X 0 0 0 [(10, 0), (0, a_group), (8, a_needing), (1, 0), (1, 0), (1, 0)] [] (s, m)
  refine g_iconst h 0 dX7_frameFor_0 ?_
  refine g_istore_n h 1 dX7_frameFor_1 (Nat.le_of_ble_eq_true rfl) rfl (L' := [(10, 0), (0, a_group), (8, a_needing), (0, 0), (1, 0), (1, 0)]) rfl ?_
  obtain ⟨k1, ek1, hF⟩ := bn_ex hF
  have J1 : ∀ (x_turn1 : Int) (s1 : S2), ((-2147483648) ≤ x_turn1 ∧ x_turn1 ≤ 2147483647) → k1 x_turn1 s1 = some (r0, s0) → G X 0 0 71 [(10, 0), (0, a_group), (8, a_needing), (0, x_turn1), (1, 0), (1, 0)] [] (s1, m) := by
    intro x_turn1 s1 q3 hF
    rw [ek1] at hF
    refine g_iconst h 71 dX7_frameFor_71 ?_
    refine g_istore_n h 72 dX7_frameFor_72 (Nat.le_of_ble_eq_true rfl) rfl (L' := [(10, 0), (0, a_group), (8, a_needing), (0, 0), (1, 0), (1, 0)]) rfl ?_
    obtain ⟨f2, ef2, hF⟩ := glx1 hF
    have J24 : ∀ (n2 : Nat) (x_turn3 : Int) (s11 : S2), (0 ≤ x_turn3 ∧ x_turn3 ≤ 100000) → gl1 n2 f2 x_turn3 s11 = some (r0, s0) → G X 0 0 73 [(10, 0), (0, a_group), (8, a_needing), (0, x_turn3), (1, 0), (1, 0)] [] (s11, m) := by
      intro n2
      induction n2 with
      | zero => intro x_turn3 s11 _ hF; exact (gl1_0 hF).elim
      | succ n2 ih2 =>
        intro x_turn3 s11 q4 hF
        obtain ⟨k6, ek6, hF⟩ := glu1 hF ef2
        have J14 : x_turn3 < 100000 → G X 0 0 79 [(10, 0), (0, a_group), (8, a_needing), (0, x_turn3), (1, 0), (1, 0)] [] (s11, m) := by
          intro h13
          have hF := ite_t h13 hF
          refine g_aload_nq h 79 dX7_frameFor_79 rfl rfl ?_
          refine g_iconst h 80 dX7_frameFor_80 ?_
          obtain ⟨r5, s12, c5, hF⟩ := cb_some hF
          have t4 : (-1) ≤ r5 ∧ r5 ≤ 23 := rgX7_lowestWithoutPage c5
          refine g_callV h hE 81 dX7_frameFor_81 (ctX7_lowestWithoutPage hl c5) mwX7_lowestWithoutPage kw_774 (by decide) (by decide) rfl (Nat.le_of_ble_eq_true rfl) rfl (Nat.le_of_ble_eq_true rfl) ⟨Nat.le_of_ble_eq_true rfl, Nat.le_of_ble_eq_true rfl⟩ rfl rfl ?_
          show G X 0 0 84 [(10, 0), (0, a_group), (8, a_needing), (0, x_turn3), (1, 0), (1, 0)] [(0, r5)] (s12, m)
          refine g_istore h 84 dX7_frameFor_84 (Nat.le_of_ble_eq_true rfl) rfl (L' := [(10, 0), (0, a_group), (8, a_needing), (0, x_turn3), (0, r5), (1, 0)]) rfl ?_
          have J16 : r5 ≠ (-1) → G X 0 0 92 [(10, 0), (0, a_group), (8, a_needing), (0, x_turn3), (0, r5), (1, 0)] [] (s12, m) := by
            intro h15
            have hF := ite_t h15 hF
            refine g_iload h 92 dX7_frameFor_92 rfl ?_
            obtain ⟨e1, e2⟩ := some_2 hF
            rw [← e1, ← e2] at hE
            exact g_iret h 94 dX7_frameFor_94 hE rfl rfl ⟨(Nat.le_of_ble_eq_true rfl), (Nat.le_of_ble_eq_true rfl)⟩
          have J17 : ¬ (r5 ≠ (-1)) → G X 0 0 95 [(10, 0), (0, a_group), (8, a_needing), (0, x_turn3), (0, r5), (1, 0)] [] (s12, m) := by
            intro h16
            have hF := ite_f h16 hF
            obtain ⟨k7, ek7, hF⟩ := bn_ex hF
            have J18 : ∀ (s13 : S2), k7 s13 = some (r0, s0) → G X 0 0 160 [(10, 0), (0, a_group), (8, a_needing), (0, x_turn3), (0, r5), (1, 0)] [] (s13, m) := by
              intro s13 hF
              rw [ek7] at hF
              refine g_iinc h 160 dX7_frameFor_160 rfl rfl (L' := [(10, 0), (0, a_group), (8, a_needing), (0, x_turn3 + 1), (0, r5), (1, 0)]) rfl ?_
              refine g_goto h 163 73 dX7_frameFor_163 (by decide) ?_
              refine G_weak (L' := [(10, 0), (0, a_group), (8, a_needing), (0, x_turn3 + 1), (1, 0), (1, 0)]) ⟨Or.inr rfl, Or.inr rfl, Or.inr rfl, Or.inr rfl, Or.inl rfl, Or.inr rfl, trivial⟩ ?_
              rw [ek6] at hF
              exact ih2 _ _ (by omega) hF
            refine g_aload_nq h 95 dX7_frameFor_95 rfl rfl ?_
            refine g_iconst h 96 dX7_frameFor_96 ?_
            obtain ⟨r6, s14, c6, hF⟩ := cb_some hF
            have t5 : (-1) ≤ r6 ∧ r6 ≤ 23 := rgX7_lowestWithoutPage c6
            refine g_callV h hE 97 dX7_frameFor_97 (ctX7_lowestWithoutPage hl c6) mwX7_lowestWithoutPage kw_774 (by decide) (by decide) rfl (Nat.le_of_ble_eq_true rfl) rfl (Nat.le_of_ble_eq_true rfl) ⟨Nat.le_of_ble_eq_true rfl, Nat.le_of_ble_eq_true rfl⟩ rfl rfl ?_
            show G X 0 0 100 [(10, 0), (0, a_group), (8, a_needing), (0, x_turn3), (0, r5), (1, 0)] [(0, r6)] (s14, m)
            refine g_iconst h 100 dX7_frameFor_100 ?_
            refine g_icmp_eq h 101 111 (gRi (by omega)) (gRi (by omega)) dX7_frameFor_101 (by decide) (fun h17 => ?_) (fun h17 => ?_)
            · have hF := ite_f (fun q => q h17) hF
              obtain ⟨k8, ek8, hF⟩ := bn_ex hF
              have J19 : ∀ (s15 : S2), k8 s15 = some (r0, s0) → G X 0 0 160 [(10, 0), (0, a_group), (8, a_needing), (0, x_turn3), (0, r5), (1, 0)] [] (s15, m) := by
                intro s15 hF
                rw [ek8] at hF
                exact J18 _ hF
              refine g_aload_nq h 111 dX7_frameFor_111 rfl rfl ?_
              refine g_iconst h 112 dX7_frameFor_112 ?_
              obtain ⟨r7, s16, c7, hF⟩ := cb_some hF
              have t6 : 0 ≤ r7 ∧ r7 ≤ 1 := rgX7_evictOne c7
              refine g_callV h hE 113 dX7_frameFor_113 (ctX7_evictOne hl c7) mwX7_evictOne kw_717 (by decide) (by decide) rfl (Nat.le_of_ble_eq_true rfl) rfl (Nat.le_of_ble_eq_true rfl) ⟨Nat.le_of_ble_eq_true rfl, Nat.le_of_ble_eq_true rfl⟩ rfl rfl ?_
              show G X 0 0 116 [(10, 0), (0, a_group), (8, a_needing), (0, x_turn3), (0, r5), (1, 0)] [(0, r7)] (s16, m)
              refine g_if_ne h 116 160 (gRi (by omega)) dX7_frameFor_116 (by decide) (fun h18 => ?_) (fun h18 => ?_)
              · have hF := ite_t h18 hF
                exact J19 _ hF
              · have hF := ite_f (fun q => q h18) hF
                refine g_aload_nq h 119 dX7_frameFor_119 rfl rfl ?_
                refine g_iconst h 120 dX7_frameFor_120 ?_
                obtain ⟨r8, s17, c8, hF⟩ := cb_some hF
                have t7 : (-1) ≤ r8 ∧ r8 ≤ 5 := rgX7_victim c8
                refine g_callV h hE 121 dX7_frameFor_121 (ctX7_victim hl c8) mwX7_victim kw_765 (by decide) (by decide) rfl (Nat.le_of_ble_eq_true rfl) rfl (Nat.le_of_ble_eq_true rfl) ⟨Nat.le_of_ble_eq_true rfl, Nat.le_of_ble_eq_true rfl⟩ rfl rfl ?_
                show G X 0 0 124 [(10, 0), (0, a_group), (8, a_needing), (0, x_turn3), (0, r5), (1, 0)] [(8, r8)] (s17, m)
                refine g_astore h 124 dX7_frameFor_124 (Nat.le_of_ble_eq_true rfl) rfl (L' := [(10, 0), (0, a_group), (8, a_needing), (0, x_turn3), (0, r5), (8, r8)]) rfl ?_
                have J20 : r8 < 0 → G X 0 0 131 [(10, 0), (0, a_group), (8, a_needing), (0, x_turn3), (0, r5), (8, r8)] [] (s17, m) := by
                  intro h20
                  have hF := ite_t h20 hF
                  refine g_bipush h 131 dX7_frameFor_131 (by decide) ?_
                  obtain ⟨e1, e2⟩ := some_2 hF
                  rw [← e1, ← e2] at hE
                  exact g_iret h 133 dX7_frameFor_133 hE rfl rfl ⟨(Nat.le_of_ble_eq_true rfl), (Nat.le_of_ble_eq_true rfl)⟩
                have J21 : ¬ (r8 < 0) → G X 0 0 134 [(10, 0), (0, a_group), (8, a_needing), (0, x_turn3), (0, r5), (8, r8)] [] (s17, m) := by
                  intro h21
                  have hF := ite_f h21 hF
                  refine g_aload_nq h 134 dX7_frameFor_134 rfl rfl ?_
                  refine g_aloadq h 135 dX7_frameFor_135 rfl rfl ?_
                  obtain ⟨r9, s18, c9, hF⟩ := cb_some hF
                  refine g_callV h hE 137 dX7_frameFor_137 (ctX7_bury hl c9) mwX7_bury kw_637 (by decide) (by decide) rfl (Nat.le_of_ble_eq_true rfl) rfl (Nat.le_of_ble_eq_true rfl) ⟨Nat.le_of_ble_eq_true rfl, Nat.le_of_ble_eq_true rfl⟩ rfl rfl ?_
                  show G X 0 0 140 [(10, 0), (0, a_group), (8, a_needing), (0, x_turn3), (0, r5), (8, r8)] [] (s18, m)
                  refine g_aload_nq h 140 dX7_frameFor_140 rfl rfl ?_
                  refine gf_counts h 141 dX7_frameFor_141 kw_369 ?_
                  refine g_bipush h 144 dX7_frameFor_144 (by decide) ?_
                  refine g_dup2 h 146 dX7_frameFor_146 (show (0 : Nat) ≠ 2 by decide) (show (19 : Nat) ≠ 2 by decide) ?_
                  refine al_counts h 147 dX7_frameFor_147 (by omega) ?_
                  refine g_iconst h 148 dX7_frameFor_148 ?_
                  refine g_iadd h 149 dX7_frameFor_149 ?_
                  obtain ⟨s19, es19, hF⟩ := bn_ex hF
                  refine as_counts h 150 dX7_frameFor_150 (by omega) ?_
                  rw [← es19]
                  have J22 : r8 = a_needing → G X 0 0 157 [(10, 0), (0, a_group), (8, a_needing), (0, x_turn3), (0, r5), (8, r8)] [] (s19, m) := by
                    intro h23
                    have hF := ite_t h23 hF
                    refine g_bipush h 157 dX7_frameFor_157 (by decide) ?_
                    obtain ⟨e1, e2⟩ := some_2 hF
                    rw [← e1, ← e2] at hE
                    exact g_iret h 159 dX7_frameFor_159 hE rfl rfl ⟨(Nat.le_of_ble_eq_true rfl), (Nat.le_of_ble_eq_true rfl)⟩
                  have J23 : ¬ (r8 = a_needing) → G X 0 0 160 [(10, 0), (0, a_group), (8, a_needing), (0, x_turn3), (0, r5), (8, r8)] [] (s19, m) := by
                    intro h24
                    have hF := ite_f h24 hF
                    refine G_weak (L' := [(10, 0), (0, a_group), (8, a_needing), (0, x_turn3), (0, r5), (1, 0)]) ⟨Or.inr rfl, Or.inr rfl, Or.inr rfl, Or.inr rfl, Or.inr rfl, Or.inl rfl, trivial⟩ ?_
                    exact J19 _ hF
                  refine g_aloadq h 151 dX7_frameFor_151 rfl rfl ?_
                  refine g_aload_nq h 153 dX7_frameFor_153 rfl rfl ?_
                  refine g_acmp_ne h 154 160 (show -1 ≤ _ ∧ _ < (6 : Int) by omega) (show -1 ≤ _ ∧ _ < (6 : Int) by omega) (by decide) dX7_frameFor_154 (by decide) (fun h22 => ?_) (fun h22 => ?_)
                  · exact J23 h22
                  · exact J22 h22
                refine g_aloadq h 126 dX7_frameFor_126 rfl rfl ?_
                refine g_ifnonnull h 128 134 dX7_frameFor_128 (by decide) (fun h19 => ?_) (fun h19 => ?_)
                · exact J21 (Int.not_lt.mpr h19)
                · exact J20 h19
            · have hF := ite_t h17 hF
              refine g_aload_nq h 104 dX7_frameFor_104 rfl rfl ?_
              obtain ⟨r10, s20, c10, hF⟩ := cb_some hF
              refine g_callV h hE 105 dX7_frameFor_105 (ctX7_handleAll hl c10) mwX7_handleAll kw_786 (by decide) (by decide) rfl (Nat.le_of_ble_eq_true rfl) rfl (Nat.le_of_ble_eq_true rfl) ⟨Nat.le_of_ble_eq_true rfl, Nat.le_of_ble_eq_true rfl⟩ rfl rfl ?_
              show G X 0 0 108 [(10, 0), (0, a_group), (8, a_needing), (0, x_turn3), (0, r5), (1, 0)] [] (s20, m)
              refine g_goto h 108 160 dX7_frameFor_108 (by decide) ?_
              exact J18 _ hF
          refine g_iload h 86 dX7_frameFor_86 rfl ?_
          refine g_iconst h 88 dX7_frameFor_88 ?_
          refine g_icmp_eq h 89 95 (gRi (by omega)) (gRi (by omega)) dX7_frameFor_89 (by decide) (fun h14 => ?_) (fun h14 => ?_)
          · exact J17 (fun q => q h14)
          · exact J16 h14
        have J15 : ¬ (x_turn3 < 100000) → G X 0 0 166 [(10, 0), (0, a_group), (8, a_needing), (0, x_turn3), (1, 0), (1, 0)] [] (s11, m) := by
          intro h25
          have hF := ite_f h25 hF
          refine g_bipush h 166 dX7_frameFor_166 (by decide) ?_
          obtain ⟨e1, e2⟩ := some_2 hF
          rw [← e1, ← e2] at hE
          exact g_iret h 168 dX7_frameFor_168 hE rfl rfl ⟨(Nat.le_of_ble_eq_true rfl), (Nat.le_of_ble_eq_true rfl)⟩
        refine g_iload_n h 73 dX7_frameFor_73 rfl ?_
        refine g_ldc h 74 (n := 100000) dX7_frameFor_74 kw_712 (by decide) ?_
        refine g_icmp_ge h 76 166 (gRi (by omega)) (gRi (by omega)) dX7_frameFor_76 (by decide) (fun h12 => ?_) (fun h12 => ?_)
        · exact J15 (Int.not_lt.mpr h12)
        · exact J14 h12
    exact J24 _ _ _ (by omega) hF
  obtain ⟨f1, ef1, hF⟩ := glx1 hF
  have J12 : ∀ (n1 : Nat) (x_turn2 : Int) (s2 : S2), (0 ≤ x_turn2 ∧ x_turn2 ≤ 100000) → gl1 n1 f1 x_turn2 s2 = some (r0, s0) → G X 0 0 2 [(10, 0), (0, a_group), (8, a_needing), (0, x_turn2), (1, 0), (1, 0)] [] (s2, m) := by
    intro n1
    induction n1 with
    | zero => intro x_turn2 s2 _ hF; exact (gl1_0 hF).elim
    | succ n1 ih1 =>
      intro x_turn2 s2 q1 hF
      obtain ⟨k2, ek2, hF⟩ := glu1 hF ef1
      obtain ⟨k3, ek3, hF⟩ := bn_ex hF
      have J3 : ∀ (s3 : S2), k3 s3 = some (r0, s0) → G X 0 0 16 [(10, 0), (0, a_group), (8, a_needing), (0, x_turn2), (1, 0), (1, 0)] [] (s3, m) := by
        intro s3 hF
        rw [ek3] at hF
        obtain ⟨k5, ek5, hF⟩ := bn_ex hF
        have J7 : ∀ (s6 : S2), k5 s6 = some (r0, s0) → G X 0 0 65 [(10, 0), (0, a_group), (8, a_needing), (0, x_turn2), (1, 0), (1, 0)] [] (s6, m) := by
          intro s6 hF
          rw [ek5] at hF
          refine g_iinc h 65 dX7_frameFor_65 rfl rfl (L' := [(10, 0), (0, a_group), (8, a_needing), (0, x_turn2 + 1), (1, 0), (1, 0)]) rfl ?_
          refine g_goto h 68 2 dX7_frameFor_68 (by decide) ?_
          obtain ⟨q2, hF⟩ := gd_some hF
          rw [ek2] at hF
          exact ih1 _ _ (by omega) hF
        refine g_aload_nq h 16 dX7_frameFor_16 rfl rfl ?_
        refine g_iload_n h 17 dX7_frameFor_17 rfl ?_
        obtain ⟨r2, s7, c2, hF⟩ := cb_some hF
        have t2 : 0 ≤ r2 ∧ r2 ≤ 1 := rgX7_evictOne c2
        refine g_callV h hE 18 dX7_frameFor_18 (ctX7_evictOne hl c2) mwX7_evictOne kw_717 (by decide) (by decide) rfl (Nat.le_of_ble_eq_true rfl) rfl (Nat.le_of_ble_eq_true rfl) ⟨Nat.le_of_ble_eq_true rfl, Nat.le_of_ble_eq_true rfl⟩ rfl rfl ?_
        show G X 0 0 21 [(10, 0), (0, a_group), (8, a_needing), (0, x_turn2), (1, 0), (1, 0)] [(0, r2)] (s7, m)
        refine g_if_ne h 21 65 (gRi (by omega)) dX7_frameFor_21 (by decide) (fun h5 => ?_) (fun h5 => ?_)
        · have hF := ite_t h5 hF
          exact J7 _ hF
        · have hF := ite_f (fun q => q h5) hF
          refine g_aload_nq h 24 dX7_frameFor_24 rfl rfl ?_
          refine g_iload_n h 25 dX7_frameFor_25 rfl ?_
          obtain ⟨r3, s8, c3, hF⟩ := cb_some hF
          have t3 : (-1) ≤ r3 ∧ r3 ≤ 5 := rgX7_victim c3
          refine g_callV h hE 26 dX7_frameFor_26 (ctX7_victim hl c3) mwX7_victim kw_765 (by decide) (by decide) rfl (Nat.le_of_ble_eq_true rfl) rfl (Nat.le_of_ble_eq_true rfl) ⟨Nat.le_of_ble_eq_true rfl, Nat.le_of_ble_eq_true rfl⟩ rfl rfl ?_
          show G X 0 0 29 [(10, 0), (0, a_group), (8, a_needing), (0, x_turn2), (1, 0), (1, 0)] [(8, r3)] (s8, m)
          refine g_astore h 29 dX7_frameFor_29 (Nat.le_of_ble_eq_true rfl) rfl (L' := [(10, 0), (0, a_group), (8, a_needing), (0, x_turn2), (8, r3), (1, 0)]) rfl ?_
          have J8 : r3 < 0 → G X 0 0 71 [(10, 0), (0, a_group), (8, a_needing), (0, x_turn2), (8, r3), (1, 0)] [] (s8, m) := by
            intro h7
            have hF := ite_t h7 hF
            refine G_weak (L' := [(10, 0), (0, a_group), (8, a_needing), (0, x_turn2), (1, 0), (1, 0)]) ⟨Or.inr rfl, Or.inr rfl, Or.inr rfl, Or.inr rfl, Or.inl rfl, Or.inr rfl, trivial⟩ ?_
            exact J1 _ _ (by omega) hF
          have J9 : ¬ (r3 < 0) → G X 0 0 39 [(10, 0), (0, a_group), (8, a_needing), (0, x_turn2), (8, r3), (1, 0)] [] (s8, m) := by
            intro h8
            have hF := ite_f h8 hF
            refine g_aload_nq h 39 dX7_frameFor_39 rfl rfl ?_
            refine g_aloadq h 40 dX7_frameFor_40 rfl rfl ?_
            obtain ⟨r4, s9, c4, hF⟩ := cb_some hF
            refine g_callV h hE 42 dX7_frameFor_42 (ctX7_bury hl c4) mwX7_bury kw_637 (by decide) (by decide) rfl (Nat.le_of_ble_eq_true rfl) rfl (Nat.le_of_ble_eq_true rfl) ⟨Nat.le_of_ble_eq_true rfl, Nat.le_of_ble_eq_true rfl⟩ rfl rfl ?_
            show G X 0 0 45 [(10, 0), (0, a_group), (8, a_needing), (0, x_turn2), (8, r3), (1, 0)] [] (s9, m)
            refine g_aload_nq h 45 dX7_frameFor_45 rfl rfl ?_
            refine gf_counts h 46 dX7_frameFor_46 kw_369 ?_
            refine g_bipush h 49 dX7_frameFor_49 (by decide) ?_
            refine g_dup2 h 51 dX7_frameFor_51 (show (0 : Nat) ≠ 2 by decide) (show (19 : Nat) ≠ 2 by decide) ?_
            refine al_counts h 52 dX7_frameFor_52 (by omega) ?_
            refine g_iconst h 53 dX7_frameFor_53 ?_
            refine g_iadd h 54 dX7_frameFor_54 ?_
            obtain ⟨s10, es10, hF⟩ := bn_ex hF
            refine as_counts h 55 dX7_frameFor_55 (by omega) ?_
            rw [← es10]
            have J10 : r3 = a_needing → G X 0 0 62 [(10, 0), (0, a_group), (8, a_needing), (0, x_turn2), (8, r3), (1, 0)] [] (s10, m) := by
              intro h10
              have hF := ite_t h10 hF
              refine g_bipush h 62 dX7_frameFor_62 (by decide) ?_
              obtain ⟨e1, e2⟩ := some_2 hF
              rw [← e1, ← e2] at hE
              exact g_iret h 64 dX7_frameFor_64 hE rfl rfl ⟨(Nat.le_of_ble_eq_true rfl), (Nat.le_of_ble_eq_true rfl)⟩
            have J11 : ¬ (r3 = a_needing) → G X 0 0 65 [(10, 0), (0, a_group), (8, a_needing), (0, x_turn2), (8, r3), (1, 0)] [] (s10, m) := by
              intro h11
              have hF := ite_f h11 hF
              refine G_weak (L' := [(10, 0), (0, a_group), (8, a_needing), (0, x_turn2), (1, 0), (1, 0)]) ⟨Or.inr rfl, Or.inr rfl, Or.inr rfl, Or.inr rfl, Or.inl rfl, Or.inr rfl, trivial⟩ ?_
              exact J7 _ hF
            refine g_aloadq h 56 dX7_frameFor_56 rfl rfl ?_
            refine g_aload_nq h 58 dX7_frameFor_58 rfl rfl ?_
            refine g_acmp_ne h 59 65 (show -1 ≤ _ ∧ _ < (6 : Int) by omega) (show -1 ≤ _ ∧ _ < (6 : Int) by omega) (by decide) dX7_frameFor_59 (by decide) (fun h9 => ?_) (fun h9 => ?_)
            · exact J11 h9
            · exact J10 h9
          refine g_aloadq h 31 dX7_frameFor_31 rfl rfl ?_
          refine g_ifnonnull h 33 39 dX7_frameFor_33 (by decide) (fun h6 => ?_) (fun h6 => ?_)
          · exact J9 (Int.not_lt.mpr h6)
          · refine g_goto h 36 71 dX7_frameFor_36 (by decide) ?_
            exact J8 h6
      obtain ⟨k4, ek4, hF⟩ := bn_ex hF
      have J4 : ∀ (s4 : S2), k4 s4 = some (r0, s0) → G X 0 0 71 [(10, 0), (0, a_group), (8, a_needing), (0, x_turn2), (1, 0), (1, 0)] [] (s4, m) := by
        intro s4 hF
        rw [ek4] at hF
        exact J1 _ _ (by omega) hF
      have J5 : x_turn2 < 100000 → G X 0 0 8 [(10, 0), (0, a_group), (8, a_needing), (0, x_turn2), (1, 0), (1, 0)] [] (s2, m) := by
        intro h2
        have hF := ite_t h2 hF
        refine g_aload_nq h 8 dX7_frameFor_8 rfl rfl ?_
        refine g_iload_n h 9 dX7_frameFor_9 rfl ?_
        obtain ⟨r1, s5, c1, hF⟩ := cb_some hF
        have t1 : 0 ≤ r1 ∧ r1 ≤ 1 := rgX7_isAtLimit c1
        refine g_callV h hE 10 dX7_frameFor_10 (ctX7_isAtLimit hl c1) mwX7_isAtLimit kw_713 (by decide) (by decide) rfl (Nat.le_of_ble_eq_true rfl) rfl (Nat.le_of_ble_eq_true rfl) ⟨Nat.le_of_ble_eq_true rfl, Nat.le_of_ble_eq_true rfl⟩ rfl rfl ?_
        show G X 0 0 13 [(10, 0), (0, a_group), (8, a_needing), (0, x_turn2), (1, 0), (1, 0)] [(0, r1)] (s5, m)
        refine g_if_eq h 13 71 (gRi (by omega)) dX7_frameFor_13 (by decide) (fun h3 => ?_) (fun h3 => ?_)
        · have hF := ite_f (fun q => q h3) hF
          exact J4 _ hF
        · have hF := ite_t h3 hF
          exact J3 _ hF
      have J6 : ¬ (x_turn2 < 100000) → G X 0 0 71 [(10, 0), (0, a_group), (8, a_needing), (0, x_turn2), (1, 0), (1, 0)] [] (s2, m) := by
        intro h4
        have hF := ite_f h4 hF
        exact J4 _ hF
      refine g_iload_n h 2 dX7_frameFor_2 rfl ?_
      refine g_ldc h 3 (n := 100000) dX7_frameFor_3 kw_712 (by decide) ?_
      refine g_icmp_ge h 5 71 (gRi (by omega)) (gRi (by omega)) dX7_frameFor_5 (by decide) (fun h1 => ?_) (fun h1 => ?_)
      · exact J6 (Int.not_lt.mpr h1)
      · exact J5 h1
  exact J12 _ _ _ (by omega) hF
-- Pagewright.cachedFrame
def FX7_cachedFrame (a_file a_index a_needing : Int) (s : S2) : Option (Int × S2) :=
  rgd (-5) 23 <| gd (0 ≤ a_file ∧ a_file ≤ 2) <| gd (0 ≤ a_index ∧ a_index ≤ 7) <| gd ((-1) ≤ a_needing ∧ a_needing ≤ 5) <| gl1 1000 (fun k1 (x_i_page1 : Int) (s1 : S2) => if x_i_page1 < 24 then if ((s1 15 x_i_page1 = 2) ∧ (s1 24 x_i_page1 = a_file)) ∧ (s1 25 x_i_page1 = a_index) then some (x_i_page1, s1) else k1 (x_i_page1 + 1) s1 else cb (FX7_frameFor (if a_needing < 0 then 0 else s1 33 a_needing : Int) a_needing s1) fun r1 s2 => cb (FX7_pageIn r1 s2) fun r2 s3 => gd ((¬ (r2 < 0)) → (-2147483648) ≤ (a_file * 8) + a_index ∧ (a_file * 8) + a_index ≤ 2147483647) <| gd ((¬ ((r2 < 0) ∨ ((a_file * 8) + a_index < 0))) → (-2147483648) ≤ (a_file * 8) + a_index ∧ (a_file * 8) + a_index ≤ 2147483647) <| if ((r2 < 0) ∨ ((a_file * 8) + a_index < 0)) ∨ (24 ≤ (a_file * 8) + a_index) then some (r1, s3) else bn (fun (v2 : Int) (s4 : S2) => bn (upd2 s4 48 3 ((s4 48 3) + (if v2 ≠ 0 then 1 else 0 : Int))) fun s8 => bn (upd2 s8 48 4 ((s8 48 4) + 1)) fun s9 => cb (FX2_begin r2 2 (s9 44 ((a_file * 8) + a_index)) (if a_needing < 0 then 0 else s1 33 a_needing : Int) s9) fun r4 s10 => bn (upd2 s10 24 r2 a_file) fun s11 => bn (upd2 s11 25 r2 a_index) fun s12 => cb (FX7_bringToEnd r2 (if v2 ≠ 0 then 1 else 0 : Int) s12) fun r5 s13 => some (r1, s13)) fun k2 => bn (fun (s5 : S2) => k2 1 s5) fun k3 => bn (fun (s6 : S2) => k2 0 s6) fun k4 => gd ((-2147483648) ≤ s3 45 ((a_file * 8) + a_index) ∧ s3 45 ((a_file * 8) + a_index) ≤ 2147483647) <| if s3 45 ((a_file * 8) + a_index) ≠ (-1) then cb (FX7_members 1 (-1) s3) fun r3 s7 => gd ((-2147483648) ≤ (s3 48 2) - (s3 45 ((a_file * 8) + a_index)) ∧ (s3 48 2) - (s3 45 ((a_file * 8) + a_index)) ≤ 2147483647) <| if (s3 48 2) - (s3 45 ((a_file * 8) + a_index)) ≤ r3 then k3 s7 else k4 s7 else k4 s3) 0 s
theorem rgX7_cachedFrame {a_file a_index a_needing : Int} {s s0 : S2} {r0 : Int} (hF : FX7_cachedFrame a_file a_index a_needing s = some (r0, s0)) : (-5) ≤ r0 ∧ r0 ≤ 23 := (rgd_some hF).2
set_option maxRecDepth 100000 in
set_option maxHeartbeats 4000000 in
theorem ctX7_cachedFrame {l : Launch} {w : gW} {bs : Nat} (hl : l.stackTraces = false) {a_file a_index a_needing : Int} {s m s0 : S2} {r0 : Int} (hF : FX7_cachedFrame a_file a_index a_needing s = some (r0, s0)) : gMet l w bs yX7_cachedFrame cX7_cachedFrame 9 (some FieldType.int) 5 0 [(10, 0), (0, a_file), (0, a_index), (8, a_needing)] (s, m) 0 (some (0, r0)) (s0, m) := by
  unfold FX7_cachedFrame at hF
  obtain ⟨hF, hr⟩ := rgd_some hF
  obtain ⟨q_a_file, hF⟩ := gd_some hF
  obtain ⟨q_a_index, hF⟩ := gd_some hF
  obtain ⟨q_a_needing, hF⟩ := gd_some hF
  refine g_start hl (by decide) (Nat.le_of_ble_eq_true rfl) rfl fun X h hE => ?_
  have h : gOk X "Pagewright" cX7_cachedFrame 9 5 0 0 := h
  have hE : gEnd X l w bs 0 (some FieldType.int) 0 (some (0, r0)) (s0, m) := hE
  show G X 0 0 0 [(10, 0), (0, a_file), (0, a_index), (8, a_needing), (1, 0), (1, 0), (1, 0), (1, 0), (1, 0)] [] (s, m)
  refine g_aload_nq h 0 dX7_cachedFrame_0 rfl rfl ?_
  refine gf_pages h 1 dX7_cachedFrame_1 kw_362 ?_
  refine g_astore h 4 dX7_cachedFrame_4 (Nat.le_of_ble_eq_true rfl) rfl (L' := [(10, 0), (0, a_file), (0, a_index), (8, a_needing), (13, 0), (1, 0), (1, 0), (1, 0), (1, 0)]) rfl ?_
  refine g_aloadq h 6 dX7_cachedFrame_6 rfl rfl ?_
  refine an_pages h 8 dX7_cachedFrame_8 ?_
  refine g_istore h 9 dX7_cachedFrame_9 (Nat.le_of_ble_eq_true rfl) rfl (L' := [(10, 0), (0, a_file), (0, a_index), (8, a_needing), (13, 0), (0, 24), (1, 0), (1, 0), (1, 0)]) rfl ?_
  refine g_iconst h 11 dX7_cachedFrame_11 ?_
  refine g_istore h 12 dX7_cachedFrame_12 (Nat.le_of_ble_eq_true rfl) rfl (L' := [(10, 0), (0, a_file), (0, a_index), (8, a_needing), (13, 0), (0, 24), (0, 0), (1, 0), (1, 0)]) rfl ?_
  obtain ⟨f1, ef1, hF⟩ := glx1 hF
  have J22 : ∀ (n1 : Nat) (x_i_page1 : Int) (s1 : S2), (0 ≤ x_i_page1 ∧ x_i_page1 ≤ 24) → gl1 n1 f1 x_i_page1 s1 = some (r0, s0) → G X 0 0 14 [(10, 0), (0, a_file), (0, a_index), (8, a_needing), (13, 0), (0, 24), (0, x_i_page1), (1, 0), (1, 0)] [] (s1, m) := by
    intro n1
    induction n1 with
    | zero => intro x_i_page1 s1 _ hF; exact (gl1_0 hF).elim
    | succ n1 ih1 =>
      intro x_i_page1 s1 q1 hF
      obtain ⟨k1, ek1, hF⟩ := glu1 hF ef1
      have J2 : x_i_page1 < 24 → G X 0 0 21 [(10, 0), (0, a_file), (0, a_index), (8, a_needing), (13, 0), (0, 24), (0, x_i_page1), (1, 0), (1, 0)] [] (s1, m) := by
        intro h2
        have hF := ite_t h2 hF
        refine g_aloadq h 21 dX7_cachedFrame_21 rfl rfl ?_
        refine g_iload h 23 dX7_cachedFrame_23 rfl ?_
        refine al_pages h 25 dX7_cachedFrame_25 (by omega) ?_
        refine g_astore h 26 dX7_cachedFrame_26 (Nat.le_of_ble_eq_true rfl) rfl (L' := [(10, 0), (0, a_file), (0, a_index), (8, a_needing), (13, 0), (0, 24), (0, x_i_page1), (5, x_i_page1), (1, 0)]) rfl ?_
        refine G_typ fun hT_s1 => ?_
        have t1 : 0 ≤ s1 15 x_i_page1 ∧ s1 15 x_i_page1 ≤ 2 := hT_s1.1 15 x_i_page1
        have t2 : 0 ≤ s1 24 x_i_page1 ∧ s1 24 x_i_page1 ≤ 2 := hT_s1.1 24 x_i_page1
        have t3 : 0 ≤ s1 25 x_i_page1 ∧ s1 25 x_i_page1 ≤ 7 := hT_s1.1 25 x_i_page1
        have J4 : ((s1 15 x_i_page1 = 2) ∧ (s1 24 x_i_page1 = a_file)) ∧ (s1 25 x_i_page1 = a_index) → G X 0 0 55 [(10, 0), (0, a_file), (0, a_index), (8, a_needing), (13, 0), (0, 24), (0, x_i_page1), (5, x_i_page1), (1, 0)] [] (s1, m) := by
          intro h6
          have hF := ite_t h6 hF
          refine g_aloadq h 55 dX7_cachedFrame_55 rfl rfl ?_
          refine gf_Page_frame h 57 dX7_cachedFrame_57 kw_282 (by omega) ?_
          obtain ⟨e1, e2⟩ := some_2 hF
          rw [← e1, ← e2] at hE
          exact g_iret h 60 dX7_cachedFrame_60 hE rfl rfl ⟨(Nat.le_of_ble_eq_true rfl), (Nat.le_of_ble_eq_true rfl)⟩
        have J5 : ¬ (((s1 15 x_i_page1 = 2) ∧ (s1 24 x_i_page1 = a_file)) ∧ (s1 25 x_i_page1 = a_index)) → G X 0 0 61 [(10, 0), (0, a_file), (0, a_index), (8, a_needing), (13, 0), (0, 24), (0, x_i_page1), (5, x_i_page1), (1, 0)] [] (s1, m) := by
          intro h7
          have hF := ite_f h7 hF
          refine g_iinc h 61 dX7_cachedFrame_61 rfl rfl (L' := [(10, 0), (0, a_file), (0, a_index), (8, a_needing), (13, 0), (0, 24), (0, x_i_page1 + 1), (5, x_i_page1), (1, 0)]) rfl ?_
          refine g_goto h 64 14 dX7_cachedFrame_64 (by decide) ?_
          refine G_weak (L' := [(10, 0), (0, a_file), (0, a_index), (8, a_needing), (13, 0), (0, 24), (0, x_i_page1 + 1), (1, 0), (1, 0)]) ⟨Or.inr rfl, Or.inr rfl, Or.inr rfl, Or.inr rfl, Or.inr rfl, Or.inr rfl, Or.inr rfl, Or.inl rfl, Or.inr rfl, trivial⟩ ?_
          rw [ek1] at hF
          exact ih1 _ _ (by omega) hF
        refine g_aloadq h 28 dX7_cachedFrame_28 rfl rfl ?_
        refine gf_Page_kind h 30 dX7_cachedFrame_30 kw_284 (by omega) ?_
        refine g_iconst h 33 dX7_cachedFrame_33 ?_
        refine g_icmp_ne h 34 61 (gRi (by omega)) (gRi (by omega)) dX7_cachedFrame_34 (by decide) (fun h3 => ?_) (fun h3 => ?_)
        · exact J5 (fun q => (fun q => h3 q.1) q.1)
        · refine g_aloadq h 37 dX7_cachedFrame_37 rfl rfl ?_
          refine gf_Page_file h 39 dX7_cachedFrame_39 kw_301 (by omega) ?_
          refine g_iload_n h 42 dX7_cachedFrame_42 rfl ?_
          refine g_icmp_ne h 43 61 (gRi (by omega)) (gRi (by omega)) dX7_cachedFrame_43 (by decide) (fun h4 => ?_) (fun h4 => ?_)
          · exact J5 (fun q => (fun q => h4 q.2) q.1)
          · refine g_aloadq h 46 dX7_cachedFrame_46 rfl rfl ?_
            refine gf_Page_index h 48 dX7_cachedFrame_48 kw_303 (by omega) ?_
            refine g_iload_n h 51 dX7_cachedFrame_51 rfl ?_
            refine g_icmp_ne h 52 61 (gRi (by omega)) (gRi (by omega)) dX7_cachedFrame_52 (by decide) (fun h5 => ?_) (fun h5 => ?_)
            · exact J5 (fun q => h5 q.2)
            · exact J4 ⟨⟨h3, h4⟩, h5⟩
      have J3 : ¬ (x_i_page1 < 24) → G X 0 0 67 [(10, 0), (0, a_file), (0, a_index), (8, a_needing), (13, 0), (0, 24), (0, x_i_page1), (1, 0), (1, 0)] [] (s1, m) := by
        intro h8
        have hF := ite_f h8 hF
        refine G_typ fun hT_s1 => ?_
        have t4 : 0 ≤ s1 33 a_needing ∧ s1 33 a_needing ≤ 2 := hT_s1.1 33 a_needing
        suffices J6 : ∀ v1 : Int, v1 = (if a_needing < 0 then 0 else s1 33 a_needing : Int) → G X 0 0 79 [(10, 0), (0, a_file), (0, a_index), (8, a_needing), (13, 0), (0, 24), (0, x_i_page1), (1, 0), (1, 0)] [(0, v1)] (s1, m) by
          have J7 : a_needing < 0 → G X 0 0 71 [(10, 0), (0, a_file), (0, a_index), (8, a_needing), (13, 0), (0, 24), (0, x_i_page1), (1, 0), (1, 0)] [] (s1, m) := by
            intro h10
            refine g_iconst h 71 dX7_cachedFrame_71 ?_
            refine g_goto h 72 79 dX7_cachedFrame_72 (by decide) ?_
            exact J6 _ (if_pos h10).symm
          have J8 : ¬ (a_needing < 0) → G X 0 0 75 [(10, 0), (0, a_file), (0, a_index), (8, a_needing), (13, 0), (0, 24), (0, x_i_page1), (1, 0), (1, 0)] [] (s1, m) := by
            intro h11
            refine g_aload_nq h 75 dX7_cachedFrame_75 rfl rfl ?_
            refine gf_Space_group h 76 dX7_cachedFrame_76 kw_255 (by omega) ?_
            exact J6 _ (if_neg h11).symm
          refine g_aload_nq h 67 dX7_cachedFrame_67 rfl rfl ?_
          refine g_ifnonnull h 68 75 dX7_cachedFrame_68 (by decide) (fun h9 => ?_) (fun h9 => ?_)
          · exact J8 (Int.not_lt.mpr h9)
          · exact J7 h9
        intro v1 e1
        subst e1
        refine g_istore h 79 dX7_cachedFrame_79 (Nat.le_of_ble_eq_true rfl) rfl (L' := [(10, 0), (0, a_file), (0, a_index), (8, a_needing), (0, (if a_needing < 0 then 0 else s1 33 a_needing : Int)), (0, 24), (0, x_i_page1), (1, 0), (1, 0)]) rfl ?_
        refine g_aload_nq h 81 dX7_cachedFrame_81 rfl rfl ?_
        refine g_iload h 82 dX7_cachedFrame_82 rfl ?_
        refine g_aload_nq h 84 dX7_cachedFrame_84 rfl rfl ?_
        obtain ⟨r1, s2, c1, hF⟩ := cb_some hF
        have t5 : (-5) ≤ r1 ∧ r1 ≤ 23 := rgX7_frameFor c1
        refine g_callV h hE 85 dX7_cachedFrame_85 (ctX7_frameFor hl c1) mwX7_frameFor kw_708 (by decide) (by decide) rfl (Nat.le_of_ble_eq_true rfl) rfl (Nat.le_of_ble_eq_true rfl) ⟨Nat.le_of_ble_eq_true rfl, Nat.le_of_ble_eq_true rfl⟩ rfl rfl ?_
        show G X 0 0 88 [(10, 0), (0, a_file), (0, a_index), (8, a_needing), (0, (if a_needing < 0 then 0 else s1 33 a_needing : Int)), (0, 24), (0, x_i_page1), (1, 0), (1, 0)] [(0, r1)] (s2, m)
        refine g_istore h 88 dX7_cachedFrame_88 (Nat.le_of_ble_eq_true rfl) rfl (L' := [(10, 0), (0, a_file), (0, a_index), (8, a_needing), (0, (if a_needing < 0 then 0 else s1 33 a_needing : Int)), (0, r1), (0, x_i_page1), (1, 0), (1, 0)]) rfl ?_
        refine g_iload_n h 90 dX7_cachedFrame_90 rfl ?_
        refine g_bipush h 91 dX7_cachedFrame_91 (by decide) ?_
        refine g_imul h 93 dX7_cachedFrame_93 ?_
        refine g_iload_n h 94 dX7_cachedFrame_94 rfl ?_
        refine g_iadd h 95 dX7_cachedFrame_95 ?_
        refine g_istore h 96 dX7_cachedFrame_96 (Nat.le_of_ble_eq_true rfl) rfl (L' := [(10, 0), (0, a_file), (0, a_index), (8, a_needing), (0, (if a_needing < 0 then 0 else s1 33 a_needing : Int)), (0, r1), (0, (a_file * 8) + a_index), (1, 0), (1, 0)]) rfl ?_
        refine g_aload_nq h 98 dX7_cachedFrame_98 rfl rfl ?_
        refine g_iload h 99 dX7_cachedFrame_99 rfl ?_
        obtain ⟨r2, s3, c2, hF⟩ := cb_some hF
        have t6 : (-1) ≤ r2 ∧ r2 ≤ 23 := rgX7_pageIn c2
        refine g_callV h hE 101 dX7_cachedFrame_101 (ctX7_pageIn hl c2) mwX7_pageIn kw_790 (by decide) (by decide) rfl (Nat.le_of_ble_eq_true rfl) rfl (Nat.le_of_ble_eq_true rfl) ⟨Nat.le_of_ble_eq_true rfl, Nat.le_of_ble_eq_true rfl⟩ rfl rfl ?_
        show G X 0 0 104 [(10, 0), (0, a_file), (0, a_index), (8, a_needing), (0, (if a_needing < 0 then 0 else s1 33 a_needing : Int)), (0, r1), (0, (a_file * 8) + a_index), (1, 0), (1, 0)] [(5, r2)] (s3, m)
        refine g_astore h 104 dX7_cachedFrame_104 (Nat.le_of_ble_eq_true rfl) rfl (L' := [(10, 0), (0, a_file), (0, a_index), (8, a_needing), (0, (if a_needing < 0 then 0 else s1 33 a_needing : Int)), (0, r1), (0, (a_file * 8) + a_index), (5, r2), (1, 0)]) rfl ?_
        obtain ⟨q2, hF⟩ := gd_some hF
        obtain ⟨q3, hF⟩ := gd_some hF
        have J9 : ((r2 < 0) ∨ ((a_file * 8) + a_index < 0)) ∨ (24 ≤ (a_file * 8) + a_index) → G X 0 0 123 [(10, 0), (0, a_file), (0, a_index), (8, a_needing), (0, (if a_needing < 0 then 0 else s1 33 a_needing : Int)), (0, r1), (0, (a_file * 8) + a_index), (5, r2), (1, 0)] [] (s3, m) := by
          intro h15
          have hF := ite_t h15 hF
          refine g_iload h 123 dX7_cachedFrame_123 rfl ?_
          obtain ⟨e1, e2⟩ := some_2 hF
          rw [← e1, ← e2] at hE
          exact g_iret h 125 dX7_cachedFrame_125 hE rfl rfl ⟨(Nat.le_of_ble_eq_true rfl), (Nat.le_of_ble_eq_true rfl)⟩
        have J10 : ¬ (((r2 < 0) ∨ ((a_file * 8) + a_index < 0)) ∨ (24 ≤ (a_file * 8) + a_index)) → G X 0 0 126 [(10, 0), (0, a_file), (0, a_index), (8, a_needing), (0, (if a_needing < 0 then 0 else s1 33 a_needing : Int)), (0, r1), (0, (a_file * 8) + a_index), (5, r2), (1, 0)] [] (s3, m) := by
          intro h16
          have hF := ite_f h16 hF
          obtain ⟨k2, ek2, hF⟩ := bn_ex hF
          have J11 : ∀ (v2 : Int) (s4 : S2), (0 ≤ v2 ∧ v2 ≤ 1) → k2 v2 s4 = some (r0, s0) → G X 0 0 165 [(10, 0), (0, a_file), (0, a_index), (8, a_needing), (0, (if a_needing < 0 then 0 else s1 33 a_needing : Int)), (0, r1), (0, (a_file * 8) + a_index), (5, r2), (1, 0)] [(0, v2)] (s4, m) := by
            intro v2 s4 q6 hF
            rw [ek2] at hF
            refine g_istore h 165 dX7_cachedFrame_165 (Nat.le_of_ble_eq_true rfl) rfl (L' := [(10, 0), (0, a_file), (0, a_index), (8, a_needing), (0, (if a_needing < 0 then 0 else s1 33 a_needing : Int)), (0, r1), (0, (a_file * 8) + a_index), (5, r2), (0, v2)]) rfl ?_
            refine g_aload_nq h 167 dX7_cachedFrame_167 rfl rfl ?_
            refine gf_counts h 168 dX7_cachedFrame_168 kw_369 ?_
            refine g_iconst h 171 dX7_cachedFrame_171 ?_
            refine g_dup2 h 172 dX7_cachedFrame_172 (show (0 : Nat) ≠ 2 by decide) (show (19 : Nat) ≠ 2 by decide) ?_
            refine al_counts h 173 dX7_cachedFrame_173 (by omega) ?_
            suffices J16 : ∀ v3 : Int, v3 = (if v2 ≠ 0 then 1 else 0 : Int) → G X 0 0 184 [(10, 0), (0, a_file), (0, a_index), (8, a_needing), (0, (if a_needing < 0 then 0 else s1 33 a_needing : Int)), (0, r1), (0, (a_file * 8) + a_index), (5, r2), (0, v2)] [(0, v3), (0, s4 48 3), (0, 3), (19, 0)] (s4, m) by
              have J17 : v2 ≠ 0 → G X 0 0 179 [(10, 0), (0, a_file), (0, a_index), (8, a_needing), (0, (if a_needing < 0 then 0 else s1 33 a_needing : Int)), (0, r1), (0, (a_file * 8) + a_index), (5, r2), (0, v2)] [(0, s4 48 3), (0, 3), (19, 0)] (s4, m) := by
                intro h22
                refine g_iconst h 179 dX7_cachedFrame_179 ?_
                refine g_goto h 180 184 dX7_cachedFrame_180 (by decide) ?_
                exact J16 _ (if_pos h22).symm
              have J18 : ¬ (v2 ≠ 0) → G X 0 0 183 [(10, 0), (0, a_file), (0, a_index), (8, a_needing), (0, (if a_needing < 0 then 0 else s1 33 a_needing : Int)), (0, r1), (0, (a_file * 8) + a_index), (5, r2), (0, v2)] [(0, s4 48 3), (0, 3), (19, 0)] (s4, m) := by
                intro h23
                refine g_iconst h 183 dX7_cachedFrame_183 ?_
                exact J16 _ (if_neg h23).symm
              refine g_iload h 174 dX7_cachedFrame_174 rfl ?_
              refine g_if_eq h 176 183 (gRi (by omega)) dX7_cachedFrame_176 (by decide) (fun h21 => ?_) (fun h21 => ?_)
              · exact J18 (fun q => q h21)
              · exact J17 h21
            intro v3 e2
            subst e2
            refine g_iadd h 184 dX7_cachedFrame_184 ?_
            obtain ⟨s8, es8, hF⟩ := bn_ex hF
            refine as_counts h 185 dX7_cachedFrame_185 (by omega) ?_
            rw [← es8]
            refine g_aload_nq h 186 dX7_cachedFrame_186 rfl rfl ?_
            refine gf_counts h 187 dX7_cachedFrame_187 kw_369 ?_
            refine g_iconst h 190 dX7_cachedFrame_190 ?_
            refine g_dup2 h 191 dX7_cachedFrame_191 (show (0 : Nat) ≠ 2 by decide) (show (19 : Nat) ≠ 2 by decide) ?_
            refine al_counts h 192 dX7_cachedFrame_192 (by omega) ?_
            refine g_iconst h 193 dX7_cachedFrame_193 ?_
            refine g_iadd h 194 dX7_cachedFrame_194 ?_
            obtain ⟨s9, es9, hF⟩ := bn_ex hF
            refine as_counts h 195 dX7_cachedFrame_195 (by omega) ?_
            rw [← es9]
            refine g_aloadq h 196 dX7_cachedFrame_196 rfl rfl ?_
            refine g_iconst h 198 dX7_cachedFrame_198 ?_
            refine G_typ fun hT_s9 => ?_
            have t8 : 0 ≤ s9 44 ((a_file * 8) + a_index) ∧ s9 44 ((a_file * 8) + a_index) ≤ 99999 := hT_s9.1 44 ((a_file * 8) + a_index)
            refine g_aload_nq h 199 dX7_cachedFrame_199 rfl rfl ?_
            refine gf_onDisk h 200 dX7_cachedFrame_200 kw_365 ?_
            refine g_iload h 203 dX7_cachedFrame_203 rfl ?_
            refine al_onDisk h 205 dX7_cachedFrame_205 (by omega) ?_
            refine g_iload h 206 dX7_cachedFrame_206 rfl ?_
            obtain ⟨r4, s10, c4, hF⟩ := cb_some hF
            refine g_callV h hE 208 dX7_cachedFrame_208 (ctX2_begin hl c4) mwX2_begin kw_794 (by decide) (show _ ∧ _ < (24 : Int) by omega) rfl (Nat.le_of_ble_eq_true rfl) rfl (Nat.le_of_ble_eq_true rfl) ⟨Nat.le_of_ble_eq_true rfl, Nat.le_of_ble_eq_true rfl⟩ rfl rfl ?_
            show G X 0 0 211 [(10, 0), (0, a_file), (0, a_index), (8, a_needing), (0, (if a_needing < 0 then 0 else s1 33 a_needing : Int)), (0, r1), (0, (a_file * 8) + a_index), (5, r2), (0, v2)] [] (s10, m)
            refine g_aloadq h 211 dX7_cachedFrame_211 rfl rfl ?_
            refine g_iload_n h 213 dX7_cachedFrame_213 rfl ?_
            obtain ⟨s11, es11, hF⟩ := bn_ex hF
            refine pf_Page_file h 214 dX7_cachedFrame_214 kw_301 (by omega) (by omega) ?_
            rw [← es11]
            refine g_aloadq h 217 dX7_cachedFrame_217 rfl rfl ?_
            refine g_iload_n h 219 dX7_cachedFrame_219 rfl ?_
            obtain ⟨s12, es12, hF⟩ := bn_ex hF
            refine pf_Page_index h 220 dX7_cachedFrame_220 kw_303 (by omega) (by omega) ?_
            rw [← es12]
            refine g_aload_nq h 223 dX7_cachedFrame_223 rfl rfl ?_
            refine g_aloadq h 224 dX7_cachedFrame_224 rfl rfl ?_
            suffices J19 : ∀ v4 : Int, v4 = (if v2 ≠ 0 then 1 else 0 : Int) → G X 0 0 236 [(10, 0), (0, a_file), (0, a_index), (8, a_needing), (0, (if a_needing < 0 then 0 else s1 33 a_needing : Int)), (0, r1), (0, (a_file * 8) + a_index), (5, r2), (0, v2)] [(0, v4), (5, r2), (10, 0)] (s12, m) by
              have J20 : v2 ≠ 0 → G X 0 0 231 [(10, 0), (0, a_file), (0, a_index), (8, a_needing), (0, (if a_needing < 0 then 0 else s1 33 a_needing : Int)), (0, r1), (0, (a_file * 8) + a_index), (5, r2), (0, v2)] [(5, r2), (10, 0)] (s12, m) := by
                intro h25
                refine g_iconst h 231 dX7_cachedFrame_231 ?_
                refine g_goto h 232 236 dX7_cachedFrame_232 (by decide) ?_
                exact J19 _ (if_pos h25).symm
              have J21 : ¬ (v2 ≠ 0) → G X 0 0 235 [(10, 0), (0, a_file), (0, a_index), (8, a_needing), (0, (if a_needing < 0 then 0 else s1 33 a_needing : Int)), (0, r1), (0, (a_file * 8) + a_index), (5, r2), (0, v2)] [(5, r2), (10, 0)] (s12, m) := by
                intro h26
                refine g_iconst h 235 dX7_cachedFrame_235 ?_
                exact J19 _ (if_neg h26).symm
              refine g_iload h 226 dX7_cachedFrame_226 rfl ?_
              refine g_if_eq h 228 235 (gRi (by omega)) dX7_cachedFrame_228 (by decide) (fun h24 => ?_) (fun h24 => ?_)
              · exact J21 (fun q => q h24)
              · exact J20 h24
            intro v4 e3
            subst e3
            obtain ⟨r5, s13, c5, hF⟩ := cb_some hF
            refine g_callV h hE 236 dX7_cachedFrame_236 (ctX7_bringToEnd hl c5) mwX7_bringToEnd kw_729 (by decide) (by decide) rfl (Nat.le_of_ble_eq_true rfl) rfl (Nat.le_of_ble_eq_true rfl) ⟨Nat.le_of_ble_eq_true rfl, Nat.le_of_ble_eq_true rfl⟩ rfl rfl ?_
            show G X 0 0 239 [(10, 0), (0, a_file), (0, a_index), (8, a_needing), (0, (if a_needing < 0 then 0 else s1 33 a_needing : Int)), (0, r1), (0, (a_file * 8) + a_index), (5, r2), (0, v2)] [] (s13, m)
            refine g_iload h 239 dX7_cachedFrame_239 rfl ?_
            obtain ⟨e1, e2⟩ := some_2 hF
            rw [← e1, ← e2] at hE
            exact g_iret h 241 dX7_cachedFrame_241 hE rfl rfl ⟨(Nat.le_of_ble_eq_true rfl), (Nat.le_of_ble_eq_true rfl)⟩
          obtain ⟨k3, ek3, hF⟩ := bn_ex hF
          have J12 : ∀ (s5 : S2), k3 s5 = some (r0, s0) → G X 0 0 160 [(10, 0), (0, a_file), (0, a_index), (8, a_needing), (0, (if a_needing < 0 then 0 else s1 33 a_needing : Int)), (0, r1), (0, (a_file * 8) + a_index), (5, r2), (1, 0)] [] (s5, m) := by
            intro s5 hF
            rw [ek3] at hF
            refine g_iconst h 160 dX7_cachedFrame_160 ?_
            refine g_goto h 161 165 dX7_cachedFrame_161 (by decide) ?_
            exact J11 _ _ (by omega) hF
          obtain ⟨k4, ek4, hF⟩ := bn_ex hF
          have J13 : ∀ (s6 : S2), k4 s6 = some (r0, s0) → G X 0 0 164 [(10, 0), (0, a_file), (0, a_index), (8, a_needing), (0, (if a_needing < 0 then 0 else s1 33 a_needing : Int)), (0, r1), (0, (a_file * 8) + a_index), (5, r2), (1, 0)] [] (s6, m) := by
            intro s6 hF
            rw [ek4] at hF
            refine g_iconst h 164 dX7_cachedFrame_164 ?_
            exact J11 _ _ (by omega) hF
          obtain ⟨q4, hF⟩ := gd_some hF
          have J14 : s3 45 ((a_file * 8) + a_index) ≠ (-1) → G X 0 0 137 [(10, 0), (0, a_file), (0, a_index), (8, a_needing), (0, (if a_needing < 0 then 0 else s1 33 a_needing : Int)), (0, r1), (0, (a_file * 8) + a_index), (5, r2), (1, 0)] [] (s3, m) := by
            intro h18
            have hF := ite_t h18 hF
            refine g_aload_nq h 137 dX7_cachedFrame_137 rfl rfl ?_
            refine gf_counts h 138 dX7_cachedFrame_138 kw_369 ?_
            refine g_iconst h 141 dX7_cachedFrame_141 ?_
            refine al_counts h 142 dX7_cachedFrame_142 (by omega) ?_
            refine g_aload_nq h 143 dX7_cachedFrame_143 rfl rfl ?_
            refine gf_evictedAs h 144 dX7_cachedFrame_144 kw_366 ?_
            refine g_iload h 147 dX7_cachedFrame_147 rfl ?_
            refine al_evictedAs h 149 dX7_cachedFrame_149 (by omega) ?_
            refine g_isub h 150 dX7_cachedFrame_150 ?_
            refine g_aload_nq h 151 dX7_cachedFrame_151 rfl rfl ?_
            refine g_iconst h 152 dX7_cachedFrame_152 ?_
            refine g_iconst h 153 dX7_cachedFrame_153 ?_
            obtain ⟨r3, s7, c3, hF⟩ := cb_some hF
            have t7 : 0 ≤ r3 ∧ r3 ≤ 24 := rgX7_members c3
            refine g_callV h hE 154 dX7_cachedFrame_154 (ctX7_members hl c3) mwX7_members kw_659 (by decide) (by decide) rfl (Nat.le_of_ble_eq_true rfl) rfl (Nat.le_of_ble_eq_true rfl) ⟨Nat.le_of_ble_eq_true rfl, Nat.le_of_ble_eq_true rfl⟩ rfl rfl ?_
            show G X 0 0 157 [(10, 0), (0, a_file), (0, a_index), (8, a_needing), (0, (if a_needing < 0 then 0 else s1 33 a_needing : Int)), (0, r1), (0, (a_file * 8) + a_index), (5, r2), (1, 0)] [(0, r3), (0, (s3 48 2) - (s3 45 ((a_file * 8) + a_index)))] (s7, m)
            obtain ⟨q5, hF⟩ := gd_some hF
            refine g_icmp_gt h 157 164 (gRi (by omega)) (gRi (by omega)) dX7_cachedFrame_157 (by decide) (fun h19 => ?_) (fun h19 => ?_)
            · have hF := ite_f (Int.not_le.mpr h19) hF
              exact J13 _ hF
            · have hF := ite_t h19 hF
              exact J12 _ hF
          have J15 : ¬ (s3 45 ((a_file * 8) + a_index) ≠ (-1)) → G X 0 0 164 [(10, 0), (0, a_file), (0, a_index), (8, a_needing), (0, (if a_needing < 0 then 0 else s1 33 a_needing : Int)), (0, r1), (0, (a_file * 8) + a_index), (5, r2), (1, 0)] [] (s3, m) := by
            intro h20
            have hF := ite_f h20 hF
            exact J13 _ hF
          refine g_aload_nq h 126 dX7_cachedFrame_126 rfl rfl ?_
          refine gf_evictedAs h 127 dX7_cachedFrame_127 kw_366 ?_
          refine g_iload h 130 dX7_cachedFrame_130 rfl ?_
          refine al_evictedAs h 132 dX7_cachedFrame_132 (by omega) ?_
          refine g_iconst h 133 dX7_cachedFrame_133 ?_
          refine g_icmp_eq h 134 164 (gRi (by omega)) (gRi (by omega)) dX7_cachedFrame_134 (by decide) (fun h17 => ?_) (fun h17 => ?_)
          · exact J15 (fun q => q h17)
          · exact J14 h17
        refine g_aloadq h 106 dX7_cachedFrame_106 rfl rfl ?_
        refine g_ifnull h 108 123 dX7_cachedFrame_108 (by decide) (fun h12 => ?_) (fun h12 => ?_)
        · exact J9 (Or.inl (Or.inl h12))
        · refine g_iload h 111 dX7_cachedFrame_111 rfl ?_
          refine g_if_lt h 113 123 (gRi (by omega)) dX7_cachedFrame_113 (by decide) (fun h13 => ?_) (fun h13 => ?_)
          · exact J9 (Or.inl (Or.inr h13))
          · refine g_iload h 116 dX7_cachedFrame_116 rfl ?_
            refine g_bipush h 118 dX7_cachedFrame_118 (by decide) ?_
            refine g_icmp_lt h 120 126 (gRi (by omega)) (gRi (by omega)) dX7_cachedFrame_120 (by decide) (fun h14 => ?_) (fun h14 => ?_)
            · exact J10 (fun q => q.elim (fun q => q.elim (Int.not_lt.mpr h12) (Int.not_lt.mpr h13)) (Int.not_le.mpr h14))
            · exact J9 (Or.inr h14)
      refine g_iload h 14 dX7_cachedFrame_14 rfl ?_
      refine g_iload h 16 dX7_cachedFrame_16 rfl ?_
      refine g_icmp_ge h 18 67 (gRi (by omega)) (gRi (by omega)) dX7_cachedFrame_18 (by decide) (fun h1 => ?_) (fun h1 => ?_)
      · exact J3 (Int.not_lt.mpr h1)
      · exact J2 h1
  exact J22 _ _ _ (by omega) hF
-- Pagewright.fault
def FX7_fault (a_space a_entry a_source a_storing : Int) (s : S2) : Option (Int × S2) :=
  rgd (-5) 23 <| gd (0 ≤ a_space ∧ a_space ≤ 5) <| gd (0 ≤ a_entry ∧ a_entry ≤ 191) <| gd ((-1) ≤ a_source ∧ a_source ≤ 23) <| gd (0 ≤ a_storing ∧ a_storing ≤ 1) <| if (0 ≤ a_source) ∧ (((¬ (a_storing ≠ 0)) ∨ (s 10 a_entry ≠ 0)) ∨ ((if s 15 a_source = 2 then s 6 a_entry else (if s 20 a_source = 1 then 1 else 0 : Int) : Int) ≠ 0)) then bn (fun (s1 : S2) => some (0, s1)) fun k1 => if s 9 a_entry ≠ a_source then cb (FX7_give a_entry a_source a_storing s) fun r1 s2 => k1 s2 else bn (fun (s3 : S2) => k1 s3) fun k2 => if a_storing ≠ 0 then bn (upd2 s 10 a_entry 1) fun s4 => bn (upd2 s4 22 a_source 0) fun s5 => k2 s5 else k2 s else cb (FX7_frameFor (s 33 a_space) a_space s) fun r2 s6 => cb (FX7_pageIn r2 s6) fun r3 s7 => if r3 < 0 then some (r2, s7) else cb (FX2_begin r3 1 (if 0 ≤ a_source then s 16 a_source else (if 0 ≤ s 11 a_entry then s 26 (s 11 a_entry) else 0 : Int) : Int) (s7 33 a_space) s7) fun r4 s8 => cb (FX7_bringToEnd r3 0 s8) fun r5 s9 => bn (upd2 s9 48 6 ((s9 48 6) + (if a_source < 0 then 0 else 1 : Int))) fun s10 => cb (FX7_give a_entry r3 a_storing s10) fun r6 s11 => some (0, s11)
theorem rgX7_fault {a_space a_entry a_source a_storing : Int} {s s0 : S2} {r0 : Int} (hF : FX7_fault a_space a_entry a_source a_storing s = some (r0, s0)) : (-5) ≤ r0 ∧ r0 ≤ 23 := (rgd_some hF).2
set_option maxRecDepth 100000 in
set_option maxHeartbeats 4000000 in
theorem ctX7_fault {l : Launch} {w : gW} {bs : Nat} (hl : l.stackTraces = false) {a_space a_entry a_source a_storing : Int} {s m s0 : S2} {r0 : Int} (hF : FX7_fault a_space a_entry a_source a_storing s = some (r0, s0)) : gMet l w bs yX7_fault cX7_fault 8 (some FieldType.int) 5 0 [(10, 0), (8, a_space), (4, a_entry), (5, a_source), (0, a_storing)] (s, m) 0 (some (0, r0)) (s0, m) := by
  unfold FX7_fault at hF
  obtain ⟨hF, hr⟩ := rgd_some hF
  obtain ⟨q_a_space, hF⟩ := gd_some hF
  obtain ⟨q_a_entry, hF⟩ := gd_some hF
  obtain ⟨q_a_source, hF⟩ := gd_some hF
  obtain ⟨q_a_storing, hF⟩ := gd_some hF
  refine g_start hl (by decide) (Nat.le_of_ble_eq_true rfl) rfl fun X h hE => ?_
  have h : gOk X "Pagewright" cX7_fault 8 5 0 0 := h
  have hE : gEnd X l w bs 0 (some FieldType.int) 0 (some (0, r0)) (s0, m) := hE
  show G X 0 0 0 [(10, 0), (8, a_space), (4, a_entry), (5, a_source), (0, a_storing), (1, 0), (1, 0), (1, 0)] [] (s, m)
  refine G_typ fun hT_s => ?_
  have t1 : 0 ≤ s 10 a_entry ∧ s 10 a_entry ≤ 1 := hT_s.1 10 a_entry
  have t2 : 0 ≤ s 15 a_source ∧ s 15 a_source ≤ 2 := hT_s.1 15 a_source
  have t3 : 0 ≤ s 6 a_entry ∧ s 6 a_entry ≤ 1 := hT_s.1 6 a_entry
  have t4 : 0 ≤ s 20 a_source ∧ s 20 a_source ≤ 192 := hT_s.1 20 a_source
  have J1 : (0 ≤ a_source) ∧ (((¬ (a_storing ≠ 0)) ∨ (s 10 a_entry ≠ 0)) ∨ ((if s 15 a_source = 2 then s 6 a_entry else (if s 20 a_source = 1 then 1 else 0 : Int) : Int) ≠ 0)) → G X 0 0 24 [(10, 0), (8, a_space), (4, a_entry), (5, a_source), (0, a_storing), (1, 0), (1, 0), (1, 0)] [] (s, m) := by
    intro h5
    have hF := ite_t h5 hF
    obtain ⟨k1, ek1, hF⟩ := bn_ex hF
    have J3 : ∀ (s1 : S2), k1 s1 = some (r0, s0) → G X 0 0 58 [(10, 0), (8, a_space), (4, a_entry), (5, a_source), (0, a_storing), (1, 0), (1, 0), (1, 0)] [] (s1, m) := by
      intro s1 hF
      rw [ek1] at hF
      refine g_iconst h 58 dX7_fault_58 ?_
      obtain ⟨e1, e2⟩ := some_2 hF
      rw [← e1, ← e2] at hE
      exact g_iret h 59 dX7_fault_59 hE rfl rfl ⟨(Nat.le_of_ble_eq_true rfl), (Nat.le_of_ble_eq_true rfl)⟩
    have t5 : (-1) ≤ s 9 a_entry ∧ s 9 a_entry ≤ 23 := hT_s.1 9 a_entry
    have J4 : s 9 a_entry ≠ a_source → G X 0 0 32 [(10, 0), (8, a_space), (4, a_entry), (5, a_source), (0, a_storing), (1, 0), (1, 0), (1, 0)] [] (s, m) := by
      intro h7
      have hF := ite_t h7 hF
      refine g_aload_nq h 32 dX7_fault_32 rfl rfl ?_
      refine g_aload_nq h 33 dX7_fault_33 rfl rfl ?_
      refine g_aload_nq h 34 dX7_fault_34 rfl rfl ?_
      refine g_iload h 35 dX7_fault_35 rfl ?_
      obtain ⟨r1, s2, c1, hF⟩ := cb_some hF
      refine g_callV h hE 37 dX7_fault_37 (ctX7_give hl c1) mwX7_give kw_805 (by decide) (by decide) rfl (Nat.le_of_ble_eq_true rfl) rfl (Nat.le_of_ble_eq_true rfl) ⟨Nat.le_of_ble_eq_true rfl, Nat.le_of_ble_eq_true rfl⟩ rfl rfl ?_
      show G X 0 0 40 [(10, 0), (8, a_space), (4, a_entry), (5, a_source), (0, a_storing), (1, 0), (1, 0), (1, 0)] [] (s2, m)
      refine g_goto h 40 58 dX7_fault_40 (by decide) ?_
      exact J3 _ hF
    have J5 : ¬ (s 9 a_entry ≠ a_source) → G X 0 0 43 [(10, 0), (8, a_space), (4, a_entry), (5, a_source), (0, a_storing), (1, 0), (1, 0), (1, 0)] [] (s, m) := by
      intro h8
      have hF := ite_f h8 hF
      obtain ⟨k2, ek2, hF⟩ := bn_ex hF
      have J6 : ∀ (s3 : S2), k2 s3 = some (r0, s0) → G X 0 0 58 [(10, 0), (8, a_space), (4, a_entry), (5, a_source), (0, a_storing), (1, 0), (1, 0), (1, 0)] [] (s3, m) := by
        intro s3 hF
        rw [ek2] at hF
        exact J3 _ hF
      have J7 : a_storing ≠ 0 → G X 0 0 48 [(10, 0), (8, a_space), (4, a_entry), (5, a_source), (0, a_storing), (1, 0), (1, 0), (1, 0)] [] (s, m) := by
        intro h10
        have hF := ite_t h10 hF
        refine g_aload_nq h 48 dX7_fault_48 rfl rfl ?_
        refine g_iconst h 49 dX7_fault_49 ?_
        obtain ⟨s4, es4, hF⟩ := bn_ex hF
        refine pf_Entry_writable h 50 dX7_fault_50 kw_216 (by omega) (by omega) ?_
        rw [← es4]
        refine g_aload_nq h 53 dX7_fault_53 rfl rfl ?_
        refine g_iconst h 54 dX7_fault_54 ?_
        obtain ⟨s5, es5, hF⟩ := bn_ex hF
        refine pf_Page_merged h 55 dX7_fault_55 kw_297 (by omega) (by omega) ?_
        rw [← es5]
        exact J6 _ hF
      have J8 : ¬ (a_storing ≠ 0) → G X 0 0 58 [(10, 0), (8, a_space), (4, a_entry), (5, a_source), (0, a_storing), (1, 0), (1, 0), (1, 0)] [] (s, m) := by
        intro h11
        have hF := ite_f h11 hF
        exact J6 _ hF
      refine g_iload h 43 dX7_fault_43 rfl ?_
      refine g_if_eq h 45 58 (gRi (by omega)) dX7_fault_45 (by decide) (fun h9 => ?_) (fun h9 => ?_)
      · exact J8 (fun q => q h9)
      · exact J7 h9
    refine g_aload_nq h 24 dX7_fault_24 rfl rfl ?_
    refine gf_Entry_page h 25 dX7_fault_25 kw_213 (by omega) ?_
    refine g_aload_nq h 28 dX7_fault_28 rfl rfl ?_
    refine g_acmp_eq h 29 43 (show -1 ≤ _ ∧ _ < (24 : Int) by omega) (show -1 ≤ _ ∧ _ < (24 : Int) by omega) (by decide) dX7_fault_29 (by decide) (fun h6 => ?_) (fun h6 => ?_)
    · exact J5 (fun q => q h6)
    · exact J4 h6
  have J2 : ¬ ((0 ≤ a_source) ∧ (((¬ (a_storing ≠ 0)) ∨ (s 10 a_entry ≠ 0)) ∨ ((if s 15 a_source = 2 then s 6 a_entry else (if s 20 a_source = 1 then 1 else 0 : Int) : Int) ≠ 0))) → G X 0 0 60 [(10, 0), (8, a_space), (4, a_entry), (5, a_source), (0, a_storing), (1, 0), (1, 0), (1, 0)] [] (s, m) := by
    intro h12
    have hF := ite_f h12 hF
    have t6 : 0 ≤ s 16 a_source ∧ s 16 a_source ≤ 99999 := hT_s.1 16 a_source
    have t7 : (-1) ≤ s 11 a_entry ∧ s 11 a_entry ≤ 17 := hT_s.1 11 a_entry
    have t8 : 0 ≤ s 26 (s 11 a_entry) ∧ s 26 (s 11 a_entry) ≤ 99999 := hT_s.1 26 (s 11 a_entry)
    suffices J9 : ∀ v2 : Int, v2 = (if 0 ≤ a_source then s 16 a_source else (if 0 ≤ s 11 a_entry then s 26 (s 11 a_entry) else 0 : Int) : Int) → G X 0 0 89 [(10, 0), (8, a_space), (4, a_entry), (5, a_source), (0, a_storing), (1, 0), (1, 0), (1, 0)] [(0, v2)] (s, m) by
      have J10 : 0 ≤ a_source → G X 0 0 64 [(10, 0), (8, a_space), (4, a_entry), (5, a_source), (0, a_storing), (1, 0), (1, 0), (1, 0)] [] (s, m) := by
        intro h14
        refine g_aload_nq h 64 dX7_fault_64 rfl rfl ?_
        refine gf_Page_value h 65 dX7_fault_65 kw_286 (by omega) ?_
        refine g_goto h 68 89 dX7_fault_68 (by decide) ?_
        exact J9 _ (if_pos h14).symm
      have J11 : ¬ (0 ≤ a_source) → G X 0 0 71 [(10, 0), (8, a_space), (4, a_entry), (5, a_source), (0, a_storing), (1, 0), (1, 0), (1, 0)] [] (s, m) := by
        intro h15
        suffices J12 : ∀ v1 : Int, v1 = (if 0 ≤ s 11 a_entry then s 26 (s 11 a_entry) else 0 : Int) → G X 0 0 89 [(10, 0), (8, a_space), (4, a_entry), (5, a_source), (0, a_storing), (1, 0), (1, 0), (1, 0)] [(0, v1)] (s, m) by
          have J13 : 0 ≤ s 11 a_entry → G X 0 0 78 [(10, 0), (8, a_space), (4, a_entry), (5, a_source), (0, a_storing), (1, 0), (1, 0), (1, 0)] [] (s, m) := by
            intro h17
            refine g_aload_nq h 78 dX7_fault_78 rfl rfl ?_
            refine gf_Entry_record h 79 dX7_fault_79 kw_218 (by omega) ?_
            refine gf_Record_value h 82 dX7_fault_82 kw_145 (by omega) ?_
            refine g_goto h 85 89 dX7_fault_85 (by decide) ?_
            exact J12 _ (if_pos h17).symm
          have J14 : ¬ (0 ≤ s 11 a_entry) → G X 0 0 88 [(10, 0), (8, a_space), (4, a_entry), (5, a_source), (0, a_storing), (1, 0), (1, 0), (1, 0)] [] (s, m) := by
            intro h18
            refine g_iconst h 88 dX7_fault_88 ?_
            exact J12 _ (if_neg h18).symm
          refine g_aload_nq h 71 dX7_fault_71 rfl rfl ?_
          refine gf_Entry_record h 72 dX7_fault_72 kw_218 (by omega) ?_
          refine g_ifnull h 75 88 dX7_fault_75 (by decide) (fun h16 => ?_) (fun h16 => ?_)
          · exact J14 (Int.not_le.mpr h16)
          · exact J13 h16
        intro v1 e1
        subst e1
        exact J9 _ (if_neg h15).symm
      refine g_aload_nq h 60 dX7_fault_60 rfl rfl ?_
      refine g_ifnull h 61 71 dX7_fault_61 (by decide) (fun h13 => ?_) (fun h13 => ?_)
      · exact J11 (Int.not_le.mpr h13)
      · exact J10 h13
    intro v2 e2
    subst e2
    refine g_istore h 89 dX7_fault_89 (Nat.le_of_ble_eq_true rfl) rfl (L' := [(10, 0), (8, a_space), (4, a_entry), (5, a_source), (0, a_storing), (0, (if 0 ≤ a_source then s 16 a_source else (if 0 ≤ s 11 a_entry then s 26 (s 11 a_entry) else 0 : Int) : Int)), (1, 0), (1, 0)]) rfl ?_
    refine g_aload_nq h 91 dX7_fault_91 rfl rfl ?_
    have t9 : 0 ≤ s 33 a_space ∧ s 33 a_space ≤ 2 := hT_s.1 33 a_space
    refine g_aload_nq h 92 dX7_fault_92 rfl rfl ?_
    refine gf_Space_group h 93 dX7_fault_93 kw_255 (by omega) ?_
    refine g_aload_nq h 96 dX7_fault_96 rfl rfl ?_
    obtain ⟨r2, s6, c2, hF⟩ := cb_some hF
    have t10 : (-5) ≤ r2 ∧ r2 ≤ 23 := rgX7_frameFor c2
    refine g_callV h hE 97 dX7_fault_97 (ctX7_frameFor hl c2) mwX7_frameFor kw_708 (by decide) (by decide) rfl (Nat.le_of_ble_eq_true rfl) rfl (Nat.le_of_ble_eq_true rfl) ⟨Nat.le_of_ble_eq_true rfl, Nat.le_of_ble_eq_true rfl⟩ rfl rfl ?_
    show G X 0 0 100 [(10, 0), (8, a_space), (4, a_entry), (5, a_source), (0, a_storing), (0, (if 0 ≤ a_source then s 16 a_source else (if 0 ≤ s 11 a_entry then s 26 (s 11 a_entry) else 0 : Int) : Int)), (1, 0), (1, 0)] [(0, r2)] (s6, m)
    refine g_istore h 100 dX7_fault_100 (Nat.le_of_ble_eq_true rfl) rfl (L' := [(10, 0), (8, a_space), (4, a_entry), (5, a_source), (0, a_storing), (0, (if 0 ≤ a_source then s 16 a_source else (if 0 ≤ s 11 a_entry then s 26 (s 11 a_entry) else 0 : Int) : Int)), (0, r2), (1, 0)]) rfl ?_
    refine g_aload_nq h 102 dX7_fault_102 rfl rfl ?_
    refine g_iload h 103 dX7_fault_103 rfl ?_
    obtain ⟨r3, s7, c3, hF⟩ := cb_some hF
    have t11 : (-1) ≤ r3 ∧ r3 ≤ 23 := rgX7_pageIn c3
    refine g_callV h hE 105 dX7_fault_105 (ctX7_pageIn hl c3) mwX7_pageIn kw_790 (by decide) (by decide) rfl (Nat.le_of_ble_eq_true rfl) rfl (Nat.le_of_ble_eq_true rfl) ⟨Nat.le_of_ble_eq_true rfl, Nat.le_of_ble_eq_true rfl⟩ rfl rfl ?_
    show G X 0 0 108 [(10, 0), (8, a_space), (4, a_entry), (5, a_source), (0, a_storing), (0, (if 0 ≤ a_source then s 16 a_source else (if 0 ≤ s 11 a_entry then s 26 (s 11 a_entry) else 0 : Int) : Int)), (0, r2), (1, 0)] [(5, r3)] (s7, m)
    refine g_astore h 108 dX7_fault_108 (Nat.le_of_ble_eq_true rfl) rfl (L' := [(10, 0), (8, a_space), (4, a_entry), (5, a_source), (0, a_storing), (0, (if 0 ≤ a_source then s 16 a_source else (if 0 ≤ s 11 a_entry then s 26 (s 11 a_entry) else 0 : Int) : Int)), (0, r2), (5, r3)]) rfl ?_
    have J15 : r3 < 0 → G X 0 0 115 [(10, 0), (8, a_space), (4, a_entry), (5, a_source), (0, a_storing), (0, (if 0 ≤ a_source then s 16 a_source else (if 0 ≤ s 11 a_entry then s 26 (s 11 a_entry) else 0 : Int) : Int)), (0, r2), (5, r3)] [] (s7, m) := by
      intro h20
      have hF := ite_t h20 hF
      refine g_iload h 115 dX7_fault_115 rfl ?_
      obtain ⟨e1, e2⟩ := some_2 hF
      rw [← e1, ← e2] at hE
      exact g_iret h 117 dX7_fault_117 hE rfl rfl ⟨(Nat.le_of_ble_eq_true rfl), (Nat.le_of_ble_eq_true rfl)⟩
    have J16 : ¬ (r3 < 0) → G X 0 0 118 [(10, 0), (8, a_space), (4, a_entry), (5, a_source), (0, a_storing), (0, (if 0 ≤ a_source then s 16 a_source else (if 0 ≤ s 11 a_entry then s 26 (s 11 a_entry) else 0 : Int) : Int)), (0, r2), (5, r3)] [] (s7, m) := by
      intro h21
      have hF := ite_f h21 hF
      refine g_aloadq h 118 dX7_fault_118 rfl rfl ?_
      refine g_iconst h 120 dX7_fault_120 ?_
      refine g_iload h 121 dX7_fault_121 rfl ?_
      refine G_typ fun hT_s7 => ?_
      have t12 : 0 ≤ s7 33 a_space ∧ s7 33 a_space ≤ 2 := hT_s7.1 33 a_space
      refine g_aload_nq h 123 dX7_fault_123 rfl rfl ?_
      refine gf_Space_group h 124 dX7_fault_124 kw_255 (by omega) ?_
      obtain ⟨r4, s8, c4, hF⟩ := cb_some hF
      refine g_callV h hE 127 dX7_fault_127 (ctX2_begin hl c4) mwX2_begin kw_794 (by decide) (show _ ∧ _ < (24 : Int) by omega) rfl (Nat.le_of_ble_eq_true rfl) rfl (Nat.le_of_ble_eq_true rfl) ⟨Nat.le_of_ble_eq_true rfl, Nat.le_of_ble_eq_true rfl⟩ rfl rfl ?_
      show G X 0 0 130 [(10, 0), (8, a_space), (4, a_entry), (5, a_source), (0, a_storing), (0, (if 0 ≤ a_source then s 16 a_source else (if 0 ≤ s 11 a_entry then s 26 (s 11 a_entry) else 0 : Int) : Int)), (0, r2), (5, r3)] [] (s8, m)
      refine g_aload_nq h 130 dX7_fault_130 rfl rfl ?_
      refine g_aloadq h 131 dX7_fault_131 rfl rfl ?_
      refine g_iconst h 133 dX7_fault_133 ?_
      obtain ⟨r5, s9, c5, hF⟩ := cb_some hF
      refine g_callV h hE 134 dX7_fault_134 (ctX7_bringToEnd hl c5) mwX7_bringToEnd kw_729 (by decide) (by decide) rfl (Nat.le_of_ble_eq_true rfl) rfl (Nat.le_of_ble_eq_true rfl) ⟨Nat.le_of_ble_eq_true rfl, Nat.le_of_ble_eq_true rfl⟩ rfl rfl ?_
      show G X 0 0 137 [(10, 0), (8, a_space), (4, a_entry), (5, a_source), (0, a_storing), (0, (if 0 ≤ a_source then s 16 a_source else (if 0 ≤ s 11 a_entry then s 26 (s 11 a_entry) else 0 : Int) : Int)), (0, r2), (5, r3)] [] (s9, m)
      refine g_aload_nq h 137 dX7_fault_137 rfl rfl ?_
      refine gf_counts h 138 dX7_fault_138 kw_369 ?_
      refine g_bipush h 141 dX7_fault_141 (by decide) ?_
      refine g_dup2 h 143 dX7_fault_143 (show (0 : Nat) ≠ 2 by decide) (show (19 : Nat) ≠ 2 by decide) ?_
      refine al_counts h 144 dX7_fault_144 (by omega) ?_
      suffices J17 : ∀ v3 : Int, v3 = (if a_source < 0 then 0 else 1 : Int) → G X 0 0 154 [(10, 0), (8, a_space), (4, a_entry), (5, a_source), (0, a_storing), (0, (if 0 ≤ a_source then s 16 a_source else (if 0 ≤ s 11 a_entry then s 26 (s 11 a_entry) else 0 : Int) : Int)), (0, r2), (5, r3)] [(0, v3), (0, s9 48 6), (0, 6), (19, 0)] (s9, m) by
        have J18 : a_source < 0 → G X 0 0 149 [(10, 0), (8, a_space), (4, a_entry), (5, a_source), (0, a_storing), (0, (if 0 ≤ a_source then s 16 a_source else (if 0 ≤ s 11 a_entry then s 26 (s 11 a_entry) else 0 : Int) : Int)), (0, r2), (5, r3)] [(0, s9 48 6), (0, 6), (19, 0)] (s9, m) := by
          intro h23
          refine g_iconst h 149 dX7_fault_149 ?_
          refine g_goto h 150 154 dX7_fault_150 (by decide) ?_
          exact J17 _ (if_pos h23).symm
        have J19 : ¬ (a_source < 0) → G X 0 0 153 [(10, 0), (8, a_space), (4, a_entry), (5, a_source), (0, a_storing), (0, (if 0 ≤ a_source then s 16 a_source else (if 0 ≤ s 11 a_entry then s 26 (s 11 a_entry) else 0 : Int) : Int)), (0, r2), (5, r3)] [(0, s9 48 6), (0, 6), (19, 0)] (s9, m) := by
          intro h24
          refine g_iconst h 153 dX7_fault_153 ?_
          exact J17 _ (if_neg h24).symm
        refine g_aload_nq h 145 dX7_fault_145 rfl rfl ?_
        refine g_ifnonnull h 146 153 dX7_fault_146 (by decide) (fun h22 => ?_) (fun h22 => ?_)
        · exact J19 (Int.not_lt.mpr h22)
        · exact J18 h22
      intro v3 e3
      subst e3
      refine g_iadd h 154 dX7_fault_154 ?_
      obtain ⟨s10, es10, hF⟩ := bn_ex hF
      refine as_counts h 155 dX7_fault_155 (by omega) ?_
      rw [← es10]
      refine g_aload_nq h 156 dX7_fault_156 rfl rfl ?_
      refine g_aload_nq h 157 dX7_fault_157 rfl rfl ?_
      refine g_aloadq h 158 dX7_fault_158 rfl rfl ?_
      refine g_iload h 160 dX7_fault_160 rfl ?_
      obtain ⟨r6, s11, c6, hF⟩ := cb_some hF
      refine g_callV h hE 162 dX7_fault_162 (ctX7_give hl c6) mwX7_give kw_805 (by decide) (by decide) rfl (Nat.le_of_ble_eq_true rfl) rfl (Nat.le_of_ble_eq_true rfl) ⟨Nat.le_of_ble_eq_true rfl, Nat.le_of_ble_eq_true rfl⟩ rfl rfl ?_
      show G X 0 0 165 [(10, 0), (8, a_space), (4, a_entry), (5, a_source), (0, a_storing), (0, (if 0 ≤ a_source then s 16 a_source else (if 0 ≤ s 11 a_entry then s 26 (s 11 a_entry) else 0 : Int) : Int)), (0, r2), (5, r3)] [] (s11, m)
      refine g_iconst h 165 dX7_fault_165 ?_
      obtain ⟨e1, e2⟩ := some_2 hF
      rw [← e1, ← e2] at hE
      exact g_iret h 166 dX7_fault_166 hE rfl rfl ⟨(Nat.le_of_ble_eq_true rfl), (Nat.le_of_ble_eq_true rfl)⟩
    refine g_aloadq h 110 dX7_fault_110 rfl rfl ?_
    refine g_ifnonnull h 112 118 dX7_fault_112 (by decide) (fun h19 => ?_) (fun h19 => ?_)
    · exact J16 (Int.not_lt.mpr h19)
    · exact J15 h19
  refine g_aload_nq h 0 dX7_fault_0 rfl rfl ?_
  refine g_ifnull h 1 60 dX7_fault_1 (by decide) (fun h1 => ?_) (fun h1 => ?_)
  · exact J2 (fun q => (Int.not_le.mpr h1) q.1)
  · refine g_iload h 4 dX7_fault_4 rfl ?_
    refine g_if_eq h 6 24 (gRi (by omega)) dX7_fault_6 (by decide) (fun h2 => ?_) (fun h2 => ?_)
    · exact J1 ⟨h1, (Or.inl (Or.inl (fun q => q h2)))⟩
    · refine g_aload_nq h 9 dX7_fault_9 rfl rfl ?_
      refine gf_Entry_writable h 10 dX7_fault_10 kw_216 (by omega) ?_
      refine g_if_ne h 13 24 (gRi (by omega)) dX7_fault_13 (by decide) (fun h3 => ?_) (fun h3 => ?_)
      · exact J1 ⟨h1, (Or.inl (Or.inr h3))⟩
      · refine g_aload_nq h 16 dX7_fault_16 rfl rfl ?_
        refine g_aload_nq h 17 dX7_fault_17 rfl rfl ?_
        refine g_callS h hE 18 dX7_fault_18 (cpX7_isStorable (a_entry := a_entry) (a_page := a_source) hl (by omega) (by omega)) mwX7_isStorable kw_802 rfl (Nat.le_of_ble_eq_true rfl) rfl (Nat.le_of_ble_eq_true rfl) ⟨Nat.le_of_ble_eq_true rfl, Nat.le_of_ble_eq_true rfl⟩ rfl rfl ?_
        show G X 0 0 21 [(10, 0), (8, a_space), (4, a_entry), (5, a_source), (0, a_storing), (1, 0), (1, 0), (1, 0)] [(0, (if s 15 a_source = 2 then s 6 a_entry else (if s 20 a_source = 1 then 1 else 0 : Int) : Int))] (s, m)
        refine g_if_eq h 21 60 (gRi (by omega)) dX7_fault_21 (by decide) (fun h4 => ?_) (fun h4 => ?_)
        · exact J2 (fun q => (fun q => q.elim (fun q => q.elim (fun q => q h2) (fun q => q h3)) (fun q => q h4)) q.2)
        · exact J1 ⟨h1, (Or.inr h4)⟩
-- Pagewright.access
def FX7_access (a_cache a_space a_address a_value : Int) (s : S2) : Option (Int × S2) :=
  rgd (-2147483648) 2147483647 <| gd (0 ≤ a_cache ∧ a_cache ≤ 1) <| gd (0 ≤ a_space ∧ a_space ≤ 5) <| gd (0 ≤ a_address ∧ a_address ≤ 31) <| gd ((-1) ≤ a_value ∧ a_value ≤ 99999) <| cb (FX0_obey a_cache s) fun r1 s1 => if (a_address < 0) ∨ (32 ≤ a_address) then some ((-2), s1) else bn (fun (s2 : S2) => some ((-2), s2)) fun k1 => bn (fun (s3 : S2) => gd (0 ≤ 32 * a_space + a_address ∧ 32 * a_space + a_address ≤ 191) <| if gAnd (s3 3 (32 * a_space + a_address)) (if a_value ≠ (-1) then 2 else 1 : Int) = 0 then some ((-3), s3) else bn (fun (s5 : S2) => bn (fun (v3 : Int) (s14 : S2) => some (v3, s14)) fun k5 => if s5 9 (32 * a_space + a_address) < 0 then k5 (-5) s5 else cb (FX7_touch (s5 9 (32 * a_space + a_address)) a_value s5) fun r8 s15 => k5 r8 s15) fun k3 => cb (FX0_serves a_cache (32 * a_space + a_address) (if a_value ≠ (-1) then 1 else 0 : Int) s3) fun r3 s6 => if r3 ≠ 0 then bn (upd2 s6 48 0 ((s6 48 0) + 1)) fun s13 => k3 s13 else bn (upd2 s6 48 1 ((s6 48 1) + 1)) fun s7 => bn (fun (x_source1 : Int) (s8 : S2) => cb (FX7_fault a_space (32 * a_space + a_address) x_source1 (if a_value ≠ (-1) then 1 else 0 : Int) s8) fun r6 s11 => if r6 < 0 then some (r6, s11) else if s11 9 (32 * a_space + a_address) < 0 then some ((-5), s11) else cb (FX0_take a_cache (32 * a_space + a_address) (s11 9 (32 * a_space + a_address)) s11) fun r7 s12 => k3 s12) fun k4 => if (s7 8 (32 * a_space + a_address) = 0) ∧ (s7 4 (32 * a_space + a_address) ≠ (-1)) then cb (FX7_cachedFrame (s7 4 (32 * a_space + a_address)) (s7 5 (32 * a_space + a_address)) a_space s7) fun r4 s9 => cb (FX7_pageIn r4 s9) fun r5 s10 => if r5 < 0 then some (r4, s10) else k4 r5 s10 else k4 (s7 9 (32 * a_space + a_address)) s7) fun k2 => gd (0 ≤ 32 * a_space + a_address ∧ 32 * a_space + a_address ≤ 191) <| if ¬ (s1 2 (32 * a_space + a_address) ≠ 0) then cb (FX5_grow a_space a_address s1) fun r2 s4 => if r2 ≠ 0 then k2 s4 else k1 s4 else k2 s1
theorem rgX7_access {a_cache a_space a_address a_value : Int} {s s0 : S2} {r0 : Int} (hF : FX7_access a_cache a_space a_address a_value s = some (r0, s0)) : (-2147483648) ≤ r0 ∧ r0 ≤ 2147483647 := (rgd_some hF).2
set_option maxRecDepth 100000 in
set_option maxHeartbeats 4000000 in
theorem ctX7_access {l : Launch} {w : gW} {bs : Nat} (hl : l.stackTraces = false) {a_cache a_space a_address a_value : Int} {s m s0 : S2} {r0 : Int} (hF : FX7_access a_cache a_space a_address a_value s = some (r0, s0)) : gMet l w bs yX7_access cX7_access 9 (some FieldType.int) 6 0 [(10, 0), (3, a_cache), (8, a_space), (0, a_address), (0, a_value)] (s, m) 0 (some (0, r0)) (s0, m) := by
  unfold FX7_access at hF
  obtain ⟨hF, hr⟩ := rgd_some hF
  obtain ⟨q_a_cache, hF⟩ := gd_some hF
  obtain ⟨q_a_space, hF⟩ := gd_some hF
  obtain ⟨q_a_address, hF⟩ := gd_some hF
  obtain ⟨q_a_value, hF⟩ := gd_some hF
  refine g_start hl (by decide) (Nat.le_of_ble_eq_true rfl) rfl fun X h hE => ?_
  have h : gOk X "Pagewright" cX7_access 9 6 0 0 := h
  have hE : gEnd X l w bs 0 (some FieldType.int) 0 (some (0, r0)) (s0, m) := hE
  show G X 0 0 0 [(10, 0), (3, a_cache), (8, a_space), (0, a_address), (0, a_value), (1, 0), (1, 0), (1, 0), (1, 0)] [] (s, m)
  refine g_aload_nq h 0 dX7_access_0 rfl rfl ?_
  obtain ⟨r1, s1, c1, hF⟩ := cb_some hF
  have t1 : 0 ≤ r1 ∧ r1 ≤ 4 := rgX0_obey c1
  refine g_callV h hE 1 dX7_access_1 (ctX0_obey hl c1) mwX0_obey kw_683 (by decide) (show _ ∧ _ < (2 : Int) by omega) rfl (Nat.le_of_ble_eq_true rfl) rfl (Nat.le_of_ble_eq_true rfl) ⟨Nat.le_of_ble_eq_true rfl, Nat.le_of_ble_eq_true rfl⟩ rfl rfl ?_
  show G X 0 0 4 [(10, 0), (3, a_cache), (8, a_space), (0, a_address), (0, a_value), (1, 0), (1, 0), (1, 0), (1, 0)] [(0, r1)] (s1, m)
  refine g_pop h 4 dX7_access_4 (show (0 : Nat) ≠ 2 by decide) ?_
  have J1 : (a_address < 0) ∨ (32 ≤ a_address) → G X 0 0 15 [(10, 0), (3, a_cache), (8, a_space), (0, a_address), (0, a_value), (1, 0), (1, 0), (1, 0), (1, 0)] [] (s1, m) := by
    intro h3
    have hF := ite_t h3 hF
    refine g_bipush h 15 dX7_access_15 (by decide) ?_
    obtain ⟨e1, e2⟩ := some_2 hF
    rw [← e1, ← e2] at hE
    exact g_iret h 17 dX7_access_17 hE rfl rfl ⟨(Nat.le_of_ble_eq_true rfl), (Nat.le_of_ble_eq_true rfl)⟩
  have J2 : ¬ ((a_address < 0) ∨ (32 ≤ a_address)) → G X 0 0 18 [(10, 0), (3, a_cache), (8, a_space), (0, a_address), (0, a_value), (1, 0), (1, 0), (1, 0), (1, 0)] [] (s1, m) := by
    intro h4
    have hF := ite_f h4 hF
    refine g_aload_nq h 18 dX7_access_18 rfl rfl ?_
    refine gf_Space_entries h 19 dX7_access_19 kw_254 (by omega) ?_
    refine g_iload_n h 22 dX7_access_22 rfl ?_
    refine al_Space_entries h 23 dX7_access_23 (by omega) (by omega) ?_
    refine g_astore h 24 dX7_access_24 (Nat.le_of_ble_eq_true rfl) rfl (L' := [(10, 0), (3, a_cache), (8, a_space), (0, a_address), (0, a_value), (4, 32 * a_space + a_address), (1, 0), (1, 0), (1, 0)]) rfl ?_
    obtain ⟨k1, ek1, hF⟩ := bn_ex hF
    have J3 : ∀ (s2 : S2), k1 s2 = some (r0, s0) → G X 0 0 42 [(10, 0), (3, a_cache), (8, a_space), (0, a_address), (0, a_value), (4, 32 * a_space + a_address), (1, 0), (1, 0), (1, 0)] [] (s2, m) := by
      intro s2 hF
      rw [ek1] at hF
      refine g_bipush h 42 dX7_access_42 (by decide) ?_
      obtain ⟨e1, e2⟩ := some_2 hF
      rw [← e1, ← e2] at hE
      exact g_iret h 44 dX7_access_44 hE rfl rfl ⟨(Nat.le_of_ble_eq_true rfl), (Nat.le_of_ble_eq_true rfl)⟩
    obtain ⟨k2, ek2, hF⟩ := bn_ex hF
    have J4 : ∀ (s3 : S2), k2 s3 = some (r0, s0) → G X 0 0 45 [(10, 0), (3, a_cache), (8, a_space), (0, a_address), (0, a_value), (4, 32 * a_space + a_address), (1, 0), (1, 0), (1, 0)] [] (s3, m) := by
      intro s3 hF
      rw [ek2] at hF
      suffices J7 : ∀ v1 : Int, v1 = (if a_value ≠ (-1) then 1 else 0 : Int) → G X 0 0 56 [(10, 0), (3, a_cache), (8, a_space), (0, a_address), (0, a_value), (4, 32 * a_space + a_address), (1, 0), (1, 0), (1, 0)] [(0, v1)] (s3, m) by
        have J8 : a_value ≠ (-1) → G X 0 0 51 [(10, 0), (3, a_cache), (8, a_space), (0, a_address), (0, a_value), (4, 32 * a_space + a_address), (1, 0), (1, 0), (1, 0)] [] (s3, m) := by
          intro h10
          refine g_iconst h 51 dX7_access_51 ?_
          refine g_goto h 52 56 dX7_access_52 (by decide) ?_
          exact J7 _ (if_pos h10).symm
        have J9 : ¬ (a_value ≠ (-1)) → G X 0 0 55 [(10, 0), (3, a_cache), (8, a_space), (0, a_address), (0, a_value), (4, 32 * a_space + a_address), (1, 0), (1, 0), (1, 0)] [] (s3, m) := by
          intro h11
          refine g_iconst h 55 dX7_access_55 ?_
          exact J7 _ (if_neg h11).symm
        refine g_iload h 45 dX7_access_45 rfl ?_
        refine g_iconst h 47 dX7_access_47 ?_
        refine g_icmp_eq h 48 55 (gRi (by omega)) (gRi (by omega)) dX7_access_48 (by decide) (fun h9 => ?_) (fun h9 => ?_)
        · exact J9 (fun q => q h9)
        · exact J8 h9
      intro v1 e1
      subst e1
      refine g_istore h 56 dX7_access_56 (Nat.le_of_ble_eq_true rfl) rfl (L' := [(10, 0), (3, a_cache), (8, a_space), (0, a_address), (0, a_value), (4, 32 * a_space + a_address), (0, (if a_value ≠ (-1) then 1 else 0 : Int)), (1, 0), (1, 0)]) rfl ?_
      refine G_typ fun hT_s3 => ?_
      have t4 : 0 ≤ s3 3 (32 * a_space + a_address) ∧ s3 3 (32 * a_space + a_address) ≤ 3 := hT_s3.1 3 (32 * a_space + a_address)
      have t5 : 0 ≤ gAnd (s3 3 (32 * a_space + a_address)) (if a_value ≠ (-1) then 2 else 1 : Int) ∧ gAnd (s3 3 (32 * a_space + a_address)) (if a_value ≠ (-1) then 2 else 1 : Int) ≤ 3 := gAnd_03 (by omega)
      obtain ⟨q2, hF⟩ := gd_some hF
      have J10 : gAnd (s3 3 (32 * a_space + a_address)) (if a_value ≠ (-1) then 2 else 1 : Int) = 0 → G X 0 0 77 [(10, 0), (3, a_cache), (8, a_space), (0, a_address), (0, a_value), (4, 32 * a_space + a_address), (0, (if a_value ≠ (-1) then 1 else 0 : Int)), (1, 0), (1, 0)] [] (s3, m) := by
        intro h16
        have hF := ite_t h16 hF
        refine g_bipush h 77 dX7_access_77 (by decide) ?_
        obtain ⟨e1, e2⟩ := some_2 hF
        rw [← e1, ← e2] at hE
        exact g_iret h 79 dX7_access_79 hE rfl rfl ⟨(Nat.le_of_ble_eq_true rfl), (Nat.le_of_ble_eq_true rfl)⟩
      have J11 : ¬ (gAnd (s3 3 (32 * a_space + a_address)) (if a_value ≠ (-1) then 2 else 1 : Int) = 0) → G X 0 0 80 [(10, 0), (3, a_cache), (8, a_space), (0, a_address), (0, a_value), (4, 32 * a_space + a_address), (0, (if a_value ≠ (-1) then 1 else 0 : Int)), (1, 0), (1, 0)] [] (s3, m) := by
        intro h17
        have hF := ite_f h17 hF
        obtain ⟨k3, ek3, hF⟩ := bn_ex hF
        have J15 : ∀ (s5 : S2), k3 s5 = some (r0, s0) → G X 0 0 214 [(10, 0), (3, a_cache), (8, a_space), (0, a_address), (0, a_value), (4, 32 * a_space + a_address), (0, (if a_value ≠ (-1) then 1 else 0 : Int)), (1, 0), (1, 0)] [] (s5, m) := by
          intro s5 hF
          rw [ek3] at hF
          obtain ⟨k5, ek5, hF⟩ := bn_ex hF
          have J25 : ∀ (v3 : Int) (s14 : S2), ((-2147483648) ≤ v3 ∧ v3 ≤ 2147483647) → k5 v3 s14 = some (r0, s0) → G X 0 0 237 [(10, 0), (3, a_cache), (8, a_space), (0, a_address), (0, a_value), (4, 32 * a_space + a_address), (0, (if a_value ≠ (-1) then 1 else 0 : Int)), (1, 0), (1, 0)] [(0, v3)] (s14, m) := by
            intro v3 s14 q4 hF
            rw [ek5] at hF
            obtain ⟨e1, e2⟩ := some_2 hF
            rw [← e1, ← e2] at hE
            exact g_iret h 237 dX7_access_237 hE rfl rfl ⟨(Nat.le_of_ble_eq_true rfl), (Nat.le_of_ble_eq_true rfl)⟩
          refine G_typ fun hT_s5 => ?_
          have t15 : (-1) ≤ s5 9 (32 * a_space + a_address) ∧ s5 9 (32 * a_space + a_address) ≤ 23 := hT_s5.1 9 (32 * a_space + a_address)
          have J26 : s5 9 (32 * a_space + a_address) < 0 → G X 0 0 222 [(10, 0), (3, a_cache), (8, a_space), (0, a_address), (0, a_value), (4, 32 * a_space + a_address), (0, (if a_value ≠ (-1) then 1 else 0 : Int)), (1, 0), (1, 0)] [] (s5, m) := by
            intro h33
            have hF := ite_t h33 hF
            refine g_bipush h 222 dX7_access_222 (by decide) ?_
            refine g_goto h 224 237 dX7_access_224 (by decide) ?_
            exact J25 _ _ (by omega) hF
          have J27 : ¬ (s5 9 (32 * a_space + a_address) < 0) → G X 0 0 227 [(10, 0), (3, a_cache), (8, a_space), (0, a_address), (0, a_value), (4, 32 * a_space + a_address), (0, (if a_value ≠ (-1) then 1 else 0 : Int)), (1, 0), (1, 0)] [] (s5, m) := by
            intro h34
            have hF := ite_f h34 hF
            refine g_aloadq h 227 dX7_access_227 rfl rfl ?_
            refine gf_Entry_page h 229 dX7_access_229 kw_213 (by omega) ?_
            refine g_iload h 232 dX7_access_232 rfl ?_
            obtain ⟨r8, s15, c8, hF⟩ := cb_some hF
            have t16 : (-2147483648) ≤ r8 ∧ r8 ≤ 2147483647 := rgX7_touch c8
            refine g_callS h hE 234 dX7_access_234 (ctX7_touch hl c8) mwX7_touch kw_816 rfl (Nat.le_of_ble_eq_true rfl) rfl (Nat.le_of_ble_eq_true rfl) ⟨Nat.le_of_ble_eq_true rfl, Nat.le_of_ble_eq_true rfl⟩ rfl rfl ?_
            show G X 0 0 237 [(10, 0), (3, a_cache), (8, a_space), (0, a_address), (0, a_value), (4, 32 * a_space + a_address), (0, (if a_value ≠ (-1) then 1 else 0 : Int)), (1, 0), (1, 0)] [(0, r8)] (s15, m)
            exact J25 _ _ (by omega) hF
          refine g_aloadq h 214 dX7_access_214 rfl rfl ?_
          refine gf_Entry_page h 216 dX7_access_216 kw_213 (by omega) ?_
          refine g_ifnonnull h 219 227 dX7_access_219 (by decide) (fun h32 => ?_) (fun h32 => ?_)
          · exact J27 (Int.not_lt.mpr h32)
          · exact J26 h32
        refine g_aload_nq h 80 dX7_access_80 rfl rfl ?_
        refine g_aloadq h 81 dX7_access_81 rfl rfl ?_
        refine g_iload h 83 dX7_access_83 rfl ?_
        obtain ⟨r3, s6, c3, hF⟩ := cb_some hF
        have t6 : 0 ≤ r3 ∧ r3 ≤ 1 := rgX0_serves c3
        refine g_callV h hE 85 dX7_access_85 (ctX0_serves hl c3) mwX0_serves kw_700 (by decide) (show _ ∧ _ < (2 : Int) by omega) rfl (Nat.le_of_ble_eq_true rfl) rfl (Nat.le_of_ble_eq_true rfl) ⟨Nat.le_of_ble_eq_true rfl, Nat.le_of_ble_eq_true rfl⟩ rfl rfl ?_
        show G X 0 0 88 [(10, 0), (3, a_cache), (8, a_space), (0, a_address), (0, a_value), (4, 32 * a_space + a_address), (0, (if a_value ≠ (-1) then 1 else 0 : Int)), (1, 0), (1, 0)] [(0, r3)] (s6, m)
        refine g_if_eq h 88 104 (gRi (by omega)) dX7_access_88 (by decide) (fun h18 => ?_) (fun h18 => ?_)
        · have hF := ite_f (fun q => q h18) hF
          refine g_aload_nq h 104 dX7_access_104 rfl rfl ?_
          refine gf_counts h 105 dX7_access_105 kw_369 ?_
          refine g_iconst h 108 dX7_access_108 ?_
          refine g_dup2 h 109 dX7_access_109 (show (0 : Nat) ≠ 2 by decide) (show (19 : Nat) ≠ 2 by decide) ?_
          refine al_counts h 110 dX7_access_110 (by omega) ?_
          refine g_iconst h 111 dX7_access_111 ?_
          refine g_iadd h 112 dX7_access_112 ?_
          obtain ⟨s7, es7, hF⟩ := bn_ex hF
          refine as_counts h 113 dX7_access_113 (by omega) ?_
          rw [← es7]
          refine G_typ fun hT_s7 => ?_
          have t7 : (-1) ≤ s7 9 (32 * a_space + a_address) ∧ s7 9 (32 * a_space + a_address) ≤ 23 := hT_s7.1 9 (32 * a_space + a_address)
          refine g_aloadq h 114 dX7_access_114 rfl rfl ?_
          refine gf_Entry_page h 116 dX7_access_116 kw_213 (by omega) ?_
          refine g_astore h 119 dX7_access_119 (Nat.le_of_ble_eq_true rfl) rfl (L' := [(10, 0), (3, a_cache), (8, a_space), (0, a_address), (0, a_value), (4, 32 * a_space + a_address), (0, (if a_value ≠ (-1) then 1 else 0 : Int)), (5, s7 9 (32 * a_space + a_address)), (1, 0)]) rfl ?_
          obtain ⟨k4, ek4, hF⟩ := bn_ex hF
          have J16 : ∀ (x_source1 : Int) (s8 : S2), ((-1) ≤ x_source1 ∧ x_source1 ≤ 23) → k4 x_source1 s8 = some (r0, s0) → G X 0 0 171 [(10, 0), (3, a_cache), (8, a_space), (0, a_address), (0, a_value), (4, 32 * a_space + a_address), (0, (if a_value ≠ (-1) then 1 else 0 : Int)), (5, x_source1), (1, 0)] [] (s8, m) := by
            intro x_source1 s8 q3 hF
            rw [ek4] at hF
            refine g_aload_nq h 171 dX7_access_171 rfl rfl ?_
            refine g_aload_nq h 172 dX7_access_172 rfl rfl ?_
            refine g_aloadq h 173 dX7_access_173 rfl rfl ?_
            refine g_aloadq h 175 dX7_access_175 rfl rfl ?_
            refine g_iload h 177 dX7_access_177 rfl ?_
            obtain ⟨r6, s11, c6, hF⟩ := cb_some hF
            have t13 : (-5) ≤ r6 ∧ r6 ≤ 23 := rgX7_fault c6
            refine g_callV h hE 179 dX7_access_179 (ctX7_fault hl c6) mwX7_fault kw_798 (by decide) (by decide) rfl (Nat.le_of_ble_eq_true rfl) rfl (Nat.le_of_ble_eq_true rfl) ⟨Nat.le_of_ble_eq_true rfl, Nat.le_of_ble_eq_true rfl⟩ rfl rfl ?_
            show G X 0 0 182 [(10, 0), (3, a_cache), (8, a_space), (0, a_address), (0, a_value), (4, 32 * a_space + a_address), (0, (if a_value ≠ (-1) then 1 else 0 : Int)), (5, x_source1), (1, 0)] [(0, r6)] (s11, m)
            refine g_istore h 182 dX7_access_182 (Nat.le_of_ble_eq_true rfl) rfl (L' := [(10, 0), (3, a_cache), (8, a_space), (0, a_address), (0, a_value), (4, 32 * a_space + a_address), (0, (if a_value ≠ (-1) then 1 else 0 : Int)), (5, x_source1), (0, r6)]) rfl ?_
            have J21 : r6 < 0 → G X 0 0 189 [(10, 0), (3, a_cache), (8, a_space), (0, a_address), (0, a_value), (4, 32 * a_space + a_address), (0, (if a_value ≠ (-1) then 1 else 0 : Int)), (5, x_source1), (0, r6)] [] (s11, m) := by
              intro h27
              have hF := ite_t h27 hF
              refine g_iload h 189 dX7_access_189 rfl ?_
              obtain ⟨e1, e2⟩ := some_2 hF
              rw [← e1, ← e2] at hE
              exact g_iret h 191 dX7_access_191 hE rfl rfl ⟨(Nat.le_of_ble_eq_true rfl), (Nat.le_of_ble_eq_true rfl)⟩
            have J22 : ¬ (r6 < 0) → G X 0 0 192 [(10, 0), (3, a_cache), (8, a_space), (0, a_address), (0, a_value), (4, 32 * a_space + a_address), (0, (if a_value ≠ (-1) then 1 else 0 : Int)), (5, x_source1), (0, r6)] [] (s11, m) := by
              intro h28
              have hF := ite_f h28 hF
              refine G_typ fun hT_s11 => ?_
              have t14 : (-1) ≤ s11 9 (32 * a_space + a_address) ∧ s11 9 (32 * a_space + a_address) ≤ 23 := hT_s11.1 9 (32 * a_space + a_address)
              have J23 : s11 9 (32 * a_space + a_address) < 0 → G X 0 0 200 [(10, 0), (3, a_cache), (8, a_space), (0, a_address), (0, a_value), (4, 32 * a_space + a_address), (0, (if a_value ≠ (-1) then 1 else 0 : Int)), (5, x_source1), (0, r6)] [] (s11, m) := by
                intro h30
                have hF := ite_t h30 hF
                refine g_bipush h 200 dX7_access_200 (by decide) ?_
                obtain ⟨e1, e2⟩ := some_2 hF
                rw [← e1, ← e2] at hE
                exact g_iret h 202 dX7_access_202 hE rfl rfl ⟨(Nat.le_of_ble_eq_true rfl), (Nat.le_of_ble_eq_true rfl)⟩
              have J24 : ¬ (s11 9 (32 * a_space + a_address) < 0) → G X 0 0 203 [(10, 0), (3, a_cache), (8, a_space), (0, a_address), (0, a_value), (4, 32 * a_space + a_address), (0, (if a_value ≠ (-1) then 1 else 0 : Int)), (5, x_source1), (0, r6)] [] (s11, m) := by
                intro h31
                have hF := ite_f h31 hF
                refine g_aload_nq h 203 dX7_access_203 rfl rfl ?_
                refine g_aloadq h 204 dX7_access_204 rfl rfl ?_
                refine g_aloadq h 206 dX7_access_206 rfl rfl ?_
                refine gf_Entry_page h 208 dX7_access_208 kw_213 (by omega) ?_
                obtain ⟨r7, s12, c7, hF⟩ := cb_some hF
                refine g_callV h hE 211 dX7_access_211 (ctX0_take hl c7) mwX0_take kw_809 (by decide) (show _ ∧ _ < (2 : Int) by omega) rfl (Nat.le_of_ble_eq_true rfl) rfl (Nat.le_of_ble_eq_true rfl) ⟨Nat.le_of_ble_eq_true rfl, Nat.le_of_ble_eq_true rfl⟩ rfl rfl ?_
                show G X 0 0 214 [(10, 0), (3, a_cache), (8, a_space), (0, a_address), (0, a_value), (4, 32 * a_space + a_address), (0, (if a_value ≠ (-1) then 1 else 0 : Int)), (5, x_source1), (0, r6)] [] (s12, m)
                refine G_weak (L' := [(10, 0), (3, a_cache), (8, a_space), (0, a_address), (0, a_value), (4, 32 * a_space + a_address), (0, (if a_value ≠ (-1) then 1 else 0 : Int)), (1, 0), (1, 0)]) ⟨Or.inr rfl, Or.inr rfl, Or.inr rfl, Or.inr rfl, Or.inr rfl, Or.inr rfl, Or.inr rfl, Or.inl rfl, Or.inl rfl, trivial⟩ ?_
                exact J15 _ hF
              refine g_aloadq h 192 dX7_access_192 rfl rfl ?_
              refine gf_Entry_page h 194 dX7_access_194 kw_213 (by omega) ?_
              refine g_ifnonnull h 197 203 dX7_access_197 (by decide) (fun h29 => ?_) (fun h29 => ?_)
              · exact J24 (Int.not_lt.mpr h29)
              · exact J23 h29
            refine g_iload h 184 dX7_access_184 rfl ?_
            refine g_if_ge h 186 192 (gRi (by omega)) dX7_access_186 (by decide) (fun h26 => ?_) (fun h26 => ?_)
            · exact J22 (Int.not_lt.mpr h26)
            · exact J21 h26
          have t8 : 0 ≤ s7 8 (32 * a_space + a_address) ∧ s7 8 (32 * a_space + a_address) ≤ 2 := hT_s7.1 8 (32 * a_space + a_address)
          have t9 : (-1) ≤ s7 4 (32 * a_space + a_address) ∧ s7 4 (32 * a_space + a_address) ≤ 2 := hT_s7.1 4 (32 * a_space + a_address)
          have J17 : (s7 8 (32 * a_space + a_address) = 0) ∧ (s7 4 (32 * a_space + a_address) ≠ (-1)) → G X 0 0 138 [(10, 0), (3, a_cache), (8, a_space), (0, a_address), (0, a_value), (4, 32 * a_space + a_address), (0, (if a_value ≠ (-1) then 1 else 0 : Int)), (5, s7 9 (32 * a_space + a_address)), (1, 0)] [] (s7, m) := by
            intro h21
            have hF := ite_t h21 hF
            refine g_aload_nq h 138 dX7_access_138 rfl rfl ?_
            refine g_aloadq h 139 dX7_access_139 rfl rfl ?_
            refine gf_Entry_file h 141 dX7_access_141 kw_200 (by omega) ?_
            have t10 : 0 ≤ s7 5 (32 * a_space + a_address) ∧ s7 5 (32 * a_space + a_address) ≤ 7 := hT_s7.1 5 (32 * a_space + a_address)
            refine g_aloadq h 144 dX7_access_144 rfl rfl ?_
            refine gf_Entry_index h 146 dX7_access_146 kw_203 (by omega) ?_
            refine g_aload_nq h 149 dX7_access_149 rfl rfl ?_
            obtain ⟨r4, s9, c4, hF⟩ := cb_some hF
            have t11 : (-5) ≤ r4 ∧ r4 ≤ 23 := rgX7_cachedFrame c4
            refine g_callV h hE 150 dX7_access_150 (ctX7_cachedFrame hl c4) mwX7_cachedFrame kw_704 (by decide) (by decide) rfl (Nat.le_of_ble_eq_true rfl) rfl (Nat.le_of_ble_eq_true rfl) ⟨Nat.le_of_ble_eq_true rfl, Nat.le_of_ble_eq_true rfl⟩ rfl rfl ?_
            show G X 0 0 153 [(10, 0), (3, a_cache), (8, a_space), (0, a_address), (0, a_value), (4, 32 * a_space + a_address), (0, (if a_value ≠ (-1) then 1 else 0 : Int)), (5, s7 9 (32 * a_space + a_address)), (1, 0)] [(0, r4)] (s9, m)
            refine g_istore h 153 dX7_access_153 (Nat.le_of_ble_eq_true rfl) rfl (L' := [(10, 0), (3, a_cache), (8, a_space), (0, a_address), (0, a_value), (4, 32 * a_space + a_address), (0, (if a_value ≠ (-1) then 1 else 0 : Int)), (5, s7 9 (32 * a_space + a_address)), (0, r4)]) rfl ?_
            refine g_aload_nq h 155 dX7_access_155 rfl rfl ?_
            refine g_iload h 156 dX7_access_156 rfl ?_
            obtain ⟨r5, s10, c5, hF⟩ := cb_some hF
            have t12 : (-1) ≤ r5 ∧ r5 ≤ 23 := rgX7_pageIn c5
            refine g_callV h hE 158 dX7_access_158 (ctX7_pageIn hl c5) mwX7_pageIn kw_790 (by decide) (by decide) rfl (Nat.le_of_ble_eq_true rfl) rfl (Nat.le_of_ble_eq_true rfl) ⟨Nat.le_of_ble_eq_true rfl, Nat.le_of_ble_eq_true rfl⟩ rfl rfl ?_
            show G X 0 0 161 [(10, 0), (3, a_cache), (8, a_space), (0, a_address), (0, a_value), (4, 32 * a_space + a_address), (0, (if a_value ≠ (-1) then 1 else 0 : Int)), (5, s7 9 (32 * a_space + a_address)), (0, r4)] [(5, r5)] (s10, m)
            refine g_astore h 161 dX7_access_161 (Nat.le_of_ble_eq_true rfl) rfl (L' := [(10, 0), (3, a_cache), (8, a_space), (0, a_address), (0, a_value), (4, 32 * a_space + a_address), (0, (if a_value ≠ (-1) then 1 else 0 : Int)), (5, r5), (0, r4)]) rfl ?_
            have J19 : r5 < 0 → G X 0 0 168 [(10, 0), (3, a_cache), (8, a_space), (0, a_address), (0, a_value), (4, 32 * a_space + a_address), (0, (if a_value ≠ (-1) then 1 else 0 : Int)), (5, r5), (0, r4)] [] (s10, m) := by
              intro h23
              have hF := ite_t h23 hF
              refine g_iload h 168 dX7_access_168 rfl ?_
              obtain ⟨e1, e2⟩ := some_2 hF
              rw [← e1, ← e2] at hE
              exact g_iret h 170 dX7_access_170 hE rfl rfl ⟨(Nat.le_of_ble_eq_true rfl), (Nat.le_of_ble_eq_true rfl)⟩
            have J20 : ¬ (r5 < 0) → G X 0 0 171 [(10, 0), (3, a_cache), (8, a_space), (0, a_address), (0, a_value), (4, 32 * a_space + a_address), (0, (if a_value ≠ (-1) then 1 else 0 : Int)), (5, r5), (0, r4)] [] (s10, m) := by
              intro h24
              have hF := ite_f h24 hF
              refine G_weak (L' := [(10, 0), (3, a_cache), (8, a_space), (0, a_address), (0, a_value), (4, 32 * a_space + a_address), (0, (if a_value ≠ (-1) then 1 else 0 : Int)), (5, r5), (1, 0)]) ⟨Or.inr rfl, Or.inr rfl, Or.inr rfl, Or.inr rfl, Or.inr rfl, Or.inr rfl, Or.inr rfl, Or.inr rfl, Or.inl rfl, trivial⟩ ?_
              exact J16 _ _ (by omega) hF
            refine g_aloadq h 163 dX7_access_163 rfl rfl ?_
            refine g_ifnonnull h 165 171 dX7_access_165 (by decide) (fun h22 => ?_) (fun h22 => ?_)
            · exact J20 (Int.not_lt.mpr h22)
            · exact J19 h22
          have J18 : ¬ ((s7 8 (32 * a_space + a_address) = 0) ∧ (s7 4 (32 * a_space + a_address) ≠ (-1))) → G X 0 0 171 [(10, 0), (3, a_cache), (8, a_space), (0, a_address), (0, a_value), (4, 32 * a_space + a_address), (0, (if a_value ≠ (-1) then 1 else 0 : Int)), (5, s7 9 (32 * a_space + a_address)), (1, 0)] [] (s7, m) := by
            intro h25
            have hF := ite_f h25 hF
            exact J16 _ _ (by omega) hF
          refine g_aloadq h 121 dX7_access_121 rfl rfl ?_
          refine gf_Entry_state h 123 dX7_access_123 kw_211 (by omega) ?_
          refine g_if_ne h 126 171 (gRi (by omega)) dX7_access_126 (by decide) (fun h19 => ?_) (fun h19 => ?_)
          · exact J18 (fun q => h19 q.1)
          · refine g_aloadq h 129 dX7_access_129 rfl rfl ?_
            refine gf_Entry_file h 131 dX7_access_131 kw_200 (by omega) ?_
            refine g_iconst h 134 dX7_access_134 ?_
            refine g_icmp_eq h 135 171 (gRi (by omega)) (gRi (by omega)) dX7_access_135 (by decide) (fun h20 => ?_) (fun h20 => ?_)
            · exact J18 (fun q => (fun q => q h20) q.2)
            · exact J17 ⟨h19, h20⟩
        · have hF := ite_t h18 hF
          refine g_aload_nq h 91 dX7_access_91 rfl rfl ?_
          refine gf_counts h 92 dX7_access_92 kw_369 ?_
          refine g_iconst h 95 dX7_access_95 ?_
          refine g_dup2 h 96 dX7_access_96 (show (0 : Nat) ≠ 2 by decide) (show (19 : Nat) ≠ 2 by decide) ?_
          refine al_counts h 97 dX7_access_97 (by omega) ?_
          refine g_iconst h 98 dX7_access_98 ?_
          refine g_iadd h 99 dX7_access_99 ?_
          obtain ⟨s13, es13, hF⟩ := bn_ex hF
          refine as_counts h 100 dX7_access_100 (by omega) ?_
          rw [← es13]
          refine g_goto h 101 214 dX7_access_101 (by decide) ?_
          exact J15 _ hF
      refine g_aloadq h 58 dX7_access_58 rfl rfl ?_
      refine gf_Entry_rights h 60 dX7_access_60 kw_196 (by omega) ?_
      suffices J12 : ∀ v2 : Int, v2 = (if a_value ≠ (-1) then 2 else 1 : Int) → G X 0 0 73 [(10, 0), (3, a_cache), (8, a_space), (0, a_address), (0, a_value), (4, 32 * a_space + a_address), (0, (if a_value ≠ (-1) then 1 else 0 : Int)), (1, 0), (1, 0)] [(0, v2), (0, s3 3 (32 * a_space + a_address))] (s3, m) by
        have J13 : a_value ≠ (-1) → G X 0 0 68 [(10, 0), (3, a_cache), (8, a_space), (0, a_address), (0, a_value), (4, 32 * a_space + a_address), (0, (if a_value ≠ (-1) then 1 else 0 : Int)), (1, 0), (1, 0)] [(0, s3 3 (32 * a_space + a_address))] (s3, m) := by
          intro h13
          refine g_iconst h 68 dX7_access_68 ?_
          refine g_goto h 69 73 dX7_access_69 (by decide) ?_
          exact J12 _ (if_pos h13).symm
        have J14 : ¬ (a_value ≠ (-1)) → G X 0 0 72 [(10, 0), (3, a_cache), (8, a_space), (0, a_address), (0, a_value), (4, 32 * a_space + a_address), (0, (if a_value ≠ (-1) then 1 else 0 : Int)), (1, 0), (1, 0)] [(0, s3 3 (32 * a_space + a_address))] (s3, m) := by
          intro h14
          refine g_iconst h 72 dX7_access_72 ?_
          exact J12 _ (if_neg h14).symm
        refine g_iload h 63 dX7_access_63 rfl ?_
        refine g_if_eq h 65 72 (gRi gR_ite) dX7_access_65 (by decide) (fun h12 => ?_) (fun h12 => ?_)
        · exact J14 (iz_f h12)
        · exact J13 (iz_t h12)
      intro v2 e2
      subst e2
      refine g_iand h 73 dX7_access_73 ?_
      refine g_if_ne h 74 80 (gRi (by omega)) dX7_access_74 (by decide) (fun h15 => ?_) (fun h15 => ?_)
      · exact J11 h15
      · exact J10 h15
    refine G_typ fun hT_s1 => ?_
    have t2 : 0 ≤ s1 2 (32 * a_space + a_address) ∧ s1 2 (32 * a_space + a_address) ≤ 1 := hT_s1.1 2 (32 * a_space + a_address)
    obtain ⟨q1, hF⟩ := gd_some hF
    have J5 : ¬ (s1 2 (32 * a_space + a_address) ≠ 0) → G X 0 0 34 [(10, 0), (3, a_cache), (8, a_space), (0, a_address), (0, a_value), (4, 32 * a_space + a_address), (1, 0), (1, 0), (1, 0)] [] (s1, m) := by
      intro h6
      have hF := ite_t h6 hF
      refine g_aload_nq h 34 dX7_access_34 rfl rfl ?_
      refine g_iload_n h 35 dX7_access_35 rfl ?_
      obtain ⟨r2, s4, c2, hF⟩ := cb_some hF
      have t3 : 0 ≤ r2 ∧ r2 ≤ 1 := rgX5_grow c2
      refine g_callV h hE 36 dX7_access_36 (ctX5_grow hl c2) mwX5_grow kw_695 (by decide) (show _ ∧ _ < (6 : Int) by omega) rfl (Nat.le_of_ble_eq_true rfl) rfl (Nat.le_of_ble_eq_true rfl) ⟨Nat.le_of_ble_eq_true rfl, Nat.le_of_ble_eq_true rfl⟩ rfl rfl ?_
      show G X 0 0 39 [(10, 0), (3, a_cache), (8, a_space), (0, a_address), (0, a_value), (4, 32 * a_space + a_address), (1, 0), (1, 0), (1, 0)] [(0, r2)] (s4, m)
      refine g_if_ne h 39 45 (gRi (by omega)) dX7_access_39 (by decide) (fun h7 => ?_) (fun h7 => ?_)
      · have hF := ite_t h7 hF
        exact J4 _ hF
      · have hF := ite_f (fun q => q h7) hF
        exact J3 _ hF
    have J6 : ¬ (¬ (s1 2 (32 * a_space + a_address) ≠ 0)) → G X 0 0 45 [(10, 0), (3, a_cache), (8, a_space), (0, a_address), (0, a_value), (4, 32 * a_space + a_address), (1, 0), (1, 0), (1, 0)] [] (s1, m) := by
      intro h8
      have hF := ite_f h8 hF
      exact J4 _ hF
    refine g_aloadq h 26 dX7_access_26 rfl rfl ?_
    refine gf_Entry_mapped h 28 dX7_access_28 kw_194 (by omega) ?_
    refine g_if_ne h 31 45 (gRi (by omega)) dX7_access_31 (by decide) (fun h5 => ?_) (fun h5 => ?_)
    · exact J6 (fun q => q h5)
    · exact J5 (fun q => q h5)
  refine g_iload_n h 5 dX7_access_5 rfl ?_
  refine g_if_lt h 6 15 (gRi (by omega)) dX7_access_6 (by decide) (fun h1 => ?_) (fun h1 => ?_)
  · exact J1 (Or.inl h1)
  · refine g_iload_n h 9 dX7_access_9 rfl ?_
    refine g_bipush h 10 dX7_access_10 (by decide) ?_
    refine g_icmp_lt h 12 18 (gRi (by omega)) (gRi (by omega)) dX7_access_12 (by decide) (fun h2 => ?_) (fun h2 => ?_)
    · exact J2 (fun q => q.elim (Int.not_lt.mpr h1) (Int.not_le.mpr h2))
    · exact J1 (Or.inr h2)
-- Pagewright.accessFile
def FX7_accessFile (a_file a_index a_value : Int) (s : S2) : Option (Int × S2) :=
  rgd (-2147483648) 2147483647 <| gd (0 ≤ a_file ∧ a_file ≤ 2) <| gd (0 ≤ a_index ∧ a_index ≤ 7) <| gd ((-1) ≤ a_value ∧ a_value ≤ 99999) <| cb (FX7_cachedFrame a_file a_index (-1) s) fun r1 s1 => cb (FX7_pageIn r1 s1) fun r2 s2 => bn (fun (v1 : Int) (s3 : S2) => some (v1, s3)) fun k1 => if r2 < 0 then k1 r1 s2 else cb (FX7_touch r2 a_value s2) fun r3 s4 => k1 r3 s4
theorem rgX7_accessFile {a_file a_index a_value : Int} {s s0 : S2} {r0 : Int} (hF : FX7_accessFile a_file a_index a_value s = some (r0, s0)) : (-2147483648) ≤ r0 ∧ r0 ≤ 2147483647 := (rgd_some hF).2
set_option maxRecDepth 100000 in
set_option maxHeartbeats 4000000 in
theorem ctX7_accessFile {l : Launch} {w : gW} {bs : Nat} (hl : l.stackTraces = false) {a_file a_index a_value : Int} {s m s0 : S2} {r0 : Int} (hF : FX7_accessFile a_file a_index a_value s = some (r0, s0)) : gMet l w bs yX7_accessFile cX7_accessFile 6 (some FieldType.int) 6 0 [(10, 0), (0, a_file), (0, a_index), (0, a_value)] (s, m) 0 (some (0, r0)) (s0, m) := by
  unfold FX7_accessFile at hF
  obtain ⟨hF, hr⟩ := rgd_some hF
  obtain ⟨q_a_file, hF⟩ := gd_some hF
  obtain ⟨q_a_index, hF⟩ := gd_some hF
  obtain ⟨q_a_value, hF⟩ := gd_some hF
  refine g_start hl (by decide) (Nat.le_of_ble_eq_true rfl) rfl fun X h hE => ?_
  have h : gOk X "Pagewright" cX7_accessFile 6 6 0 0 := h
  have hE : gEnd X l w bs 0 (some FieldType.int) 0 (some (0, r0)) (s0, m) := hE
  show G X 0 0 0 [(10, 0), (0, a_file), (0, a_index), (0, a_value), (1, 0), (1, 0)] [] (s, m)
  refine g_aload_nq h 0 dX7_accessFile_0 rfl rfl ?_
  refine g_iload_n h 1 dX7_accessFile_1 rfl ?_
  refine g_iload_n h 2 dX7_accessFile_2 rfl ?_
  refine g_nullq h 3 8 rfl dX7_accessFile_3 ?_
  obtain ⟨r1, s1, c1, hF⟩ := cb_some hF
  have t1 : (-5) ≤ r1 ∧ r1 ≤ 23 := rgX7_cachedFrame c1
  refine g_callV h hE 4 dX7_accessFile_4 (ctX7_cachedFrame hl c1) mwX7_cachedFrame kw_704 (by decide) (by decide) rfl (Nat.le_of_ble_eq_true rfl) rfl (Nat.le_of_ble_eq_true rfl) ⟨Nat.le_of_ble_eq_true rfl, Nat.le_of_ble_eq_true rfl⟩ rfl rfl ?_
  show G X 0 0 7 [(10, 0), (0, a_file), (0, a_index), (0, a_value), (1, 0), (1, 0)] [(0, r1)] (s1, m)
  refine g_istore h 7 dX7_accessFile_7 (Nat.le_of_ble_eq_true rfl) rfl (L' := [(10, 0), (0, a_file), (0, a_index), (0, a_value), (0, r1), (1, 0)]) rfl ?_
  refine g_aload_nq h 9 dX7_accessFile_9 rfl rfl ?_
  refine g_iload h 10 dX7_accessFile_10 rfl ?_
  obtain ⟨r2, s2, c2, hF⟩ := cb_some hF
  have t2 : (-1) ≤ r2 ∧ r2 ≤ 23 := rgX7_pageIn c2
  refine g_callV h hE 12 dX7_accessFile_12 (ctX7_pageIn hl c2) mwX7_pageIn kw_790 (by decide) (by decide) rfl (Nat.le_of_ble_eq_true rfl) rfl (Nat.le_of_ble_eq_true rfl) ⟨Nat.le_of_ble_eq_true rfl, Nat.le_of_ble_eq_true rfl⟩ rfl rfl ?_
  show G X 0 0 15 [(10, 0), (0, a_file), (0, a_index), (0, a_value), (0, r1), (1, 0)] [(5, r2)] (s2, m)
  refine g_astore h 15 dX7_accessFile_15 (Nat.le_of_ble_eq_true rfl) rfl (L' := [(10, 0), (0, a_file), (0, a_index), (0, a_value), (0, r1), (5, r2)]) rfl ?_
  obtain ⟨k1, ek1, hF⟩ := bn_ex hF
  have J1 : ∀ (v1 : Int) (s3 : S2), ((-2147483648) ≤ v1 ∧ v1 ≤ 2147483647) → k1 v1 s3 = some (r0, s0) → G X 0 0 33 [(10, 0), (0, a_file), (0, a_index), (0, a_value), (0, r1), (5, r2)] [(0, v1)] (s3, m) := by
    intro v1 s3 q1 hF
    rw [ek1] at hF
    obtain ⟨e1, e2⟩ := some_2 hF
    rw [← e1, ← e2] at hE
    exact g_iret h 33 dX7_accessFile_33 hE rfl rfl ⟨(Nat.le_of_ble_eq_true rfl), (Nat.le_of_ble_eq_true rfl)⟩
  have J2 : r2 < 0 → G X 0 0 22 [(10, 0), (0, a_file), (0, a_index), (0, a_value), (0, r1), (5, r2)] [] (s2, m) := by
    intro h2
    have hF := ite_t h2 hF
    refine g_iload h 22 dX7_accessFile_22 rfl ?_
    refine g_goto h 24 33 dX7_accessFile_24 (by decide) ?_
    exact J1 _ _ (by omega) hF
  have J3 : ¬ (r2 < 0) → G X 0 0 27 [(10, 0), (0, a_file), (0, a_index), (0, a_value), (0, r1), (5, r2)] [] (s2, m) := by
    intro h3
    have hF := ite_f h3 hF
    refine g_aloadq h 27 dX7_accessFile_27 rfl rfl ?_
    refine g_iload_n h 29 dX7_accessFile_29 rfl ?_
    obtain ⟨r3, s4, c3, hF⟩ := cb_some hF
    have t3 : (-2147483648) ≤ r3 ∧ r3 ≤ 2147483647 := rgX7_touch c3
    refine g_callS h hE 30 dX7_accessFile_30 (ctX7_touch hl c3) mwX7_touch kw_816 rfl (Nat.le_of_ble_eq_true rfl) rfl (Nat.le_of_ble_eq_true rfl) ⟨Nat.le_of_ble_eq_true rfl, Nat.le_of_ble_eq_true rfl⟩ rfl rfl ?_
    show G X 0 0 33 [(10, 0), (0, a_file), (0, a_index), (0, a_value), (0, r1), (5, r2)] [(0, r3)] (s4, m)
    exact J1 _ _ (by omega) hF
  refine g_aloadq h 17 dX7_accessFile_17 rfl rfl ?_
  refine g_ifnonnull h 19 27 dX7_accessFile_19 (by decide) (fun h1 => ?_) (fun h1 => ?_)
  · exact J3 (Int.not_lt.mpr h1)
  · exact J2 h1
-- Pagewright.about
def FX7_about (a_space a_what : Int) (s : S2) : Option (Int × S2) :=
  rgx <| gd ((-2147483648) ≤ a_space ∧ a_space ≤ 2147483647) <| gd ((-2147483648) ≤ a_what ∧ a_what ≤ 2147483647) <| cb (FX7_known a_space s) fun r1 s1 => if gxc r1 ≠ 0 then some (r1, s1) else cb (FX7_demand (if (0 ≤ a_what) ∧ (a_what ≤ 5) then 1 else 0 : Int) s1) fun r2 s2 => if gxc r2 ≠ 0 then some (r2, s2) else if a_what = 0 then some ((if s2 35 r1 ≠ 0 then 1 else 0 : Int), s2) else if a_what = 1 then cb (FX5_regions r1 s2) fun r3 s3 => some (r3, s3) else if a_what = 2 then cb (FX5_having r1 1 s2) fun r4 s4 => some (r4, s4) else if a_what = 3 then cb (FX5_having r1 2 s2) fun r5 s5 => some (r5, s5) else if a_what = 4 then cb (FX7_blocks r1 s2) fun r6 s6 => some (r6, s6) else cb (FX5_score r1 s2) fun r7 s7 => some (r7, s7)
theorem rgX7_about {a_space a_what : Int} {s s0 : S2} {r0 : Int} (hF : FX7_about a_space a_what s = some (r0, s0)) : gxc r0 ≠ 0 ∨ (-2147483648) ≤ r0 ∧ r0 ≤ 2147483647 := (rgx_some hF).2
set_option maxRecDepth 100000 in
set_option maxHeartbeats 4000000 in
theorem ctX7_about {l : Launch} {w : gW} {bs : Nat} (hl : l.stackTraces = false) {a_space a_what : Int} {s m s0 : S2} {r0 : Int} (hF : FX7_about a_space a_what s = some (r0, s0)) : gMet l w bs yX7_about cX7_about 4 (some FieldType.int) 7 2 [(10, 0), (0, a_space), (0, a_what)] (s, m) (gxc r0) (some (0, r0)) (s0, m) := by
  unfold FX7_about at hF
  obtain ⟨hF, hr⟩ := rgx_some hF
  obtain ⟨q_a_space, hF⟩ := gd_some hF
  obtain ⟨q_a_what, hF⟩ := gd_some hF
  refine g_start hl (by decide) (Nat.le_of_ble_eq_true rfl) rfl fun X h hE => ?_
  have h : gOk X "Pagewright" cX7_about 4 7 2 12 := h
  have hE : gEnd X l w bs 2 (some FieldType.int) (gxc r0) (some (0, r0)) (s0, m) := hE
  show G X 0 0 0 [(10, 0), (0, a_space), (0, a_what), (1, 0)] [] (s, m)
  refine g_aload_nq h 0 dX7_about_0 rfl rfl ?_
  refine g_iload_n h 1 dX7_about_1 rfl ?_
  obtain ⟨r1, s1, c1, hF⟩ := cb_some hF
  refine g_callVX h hE 2 dX7_about_2 (ctX7_known hl c1) mwX7_known kw_515 (by decide) (by decide) rfl (Nat.le_of_ble_eq_true rfl) rfl (Nat.le_of_ble_eq_true rfl) ⟨Nat.le_of_ble_eq_true rfl, Nat.le_of_ble_eq_true rfl⟩ rfl rfl (fun x1 => ?_) (fun x1 => ?_)
  · have hF := ite_t x1 hF
    obtain ⟨e1, e2⟩ := some_2 hF
    exact ⟨by rw [e1], by rw [e2], (Nat.le_of_ble_eq_true rfl), (Nat.le_of_ble_eq_true rfl)⟩
  have hF := ite_f (fun q => q x1) hF
  have t1 : 0 ≤ r1 ∧ r1 ≤ 5 := (rgX7_known c1).resolve_left (fun q => q x1)
  show G X 1 6 5 [(10, 0), (0, a_space), (0, a_what), (1, 0)] [(8, r1)] (s1, m)
  refine g_astore_n h 5 dX7_about_5 (Nat.le_of_ble_eq_true rfl) rfl (L' := [(10, 0), (0, a_space), (0, a_what), (8, r1)]) rfl ?_
  refine g_iload_n h 6 dX7_about_6 rfl ?_
  refine g_iconst h 7 dX7_about_7 ?_
  refine g_iconst h 8 dX7_about_8 ?_
  refine g_callS h hE 9 dX7_about_9 (cpX7_within (a_number := a_what) (a_lowest := 0) (a_highest := 5) hl (by omega) (by omega) (by omega)) mwX7_within kw_410 rfl (Nat.le_of_ble_eq_true rfl) rfl (Nat.le_of_ble_eq_true rfl) ⟨Nat.le_of_ble_eq_true rfl, Nat.le_of_ble_eq_true rfl⟩ rfl rfl ?_
  show G X 1 6 12 [(10, 0), (0, a_space), (0, a_what), (8, r1)] [(0, (if (0 ≤ a_what) ∧ (a_what ≤ 5) then 1 else 0 : Int))] (s1, m)
  obtain ⟨r2, s2, c2, hF⟩ := cb_some hF
  refine g_callSX h hE 12 dX7_about_12 (ctX7_demand hl c2) mwX7_demand kw_413 rfl (Nat.le_of_ble_eq_true rfl) rfl (Nat.le_of_ble_eq_true rfl) ⟨Nat.le_of_ble_eq_true rfl, Nat.le_of_ble_eq_true rfl⟩ rfl rfl (fun x2 => ?_) (fun x2 => ?_)
  · have hF := ite_t x2 hF
    obtain ⟨e1, e2⟩ := some_2 hF
    exact ⟨by rw [e1], by rw [e2], (Nat.le_of_ble_eq_true rfl), (Nat.le_of_ble_eq_true rfl)⟩
  have hF := ite_f (fun q => q x2) hF
  show G X 2 12 15 [(10, 0), (0, a_space), (0, a_what), (8, r1)] [] (s2, m)
  refine g_iload_n h 15 dX7_about_15 rfl ?_
  by_cases h1 : a_what = 0
  · have hF := ite_t h1 hF
    refine g_tsIn h 16 dX7_about_16 0 52 h1 (by decide) (by decide) 36 (by decide) (by decide) ?_
    refine G_typ fun hT_s2 => ?_
    have t2 : 0 ≤ s2 35 r1 ∧ s2 35 r1 ≤ 1 := hT_s2.1 35 r1
    refine g_aload_nq h 52 dX7_about_52 rfl rfl ?_
    refine gf_Space_living h 53 dX7_about_53 kw_259 (by omega) ?_
    refine g_callS h hE 56 dX7_about_56 (cpX7_asNumber (a_is := s2 35 r1) hl (by omega)) mwX7_asNumber kw_948 rfl (Nat.le_of_ble_eq_true rfl) rfl (Nat.le_of_ble_eq_true rfl) ⟨Nat.le_of_ble_eq_true rfl, Nat.le_of_ble_eq_true rfl⟩ rfl rfl ?_
    show G X 2 12 59 [(10, 0), (0, a_space), (0, a_what), (8, r1)] [(0, (if s2 35 r1 ≠ 0 then 1 else 0 : Int))] (s2, m)
    obtain ⟨e1, e2⟩ := some_2 hF
    rw [← e1, ← e2, gxc_0 (gRi (by omega))] at hE
    exact g_iret h 59 dX7_about_59 hE rfl rfl ⟨(Nat.le_of_ble_eq_true rfl), (Nat.le_of_ble_eq_true rfl)⟩
  have hF := ite_f h1 hF
  by_cases h2 : a_what = 1
  · have hF := ite_t h2 hF
    refine g_tsIn h 16 dX7_about_16 1 60 h2 (by decide) (by decide) 44 (by decide) (by decide) ?_
    refine g_aload_nq h 60 dX7_about_60 rfl rfl ?_
    obtain ⟨r3, s3, c3, hF⟩ := cb_some hF
    have t3 : 0 ≤ r3 ∧ r3 ≤ 32 := rgX5_regions c3
    refine g_callV h hE 61 dX7_about_61 (ctX5_regions hl c3) mwX5_regions kw_546 (by decide) (show _ ∧ _ < (6 : Int) by omega) rfl (Nat.le_of_ble_eq_true rfl) rfl (Nat.le_of_ble_eq_true rfl) ⟨Nat.le_of_ble_eq_true rfl, Nat.le_of_ble_eq_true rfl⟩ rfl rfl ?_
    show G X 2 12 64 [(10, 0), (0, a_space), (0, a_what), (8, r1)] [(0, r3)] (s3, m)
    obtain ⟨e1, e2⟩ := some_2 hF
    rw [← e1, ← e2, gxc_0 (gRi (by omega))] at hE
    exact g_iret h 64 dX7_about_64 hE rfl rfl ⟨(Nat.le_of_ble_eq_true rfl), (Nat.le_of_ble_eq_true rfl)⟩
  have hF := ite_f h2 hF
  by_cases h3 : a_what = 2
  · have hF := ite_t h3 hF
    refine g_tsIn h 16 dX7_about_16 2 65 h3 (by decide) (by decide) 49 (by decide) (by decide) ?_
    refine g_aload_nq h 65 dX7_about_65 rfl rfl ?_
    refine g_iconst h 66 dX7_about_66 ?_
    obtain ⟨r4, s4, c4, hF⟩ := cb_some hF
    have t4 : 0 ≤ r4 ∧ r4 ≤ 32 := rgX5_having c4
    refine g_callV h hE 67 dX7_about_67 (ctX5_having hl c4) mwX5_having kw_633 (by decide) (show _ ∧ _ < (6 : Int) by omega) rfl (Nat.le_of_ble_eq_true rfl) rfl (Nat.le_of_ble_eq_true rfl) ⟨Nat.le_of_ble_eq_true rfl, Nat.le_of_ble_eq_true rfl⟩ rfl rfl ?_
    show G X 2 12 70 [(10, 0), (0, a_space), (0, a_what), (8, r1)] [(0, r4)] (s4, m)
    obtain ⟨e1, e2⟩ := some_2 hF
    rw [← e1, ← e2, gxc_0 (gRi (by omega))] at hE
    exact g_iret h 70 dX7_about_70 hE rfl rfl ⟨(Nat.le_of_ble_eq_true rfl), (Nat.le_of_ble_eq_true rfl)⟩
  have hF := ite_f h3 hF
  by_cases h4 : a_what = 3
  · have hF := ite_t h4 hF
    refine g_tsIn h 16 dX7_about_16 3 71 h4 (by decide) (by decide) 55 (by decide) (by decide) ?_
    refine g_aload_nq h 71 dX7_about_71 rfl rfl ?_
    refine g_iconst h 72 dX7_about_72 ?_
    obtain ⟨r5, s5, c5, hF⟩ := cb_some hF
    have t5 : 0 ≤ r5 ∧ r5 ≤ 32 := rgX5_having c5
    refine g_callV h hE 73 dX7_about_73 (ctX5_having hl c5) mwX5_having kw_633 (by decide) (show _ ∧ _ < (6 : Int) by omega) rfl (Nat.le_of_ble_eq_true rfl) rfl (Nat.le_of_ble_eq_true rfl) ⟨Nat.le_of_ble_eq_true rfl, Nat.le_of_ble_eq_true rfl⟩ rfl rfl ?_
    show G X 2 12 76 [(10, 0), (0, a_space), (0, a_what), (8, r1)] [(0, r5)] (s5, m)
    obtain ⟨e1, e2⟩ := some_2 hF
    rw [← e1, ← e2, gxc_0 (gRi (by omega))] at hE
    exact g_iret h 76 dX7_about_76 hE rfl rfl ⟨(Nat.le_of_ble_eq_true rfl), (Nat.le_of_ble_eq_true rfl)⟩
  have hF := ite_f h4 hF
  by_cases h5 : a_what = 4
  · have hF := ite_t h5 hF
    refine g_tsIn h 16 dX7_about_16 4 77 h5 (by decide) (by decide) 61 (by decide) (by decide) ?_
    refine g_aload_nq h 77 dX7_about_77 rfl rfl ?_
    refine g_aload_nq h 78 dX7_about_78 rfl rfl ?_
    obtain ⟨r6, s6, c6, hF⟩ := cb_some hF
    have t6 : 0 ≤ r6 ∧ r6 ≤ 8 := rgX7_blocks c6
    refine g_callV h hE 79 dX7_about_79 (ctX7_blocks hl c6) mwX7_blocks kw_899 (by decide) (by decide) rfl (Nat.le_of_ble_eq_true rfl) rfl (Nat.le_of_ble_eq_true rfl) ⟨Nat.le_of_ble_eq_true rfl, Nat.le_of_ble_eq_true rfl⟩ rfl rfl ?_
    show G X 2 12 82 [(10, 0), (0, a_space), (0, a_what), (8, r1)] [(0, r6)] (s6, m)
    obtain ⟨e1, e2⟩ := some_2 hF
    rw [← e1, ← e2, gxc_0 (gRi (by omega))] at hE
    exact g_iret h 82 dX7_about_82 hE rfl rfl ⟨(Nat.le_of_ble_eq_true rfl), (Nat.le_of_ble_eq_true rfl)⟩
  have hF := ite_f h5 hF
  refine g_tsOut h 16 dX7_about_16 83 (gRi (by omega)) (by omega) (by decide) ?_
  refine g_aload_nq h 83 dX7_about_83 rfl rfl ?_
  obtain ⟨r7, s7, c7, hF⟩ := cb_some hF
  have t7 : (-50) ≤ r7 ∧ r7 ≤ 114 := rgX5_score c7
  refine g_callV h hE 84 dX7_about_84 (ctX5_score hl c7) mwX5_score kw_769 (by decide) (show _ ∧ _ < (6 : Int) by omega) rfl (Nat.le_of_ble_eq_true rfl) rfl (Nat.le_of_ble_eq_true rfl) ⟨Nat.le_of_ble_eq_true rfl, Nat.le_of_ble_eq_true rfl⟩ rfl rfl ?_
  show G X 2 12 87 [(10, 0), (0, a_space), (0, a_what), (8, r1)] [(0, r7)] (s7, m)
  obtain ⟨e1, e2⟩ := some_2 hF
  rw [← e1, ← e2, gxc_0 (gRi (by omega))] at hE
  exact g_iret h 87 dX7_about_87 hE rfl rfl ⟨(Nat.le_of_ble_eq_true rfl), (Nat.le_of_ble_eq_true rfl)⟩
-- Pagewright.adjust
def FX7_adjust (a_space a_by : Int) (s : S2) : Option (Int × S2) :=
  rgx <| gd ((-2147483648) ≤ a_space ∧ a_space ≤ 2147483647) <| gd ((-2147483648) ≤ a_by ∧ a_by ≤ 2147483647) <| cb (FX7_known a_space s) fun r1 s1 => if gxc r1 ≠ 0 then some (r1, s1) else cb (FX7_demand (if ((-50) ≤ a_by) ∧ (a_by ≤ 50) then 1 else 0 : Int) s1) fun r2 s2 => if gxc r2 ≠ 0 then some (r2, s2) else gd ((-50) ≤ a_by ∧ a_by ≤ 50) <| bn (upd2 s2 34 r1 a_by) fun s3 => some (s2 34 r1, s3)
theorem rgX7_adjust {a_space a_by : Int} {s s0 : S2} {r0 : Int} (hF : FX7_adjust a_space a_by s = some (r0, s0)) : gxc r0 ≠ 0 ∨ (-2147483648) ≤ r0 ∧ r0 ≤ 2147483647 := (rgx_some hF).2
set_option maxRecDepth 100000 in
set_option maxHeartbeats 4000000 in
theorem ctX7_adjust {l : Launch} {w : gW} {bs : Nat} (hl : l.stackTraces = false) {a_space a_by : Int} {s m s0 : S2} {r0 : Int} (hF : FX7_adjust a_space a_by s = some (r0, s0)) : gMet l w bs yX7_adjust cX7_adjust 5 (some FieldType.int) 7 2 [(10, 0), (0, a_space), (0, a_by)] (s, m) (gxc r0) (some (0, r0)) (s0, m) := by
  unfold FX7_adjust at hF
  obtain ⟨hF, hr⟩ := rgx_some hF
  obtain ⟨q_a_space, hF⟩ := gd_some hF
  obtain ⟨q_a_by, hF⟩ := gd_some hF
  refine g_start hl (by decide) (Nat.le_of_ble_eq_true rfl) rfl fun X h hE => ?_
  have h : gOk X "Pagewright" cX7_adjust 5 7 2 12 := h
  have hE : gEnd X l w bs 2 (some FieldType.int) (gxc r0) (some (0, r0)) (s0, m) := hE
  show G X 0 0 0 [(10, 0), (0, a_space), (0, a_by), (1, 0), (1, 0)] [] (s, m)
  refine g_aload_nq h 0 dX7_adjust_0 rfl rfl ?_
  refine g_iload_n h 1 dX7_adjust_1 rfl ?_
  obtain ⟨r1, s1, c1, hF⟩ := cb_some hF
  refine g_callVX h hE 2 dX7_adjust_2 (ctX7_known hl c1) mwX7_known kw_515 (by decide) (by decide) rfl (Nat.le_of_ble_eq_true rfl) rfl (Nat.le_of_ble_eq_true rfl) ⟨Nat.le_of_ble_eq_true rfl, Nat.le_of_ble_eq_true rfl⟩ rfl rfl (fun x1 => ?_) (fun x1 => ?_)
  · have hF := ite_t x1 hF
    obtain ⟨e1, e2⟩ := some_2 hF
    exact ⟨by rw [e1], by rw [e2], (Nat.le_of_ble_eq_true rfl), (Nat.le_of_ble_eq_true rfl)⟩
  have hF := ite_f (fun q => q x1) hF
  have t1 : 0 ≤ r1 ∧ r1 ≤ 5 := (rgX7_known c1).resolve_left (fun q => q x1)
  show G X 1 6 5 [(10, 0), (0, a_space), (0, a_by), (1, 0), (1, 0)] [(8, r1)] (s1, m)
  refine g_astore_n h 5 dX7_adjust_5 (Nat.le_of_ble_eq_true rfl) rfl (L' := [(10, 0), (0, a_space), (0, a_by), (8, r1), (1, 0)]) rfl ?_
  refine g_iload_n h 6 dX7_adjust_6 rfl ?_
  refine g_bipush h 7 dX7_adjust_7 (by decide) ?_
  refine g_bipush h 9 dX7_adjust_9 (by decide) ?_
  refine g_callS h hE 11 dX7_adjust_11 (cpX7_within (a_number := a_by) (a_lowest := (-50)) (a_highest := 50) hl (by omega) (by omega) (by omega)) mwX7_within kw_410 rfl (Nat.le_of_ble_eq_true rfl) rfl (Nat.le_of_ble_eq_true rfl) ⟨Nat.le_of_ble_eq_true rfl, Nat.le_of_ble_eq_true rfl⟩ rfl rfl ?_
  show G X 1 6 14 [(10, 0), (0, a_space), (0, a_by), (8, r1), (1, 0)] [(0, (if ((-50) ≤ a_by) ∧ (a_by ≤ 50) then 1 else 0 : Int))] (s1, m)
  obtain ⟨r2, s2, c2, hF⟩ := cb_some hF
  refine g_callSX h hE 14 dX7_adjust_14 (ctX7_demand hl c2) mwX7_demand kw_413 rfl (Nat.le_of_ble_eq_true rfl) rfl (Nat.le_of_ble_eq_true rfl) ⟨Nat.le_of_ble_eq_true rfl, Nat.le_of_ble_eq_true rfl⟩ rfl rfl (fun x2 => ?_) (fun x2 => ?_)
  · have hF := ite_t x2 hF
    obtain ⟨e1, e2⟩ := some_2 hF
    exact ⟨by rw [e1], by rw [e2], (Nat.le_of_ble_eq_true rfl), (Nat.le_of_ble_eq_true rfl)⟩
  have hF := ite_f (fun q => q x2) hF
  show G X 2 12 17 [(10, 0), (0, a_space), (0, a_by), (8, r1), (1, 0)] [] (s2, m)
  refine G_typ fun hT_s2 => ?_
  have t2 : (-50) ≤ s2 34 r1 ∧ s2 34 r1 ≤ 50 := hT_s2.1 34 r1
  refine g_aload_nq h 17 dX7_adjust_17 rfl rfl ?_
  refine gf_Space_adjusted h 18 dX7_adjust_18 kw_257 (by omega) ?_
  refine g_istore h 21 dX7_adjust_21 (Nat.le_of_ble_eq_true rfl) rfl (L' := [(10, 0), (0, a_space), (0, a_by), (8, r1), (0, s2 34 r1)]) rfl ?_
  refine g_aload_nq h 23 dX7_adjust_23 rfl rfl ?_
  refine g_iload_n h 24 dX7_adjust_24 rfl ?_
  obtain ⟨q1, hF⟩ := gd_some hF
  obtain ⟨s3, es3, hF⟩ := bn_ex hF
  refine pf_Space_adjusted h 25 dX7_adjust_25 kw_257 (by omega) (by omega) ?_
  rw [← es3]
  refine g_iload h 28 dX7_adjust_28 rfl ?_
  obtain ⟨e1, e2⟩ := some_2 hF
  rw [← e1, ← e2, gxc_0 (gRi (by omega))] at hE
  exact g_iret h 30 dX7_adjust_30 hE rfl rfl ⟨(Nat.le_of_ble_eq_true rfl), (Nat.le_of_ble_eq_true rfl)⟩
-- Pagewright.count
def FX7_count (a_what : Int) (s : S2) : Option (Int × S2) :=
  rgx <| gd ((-2147483648) ≤ a_what ∧ a_what ≤ 2147483647) <| cb (FX7_demand (if (0 ≤ a_what) ∧ (a_what ≤ 10) then 1 else 0 : Int) s) fun r1 s1 => if gxc r1 ≠ 0 then some (r1, s1) else if a_what < 8 then gd (0 ≤ a_what ∧ a_what ≤ 7) <| gd ((-2147483648) ≤ s1 48 a_what ∧ s1 48 a_what ≤ 2147483647) <| some (s1 48 a_what, s1) else if a_what = 8 then some (s1 31 0, s1) else bn (fun (v1 : Int) (s2 : S2) => some (v1, s2)) fun k1 => if a_what = 9 then cb (FX4_placesTaken s1) fun r2 s3 => k1 r2 s3 else cb (FX7_messages s1) fun r3 s4 => k1 r3 s4
theorem rgX7_count {a_what : Int} {s s0 : S2} {r0 : Int} (hF : FX7_count a_what s = some (r0, s0)) : gxc r0 ≠ 0 ∨ (-2147483648) ≤ r0 ∧ r0 ≤ 2147483647 := (rgx_some hF).2
set_option maxRecDepth 100000 in
set_option maxHeartbeats 4000000 in
theorem ctX7_count {l : Launch} {w : gW} {bs : Nat} (hl : l.stackTraces = false) {a_what : Int} {s m s0 : S2} {r0 : Int} (hF : FX7_count a_what s = some (r0, s0)) : gMet l w bs yX7_count cX7_count 2 (some FieldType.int) 7 1 [(10, 0), (0, a_what)] (s, m) (gxc r0) (some (0, r0)) (s0, m) := by
  unfold FX7_count at hF
  obtain ⟨hF, hr⟩ := rgx_some hF
  obtain ⟨q_a_what, hF⟩ := gd_some hF
  refine g_start hl (by decide) (Nat.le_of_ble_eq_true rfl) rfl fun X h hE => ?_
  have h : gOk X "Pagewright" cX7_count 2 7 1 6 := h
  have hE : gEnd X l w bs 1 (some FieldType.int) (gxc r0) (some (0, r0)) (s0, m) := hE
  show G X 0 0 0 [(10, 0), (0, a_what)] [] (s, m)
  refine g_iload_n h 0 dX7_count_0 rfl ?_
  refine g_iconst h 1 dX7_count_1 ?_
  refine g_bipush h 2 dX7_count_2 (by decide) ?_
  refine g_callS h hE 4 dX7_count_4 (cpX7_within (a_number := a_what) (a_lowest := 0) (a_highest := 10) hl (by omega) (by omega) (by omega)) mwX7_within kw_410 rfl (Nat.le_of_ble_eq_true rfl) rfl (Nat.le_of_ble_eq_true rfl) ⟨Nat.le_of_ble_eq_true rfl, Nat.le_of_ble_eq_true rfl⟩ rfl rfl ?_
  show G X 0 0 7 [(10, 0), (0, a_what)] [(0, (if (0 ≤ a_what) ∧ (a_what ≤ 10) then 1 else 0 : Int))] (s, m)
  obtain ⟨r1, s1, c1, hF⟩ := cb_some hF
  refine g_callSX h hE 7 dX7_count_7 (ctX7_demand hl c1) mwX7_demand kw_413 rfl (Nat.le_of_ble_eq_true rfl) rfl (Nat.le_of_ble_eq_true rfl) ⟨Nat.le_of_ble_eq_true rfl, Nat.le_of_ble_eq_true rfl⟩ rfl rfl (fun x1 => ?_) (fun x1 => ?_)
  · have hF := ite_t x1 hF
    obtain ⟨e1, e2⟩ := some_2 hF
    exact ⟨by rw [e1], by rw [e2], (Nat.le_of_ble_eq_true rfl), (Nat.le_of_ble_eq_true rfl)⟩
  have hF := ite_f (fun q => q x1) hF
  show G X 1 6 10 [(10, 0), (0, a_what)] [] (s1, m)
  have J1 : a_what < 8 → G X 1 6 16 [(10, 0), (0, a_what)] [] (s1, m) := by
    intro h2
    have hF := ite_t h2 hF
    obtain ⟨q1, hF⟩ := gd_some hF
    refine g_aload_nq h 16 dX7_count_16 rfl rfl ?_
    refine gf_counts h 17 dX7_count_17 kw_369 ?_
    refine g_iload_n h 20 dX7_count_20 rfl ?_
    refine al_counts h 21 dX7_count_21 (by omega) ?_
    obtain ⟨q2, hF⟩ := gd_some hF
    obtain ⟨e1, e2⟩ := some_2 hF
    rw [← e1, ← e2, gxc_0 (gRi (by omega))] at hE
    exact g_iret h 22 dX7_count_22 hE rfl rfl ⟨(Nat.le_of_ble_eq_true rfl), (Nat.le_of_ble_eq_true rfl)⟩
  have J2 : ¬ (a_what < 8) → G X 1 6 23 [(10, 0), (0, a_what)] [] (s1, m) := by
    intro h3
    have hF := ite_f h3 hF
    have J3 : a_what = 8 → G X 1 6 29 [(10, 0), (0, a_what)] [] (s1, m) := by
      intro h5
      have hF := ite_t h5 hF
      refine G_typ fun hT_s1 => ?_
      have t1 : 0 ≤ s1 31 0 ∧ s1 31 0 ≤ 8 := hT_s1.1 31 0
      refine g_aload_nq h 29 dX7_count_29 rfl rfl ?_
      refine gf_records h 30 dX7_count_30 kw_364 ?_
      refine gf_Records_used h 33 dX7_count_33 kw_167 ?_
      obtain ⟨e1, e2⟩ := some_2 hF
      rw [← e1, ← e2, gxc_0 (gRi (by omega))] at hE
      exact g_iret h 36 dX7_count_36 hE rfl rfl ⟨(Nat.le_of_ble_eq_true rfl), (Nat.le_of_ble_eq_true rfl)⟩
    have J4 : ¬ (a_what = 8) → G X 1 6 37 [(10, 0), (0, a_what)] [] (s1, m) := by
      intro h6
      have hF := ite_f h6 hF
      obtain ⟨k1, ek1, hF⟩ := bn_ex hF
      have J5 : ∀ (v1 : Int) (s2 : S2), ((-2147483648) ≤ v1 ∧ v1 ≤ 2147483647) → k1 v1 s2 = some (r0, s0) → G X 1 6 57 [(10, 0), (0, a_what)] [(0, v1)] (s2, m) := by
        intro v1 s2 q3 hF
        rw [ek1] at hF
        obtain ⟨e1, e2⟩ := some_2 hF
        rw [← e1, ← e2, gxc_0 (gRi (by omega))] at hE
        exact g_iret h 57 dX7_count_57 hE rfl rfl ⟨(Nat.le_of_ble_eq_true rfl), (Nat.le_of_ble_eq_true rfl)⟩
      have J6 : a_what = 9 → G X 1 6 43 [(10, 0), (0, a_what)] [] (s1, m) := by
        intro h8
        have hF := ite_t h8 hF
        refine g_aload_nq h 43 dX7_count_43 rfl rfl ?_
        refine gf_records h 44 dX7_count_44 kw_364 ?_
        obtain ⟨r2, s3, c2, hF⟩ := cb_some hF
        have t2 : 0 ≤ r2 ∧ r2 ≤ 10 := rgX4_placesTaken c2
        refine g_callV h hE 47 dX7_count_47 (ctX4_placesTaken hl c2) mwX4_placesTaken kw_992 (by decide) (by decide) rfl (Nat.le_of_ble_eq_true rfl) rfl (Nat.le_of_ble_eq_true rfl) ⟨Nat.le_of_ble_eq_true rfl, Nat.le_of_ble_eq_true rfl⟩ rfl rfl ?_
        show G X 1 6 50 [(10, 0), (0, a_what)] [(0, r2)] (s3, m)
        refine g_goto h 50 57 dX7_count_50 (by decide) ?_
        exact J5 _ _ (by omega) hF
      have J7 : ¬ (a_what = 9) → G X 1 6 53 [(10, 0), (0, a_what)] [] (s1, m) := by
        intro h9
        have hF := ite_f h9 hF
        refine g_aload_nq h 53 dX7_count_53 rfl rfl ?_
        obtain ⟨r3, s4, c3, hF⟩ := cb_some hF
        have t3 : 0 ≤ r3 ∧ r3 ≤ 8 := rgX7_messages c3
        refine g_callV h hE 54 dX7_count_54 (ctX7_messages hl c3) mwX7_messages kw_996 (by decide) (by decide) rfl (Nat.le_of_ble_eq_true rfl) rfl (Nat.le_of_ble_eq_true rfl) ⟨Nat.le_of_ble_eq_true rfl, Nat.le_of_ble_eq_true rfl⟩ rfl rfl ?_
        show G X 1 6 57 [(10, 0), (0, a_what)] [(0, r3)] (s4, m)
        exact J5 _ _ (by omega) hF
      refine g_iload_n h 37 dX7_count_37 rfl ?_
      refine g_bipush h 38 dX7_count_38 (by decide) ?_
      refine g_icmp_ne h 40 53 (gRi (by omega)) (gRi (by omega)) dX7_count_40 (by decide) (fun h7 => ?_) (fun h7 => ?_)
      · exact J7 h7
      · exact J6 h7
    refine g_iload_n h 23 dX7_count_23 rfl ?_
    refine g_bipush h 24 dX7_count_24 (by decide) ?_
    refine g_icmp_ne h 26 37 (gRi (by omega)) (gRi (by omega)) dX7_count_26 (by decide) (fun h4 => ?_) (fun h4 => ?_)
    · exact J4 h4
    · exact J3 h4
  refine g_iload_n h 10 dX7_count_10 rfl ?_
  refine g_bipush h 11 dX7_count_11 (by decide) ?_
  refine g_icmp_ge h 13 23 (gRi (by omega)) (gRi (by omega)) dX7_count_13 (by decide) (fun h1 => ?_) (fun h1 => ?_)
  · exact J2 (Int.not_lt.mpr h1)
  · exact J1 h1
-- Pagewright.disk
def FX7_disk (a_file a_index : Int) (s : S2) : Option (Int × S2) :=
  rgx <| gd ((-2147483648) ≤ a_file ∧ a_file ≤ 2147483647) <| gd ((-2147483648) ≤ a_index ∧ a_index ≤ 2147483647) <| cb (FX7_demand (if ((0 ≤ a_file) ∧ (a_file ≤ 2)) ∧ ((0 ≤ a_index) ∧ (a_index ≤ 7)) then 1 else 0 : Int) s) fun r1 s1 => if gxc r1 ≠ 0 then some (r1, s1) else gd (0 ≤ (a_file * 8) + a_index ∧ (a_file * 8) + a_index ≤ 23) <| some (s1 44 ((a_file * 8) + a_index), s1)
theorem rgX7_disk {a_file a_index : Int} {s s0 : S2} {r0 : Int} (hF : FX7_disk a_file a_index s = some (r0, s0)) : gxc r0 ≠ 0 ∨ (-2147483648) ≤ r0 ∧ r0 ≤ 2147483647 := (rgx_some hF).2
set_option maxRecDepth 100000 in
set_option maxHeartbeats 4000000 in
theorem ctX7_disk {l : Launch} {w : gW} {bs : Nat} (hl : l.stackTraces = false) {a_file a_index : Int} {s m s0 : S2} {r0 : Int} (hF : FX7_disk a_file a_index s = some (r0, s0)) : gMet l w bs yX7_disk cX7_disk 3 (some FieldType.int) 7 1 [(10, 0), (0, a_file), (0, a_index)] (s, m) (gxc r0) (some (0, r0)) (s0, m) := by
  unfold FX7_disk at hF
  obtain ⟨hF, hr⟩ := rgx_some hF
  obtain ⟨q_a_file, hF⟩ := gd_some hF
  obtain ⟨q_a_index, hF⟩ := gd_some hF
  refine g_start hl (by decide) (Nat.le_of_ble_eq_true rfl) rfl fun X h hE => ?_
  have h : gOk X "Pagewright" cX7_disk 3 7 1 6 := h
  have hE : gEnd X l w bs 1 (some FieldType.int) (gxc r0) (some (0, r0)) (s0, m) := hE
  show G X 0 0 0 [(10, 0), (0, a_file), (0, a_index)] [] (s, m)
  refine g_iload_n h 0 dX7_disk_0 rfl ?_
  refine g_iload_n h 1 dX7_disk_1 rfl ?_
  refine g_callS h hE 2 dX7_disk_2 (cpX7_isInFile (a_file := a_file) (a_index := a_index) hl (by omega) (by omega)) mwX7_isInFile kw_834 rfl (Nat.le_of_ble_eq_true rfl) rfl (Nat.le_of_ble_eq_true rfl) ⟨Nat.le_of_ble_eq_true rfl, Nat.le_of_ble_eq_true rfl⟩ rfl rfl ?_
  show G X 0 0 5 [(10, 0), (0, a_file), (0, a_index)] [(0, (if ((0 ≤ a_file) ∧ (a_file ≤ 2)) ∧ ((0 ≤ a_index) ∧ (a_index ≤ 7)) then 1 else 0 : Int))] (s, m)
  obtain ⟨r1, s1, c1, hF⟩ := cb_some hF
  refine g_callSX h hE 5 dX7_disk_5 (ctX7_demand hl c1) mwX7_demand kw_413 rfl (Nat.le_of_ble_eq_true rfl) rfl (Nat.le_of_ble_eq_true rfl) ⟨Nat.le_of_ble_eq_true rfl, Nat.le_of_ble_eq_true rfl⟩ rfl rfl (fun x1 => ?_) (fun x1 => ?_)
  · have hF := ite_t x1 hF
    obtain ⟨e1, e2⟩ := some_2 hF
    exact ⟨by rw [e1], by rw [e2], (Nat.le_of_ble_eq_true rfl), (Nat.le_of_ble_eq_true rfl)⟩
  have hF := ite_f (fun q => q x1) hF
  show G X 1 6 8 [(10, 0), (0, a_file), (0, a_index)] [] (s1, m)
  refine G_typ fun hT_s1 => ?_
  have t1 : 0 ≤ s1 44 ((a_file * 8) + a_index) ∧ s1 44 ((a_file * 8) + a_index) ≤ 99999 := hT_s1.1 44 ((a_file * 8) + a_index)
  obtain ⟨q1, hF⟩ := gd_some hF
  refine g_aload_nq h 8 dX7_disk_8 rfl rfl ?_
  refine gf_onDisk h 9 dX7_disk_9 kw_365 ?_
  refine g_iload_n h 12 dX7_disk_12 rfl ?_
  refine g_bipush h 13 dX7_disk_13 (by decide) ?_
  refine g_imul h 15 dX7_disk_15 ?_
  refine g_iload_n h 16 dX7_disk_16 rfl ?_
  refine g_iadd h 17 dX7_disk_17 ?_
  refine al_onDisk h 18 dX7_disk_18 (by omega) ?_
  obtain ⟨e1, e2⟩ := some_2 hF
  rw [← e1, ← e2, gxc_0 (gRi (by omega))] at hE
  exact g_iret h 19 dX7_disk_19 hE rfl rfl ⟨(Nat.le_of_ble_eq_true rfl), (Nat.le_of_ble_eq_true rfl)⟩
-- Pagewright.end
def FX7_end (a_space : Int) (s : S2) : Option (Int × S2) :=
  rgx <| gd ((-2147483648) ≤ a_space ∧ a_space ≤ 2147483647) <| cb (FX7_known a_space s) fun r1 s1 => if gxc r1 ≠ 0 then some (r1, s1) else cb (FX7_permit (s1 35 r1) s1) fun r2 s2 => if gxc r2 ≠ 0 then some (r2, s2) else cb (FX5_having r1 1 s2) fun r3 s3 => cb (FX5_having r1 2 s3) fun r4 s4 => cb (FX7_bury r1 s4) fun r5 s5 => gd ((-2147483648) ≤ r3 + r4 ∧ r3 + r4 ≤ 2147483647) <| some (r3 + r4, s5)
theorem rgX7_end {a_space : Int} {s s0 : S2} {r0 : Int} (hF : FX7_end a_space s = some (r0, s0)) : gxc r0 ≠ 0 ∨ (-2147483648) ≤ r0 ∧ r0 ≤ 2147483647 := (rgx_some hF).2
set_option maxRecDepth 100000 in
set_option maxHeartbeats 4000000 in
theorem ctX7_end {l : Launch} {w : gW} {bs : Nat} (hl : l.stackTraces = false) {a_space : Int} {s m s0 : S2} {r0 : Int} (hF : FX7_end a_space s = some (r0, s0)) : gMet l w bs yX7_end cX7_end 4 (some FieldType.int) 7 2 [(10, 0), (0, a_space)] (s, m) (gxc r0) (some (0, r0)) (s0, m) := by
  unfold FX7_end at hF
  obtain ⟨hF, hr⟩ := rgx_some hF
  obtain ⟨q_a_space, hF⟩ := gd_some hF
  refine g_start hl (by decide) (Nat.le_of_ble_eq_true rfl) rfl fun X h hE => ?_
  have h : gOk X "Pagewright" cX7_end 4 7 2 12 := h
  have hE : gEnd X l w bs 2 (some FieldType.int) (gxc r0) (some (0, r0)) (s0, m) := hE
  show G X 0 0 0 [(10, 0), (0, a_space), (1, 0), (1, 0)] [] (s, m)
  refine g_aload_nq h 0 dX7_end_0 rfl rfl ?_
  refine g_iload_n h 1 dX7_end_1 rfl ?_
  obtain ⟨r1, s1, c1, hF⟩ := cb_some hF
  refine g_callVX h hE 2 dX7_end_2 (ctX7_known hl c1) mwX7_known kw_515 (by decide) (by decide) rfl (Nat.le_of_ble_eq_true rfl) rfl (Nat.le_of_ble_eq_true rfl) ⟨Nat.le_of_ble_eq_true rfl, Nat.le_of_ble_eq_true rfl⟩ rfl rfl (fun x1 => ?_) (fun x1 => ?_)
  · have hF := ite_t x1 hF
    obtain ⟨e1, e2⟩ := some_2 hF
    exact ⟨by rw [e1], by rw [e2], (Nat.le_of_ble_eq_true rfl), (Nat.le_of_ble_eq_true rfl)⟩
  have hF := ite_f (fun q => q x1) hF
  have t1 : 0 ≤ r1 ∧ r1 ≤ 5 := (rgX7_known c1).resolve_left (fun q => q x1)
  show G X 1 6 5 [(10, 0), (0, a_space), (1, 0), (1, 0)] [(8, r1)] (s1, m)
  refine g_astore_n h 5 dX7_end_5 (Nat.le_of_ble_eq_true rfl) rfl (L' := [(10, 0), (0, a_space), (8, r1), (1, 0)]) rfl ?_
  refine G_typ fun hT_s1 => ?_
  have t2 : 0 ≤ s1 35 r1 ∧ s1 35 r1 ≤ 1 := hT_s1.1 35 r1
  refine g_aload_nq h 6 dX7_end_6 rfl rfl ?_
  refine gf_Space_living h 7 dX7_end_7 kw_259 (by omega) ?_
  obtain ⟨r2, s2, c2, hF⟩ := cb_some hF
  refine g_callSX h hE 10 dX7_end_10 (ctX7_permit hl c2) mwX7_permit kw_484 rfl (Nat.le_of_ble_eq_true rfl) rfl (Nat.le_of_ble_eq_true rfl) ⟨Nat.le_of_ble_eq_true rfl, Nat.le_of_ble_eq_true rfl⟩ rfl rfl (fun x2 => ?_) (fun x2 => ?_)
  · have hF := ite_t x2 hF
    obtain ⟨e1, e2⟩ := some_2 hF
    exact ⟨by rw [e1], by rw [e2], (Nat.le_of_ble_eq_true rfl), (Nat.le_of_ble_eq_true rfl)⟩
  have hF := ite_f (fun q => q x2) hF
  show G X 2 12 13 [(10, 0), (0, a_space), (8, r1), (1, 0)] [] (s2, m)
  refine g_aload_nq h 13 dX7_end_13 rfl rfl ?_
  refine g_iconst h 14 dX7_end_14 ?_
  obtain ⟨r3, s3, c3, hF⟩ := cb_some hF
  have t3 : 0 ≤ r3 ∧ r3 ≤ 32 := rgX5_having c3
  refine g_callV h hE 15 dX7_end_15 (ctX5_having hl c3) mwX5_having kw_633 (by decide) (show _ ∧ _ < (6 : Int) by omega) rfl (Nat.le_of_ble_eq_true rfl) rfl (Nat.le_of_ble_eq_true rfl) ⟨Nat.le_of_ble_eq_true rfl, Nat.le_of_ble_eq_true rfl⟩ rfl rfl ?_
  show G X 2 12 18 [(10, 0), (0, a_space), (8, r1), (1, 0)] [(0, r3)] (s3, m)
  refine g_aload_nq h 18 dX7_end_18 rfl rfl ?_
  refine g_iconst h 19 dX7_end_19 ?_
  obtain ⟨r4, s4, c4, hF⟩ := cb_some hF
  have t4 : 0 ≤ r4 ∧ r4 ≤ 32 := rgX5_having c4
  refine g_callV h hE 20 dX7_end_20 (ctX5_having hl c4) mwX5_having kw_633 (by decide) (show _ ∧ _ < (6 : Int) by omega) rfl (Nat.le_of_ble_eq_true rfl) rfl (Nat.le_of_ble_eq_true rfl) ⟨Nat.le_of_ble_eq_true rfl, Nat.le_of_ble_eq_true rfl⟩ rfl rfl ?_
  show G X 2 12 23 [(10, 0), (0, a_space), (8, r1), (1, 0)] [(0, r4), (0, r3)] (s4, m)
  refine g_iadd h 23 dX7_end_23 ?_
  refine g_istore_n h 24 dX7_end_24 (Nat.le_of_ble_eq_true rfl) rfl (L' := [(10, 0), (0, a_space), (8, r1), (0, r3 + r4)]) rfl ?_
  refine g_aload_nq h 25 dX7_end_25 rfl rfl ?_
  refine g_aload_nq h 26 dX7_end_26 rfl rfl ?_
  obtain ⟨r5, s5, c5, hF⟩ := cb_some hF
  refine g_callV h hE 27 dX7_end_27 (ctX7_bury hl c5) mwX7_bury kw_637 (by decide) (by decide) rfl (Nat.le_of_ble_eq_true rfl) rfl (Nat.le_of_ble_eq_true rfl) ⟨Nat.le_of_ble_eq_true rfl, Nat.le_of_ble_eq_true rfl⟩ rfl rfl ?_
  show G X 2 12 30 [(10, 0), (0, a_space), (8, r1), (0, r3 + r4)] [] (s5, m)
  refine g_iload_n h 30 dX7_end_30 rfl ?_
  obtain ⟨q1, hF⟩ := gd_some hF
  obtain ⟨e1, e2⟩ := some_2 hF
  rw [← e1, ← e2, gxc_0 (gRi (by omega))] at hE
  exact g_iret h 31 dX7_end_31 hE rfl rfl ⟨(Nat.le_of_ble_eq_true rfl), (Nat.le_of_ble_eq_true rfl)⟩
-- Pagewright.entry
def FX7_entry (a_space a_address a_what : Int) (s : S2) : Option (Int × S2) :=
  rgx <| gd ((-2147483648) ≤ a_space ∧ a_space ≤ 2147483647) <| gd ((-2147483648) ≤ a_address ∧ a_address ≤ 2147483647) <| gd ((-2147483648) ≤ a_what ∧ a_what ≤ 2147483647) <| cb (FX7_known a_space s) fun r1 s1 => if gxc r1 ≠ 0 then some (r1, s1) else cb (FX7_demand (if ((0 ≤ a_address) ∧ (a_address ≤ 31)) ∧ ((0 ≤ a_what) ∧ (a_what ≤ 5)) then 1 else 0 : Int) s1) fun r2 s2 => if gxc r2 ≠ 0 then some (r2, s2) else gd (0 ≤ a_address ∧ a_address ≤ 31) <| if a_what = 0 then gd (0 ≤ 32 * r1 + a_address ∧ 32 * r1 + a_address ≤ 191) <| some ((if s2 2 (32 * r1 + a_address) ≠ 0 then s2 3 (32 * r1 + a_address) else 0 : Int), s2) else if a_what = 1 then gd (0 ≤ 32 * r1 + a_address ∧ 32 * r1 + a_address ≤ 191) <| some ((if s2 2 (32 * r1 + a_address) ≠ 0 then s2 8 (32 * r1 + a_address) else (-1) : Int), s2) else if a_what = 2 then gd (0 ≤ 32 * r1 + a_address ∧ 32 * r1 + a_address ≤ 191) <| some ((if s2 9 (32 * r1 + a_address) < 0 then (-1) else s2 9 (32 * r1 + a_address) : Int), s2) else if a_what = 3 then gd (0 ≤ 32 * r1 + a_address ∧ 32 * r1 + a_address ≤ 191) <| some ((if s2 9 (32 * r1 + a_address) < 0 then (-1) else (if s2 10 (32 * r1 + a_address) ≠ 0 then 1 else 0 : Int) : Int), s2) else if a_what = 4 then gd (0 ≤ 32 * r1 + a_address ∧ 32 * r1 + a_address ≤ 191) <| some ((if s2 11 (32 * r1 + a_address) < 0 then (-1) else s2 28 (s2 11 (32 * r1 + a_address)) : Int), s2) else gd (0 ≤ 32 * r1 + a_address ∧ 32 * r1 + a_address ≤ 191) <| some ((if (if ((0 ≤ (32 * r1 + a_address) / 4) ∧ ((32 * r1 + a_address) / 4 < 48)) ∧ (s2 46 ((32 * r1 + a_address) / 4) ≠ 0) then 1 else 0 : Int) ≠ 0 then 1 else 0 : Int), s2)
theorem rgX7_entry {a_space a_address a_what : Int} {s s0 : S2} {r0 : Int} (hF : FX7_entry a_space a_address a_what s = some (r0, s0)) : gxc r0 ≠ 0 ∨ (-2147483648) ≤ r0 ∧ r0 ≤ 2147483647 := (rgx_some hF).2
set_option maxRecDepth 100000 in
set_option maxHeartbeats 4000000 in
theorem ctX7_entry {l : Launch} {w : gW} {bs : Nat} (hl : l.stackTraces = false) {a_space a_address a_what : Int} {s m s0 : S2} {r0 : Int} (hF : FX7_entry a_space a_address a_what s = some (r0, s0)) : gMet l w bs yX7_entry cX7_entry 6 (some FieldType.int) 7 2 [(10, 0), (0, a_space), (0, a_address), (0, a_what)] (s, m) (gxc r0) (some (0, r0)) (s0, m) := by
  unfold FX7_entry at hF
  obtain ⟨hF, hr⟩ := rgx_some hF
  obtain ⟨q_a_space, hF⟩ := gd_some hF
  obtain ⟨q_a_address, hF⟩ := gd_some hF
  obtain ⟨q_a_what, hF⟩ := gd_some hF
  refine g_start hl (by decide) (Nat.le_of_ble_eq_true rfl) rfl fun X h hE => ?_
  have h : gOk X "Pagewright" cX7_entry 6 7 2 12 := h
  have hE : gEnd X l w bs 2 (some FieldType.int) (gxc r0) (some (0, r0)) (s0, m) := hE
  show G X 0 0 0 [(10, 0), (0, a_space), (0, a_address), (0, a_what), (1, 0), (1, 0)] [] (s, m)
  refine g_aload_nq h 0 dX7_entry_0 rfl rfl ?_
  refine g_iload_n h 1 dX7_entry_1 rfl ?_
  obtain ⟨r1, s1, c1, hF⟩ := cb_some hF
  refine g_callVX h hE 2 dX7_entry_2 (ctX7_known hl c1) mwX7_known kw_515 (by decide) (by decide) rfl (Nat.le_of_ble_eq_true rfl) rfl (Nat.le_of_ble_eq_true rfl) ⟨Nat.le_of_ble_eq_true rfl, Nat.le_of_ble_eq_true rfl⟩ rfl rfl (fun x1 => ?_) (fun x1 => ?_)
  · have hF := ite_t x1 hF
    obtain ⟨e1, e2⟩ := some_2 hF
    exact ⟨by rw [e1], by rw [e2], (Nat.le_of_ble_eq_true rfl), (Nat.le_of_ble_eq_true rfl)⟩
  have hF := ite_f (fun q => q x1) hF
  have t1 : 0 ≤ r1 ∧ r1 ≤ 5 := (rgX7_known c1).resolve_left (fun q => q x1)
  show G X 1 6 5 [(10, 0), (0, a_space), (0, a_address), (0, a_what), (1, 0), (1, 0)] [(8, r1)] (s1, m)
  refine g_astore h 5 dX7_entry_5 (Nat.le_of_ble_eq_true rfl) rfl (L' := [(10, 0), (0, a_space), (0, a_address), (0, a_what), (8, r1), (1, 0)]) rfl ?_
  suffices J1 : ∀ v1 : Int, v1 = (if ((0 ≤ a_address) ∧ (a_address ≤ 31)) ∧ ((0 ≤ a_what) ∧ (a_what ≤ 5)) then 1 else 0 : Int) → G X 1 6 31 [(10, 0), (0, a_space), (0, a_address), (0, a_what), (8, r1), (1, 0)] [(0, v1)] (s1, m) by
    have J2 : ((0 ≤ a_address) ∧ (a_address ≤ 31)) ∧ ((0 ≤ a_what) ∧ (a_what ≤ 5)) → G X 1 6 26 [(10, 0), (0, a_space), (0, a_address), (0, a_what), (8, r1), (1, 0)] [] (s1, m) := by
      intro h3
      refine g_iconst h 26 dX7_entry_26 ?_
      refine g_goto h 27 31 dX7_entry_27 (by decide) ?_
      exact J1 _ (if_pos h3).symm
    have J3 : ¬ (((0 ≤ a_address) ∧ (a_address ≤ 31)) ∧ ((0 ≤ a_what) ∧ (a_what ≤ 5))) → G X 1 6 30 [(10, 0), (0, a_space), (0, a_address), (0, a_what), (8, r1), (1, 0)] [] (s1, m) := by
      intro h4
      refine g_iconst h 30 dX7_entry_30 ?_
      exact J1 _ (if_neg h4).symm
    refine g_iload_n h 7 dX7_entry_7 rfl ?_
    refine g_iconst h 8 dX7_entry_8 ?_
    refine g_bipush h 9 dX7_entry_9 (by decide) ?_
    refine g_callS h hE 11 dX7_entry_11 (cpX7_within (a_number := a_address) (a_lowest := 0) (a_highest := 31) hl (by omega) (by omega) (by omega)) mwX7_within kw_410 rfl (Nat.le_of_ble_eq_true rfl) rfl (Nat.le_of_ble_eq_true rfl) ⟨Nat.le_of_ble_eq_true rfl, Nat.le_of_ble_eq_true rfl⟩ rfl rfl ?_
    show G X 1 6 14 [(10, 0), (0, a_space), (0, a_address), (0, a_what), (8, r1), (1, 0)] [(0, (if (0 ≤ a_address) ∧ (a_address ≤ 31) then 1 else 0 : Int))] (s1, m)
    refine g_if_eq h 14 30 (gRi gR_ite) dX7_entry_14 (by decide) (fun h1 => ?_) (fun h1 => ?_)
    · exact J3 (fun q => (iz_f h1) q.1)
    · refine g_iload_n h 17 dX7_entry_17 rfl ?_
      refine g_iconst h 18 dX7_entry_18 ?_
      refine g_iconst h 19 dX7_entry_19 ?_
      refine g_callS h hE 20 dX7_entry_20 (cpX7_within (a_number := a_what) (a_lowest := 0) (a_highest := 5) hl (by omega) (by omega) (by omega)) mwX7_within kw_410 rfl (Nat.le_of_ble_eq_true rfl) rfl (Nat.le_of_ble_eq_true rfl) ⟨Nat.le_of_ble_eq_true rfl, Nat.le_of_ble_eq_true rfl⟩ rfl rfl ?_
      show G X 1 6 23 [(10, 0), (0, a_space), (0, a_address), (0, a_what), (8, r1), (1, 0)] [(0, (if (0 ≤ a_what) ∧ (a_what ≤ 5) then 1 else 0 : Int))] (s1, m)
      refine g_if_eq h 23 30 (gRi gR_ite) dX7_entry_23 (by decide) (fun h2 => ?_) (fun h2 => ?_)
      · exact J3 (fun q => (iz_f h2) q.2)
      · exact J2 ⟨(iz_t h1), (iz_t h2)⟩
  intro v1 e1
  subst e1
  obtain ⟨r2, s2, c2, hF⟩ := cb_some hF
  refine g_callSX h hE 31 dX7_entry_31 (ctX7_demand hl c2) mwX7_demand kw_413 rfl (Nat.le_of_ble_eq_true rfl) rfl (Nat.le_of_ble_eq_true rfl) ⟨Nat.le_of_ble_eq_true rfl, Nat.le_of_ble_eq_true rfl⟩ rfl rfl (fun x2 => ?_) (fun x2 => ?_)
  · have hF := ite_t x2 hF
    obtain ⟨e1, e2⟩ := some_2 hF
    exact ⟨by rw [e1], by rw [e2], (Nat.le_of_ble_eq_true rfl), (Nat.le_of_ble_eq_true rfl)⟩
  have hF := ite_f (fun q => q x2) hF
  show G X 2 12 34 [(10, 0), (0, a_space), (0, a_address), (0, a_what), (8, r1), (1, 0)] [] (s2, m)
  obtain ⟨q1, hF⟩ := gd_some hF
  refine g_aloadq h 34 dX7_entry_34 rfl rfl ?_
  refine gf_Space_entries h 36 dX7_entry_36 kw_254 (by omega) ?_
  refine g_iload_n h 39 dX7_entry_39 rfl ?_
  refine al_Space_entries h 40 dX7_entry_40 (by omega) (by omega) ?_
  refine g_astore h 41 dX7_entry_41 (Nat.le_of_ble_eq_true rfl) rfl (L' := [(10, 0), (0, a_space), (0, a_address), (0, a_what), (8, r1), (4, 32 * r1 + a_address)]) rfl ?_
  refine g_iload_n h 43 dX7_entry_43 rfl ?_
  by_cases h5 : a_what = 0
  · have hF := ite_t h5 hF
    refine g_tsIn h 44 dX7_entry_44 0 80 h5 (by decide) (by decide) 36 (by decide) (by decide) ?_
    refine G_typ fun hT_s2 => ?_
    have t2 : 0 ≤ s2 2 (32 * r1 + a_address) ∧ s2 2 (32 * r1 + a_address) ≤ 1 := hT_s2.1 2 (32 * r1 + a_address)
    have t3 : 0 ≤ s2 3 (32 * r1 + a_address) ∧ s2 3 (32 * r1 + a_address) ≤ 3 := hT_s2.1 3 (32 * r1 + a_address)
    obtain ⟨q2, hF⟩ := gd_some hF
    suffices J4 : ∀ v2 : Int, v2 = (if s2 2 (32 * r1 + a_address) ≠ 0 then s2 3 (32 * r1 + a_address) else 0 : Int) → G X 2 12 97 [(10, 0), (0, a_space), (0, a_address), (0, a_what), (8, r1), (4, 32 * r1 + a_address)] [(0, v2)] (s2, m) by
      have J5 : s2 2 (32 * r1 + a_address) ≠ 0 → G X 2 12 88 [(10, 0), (0, a_space), (0, a_address), (0, a_what), (8, r1), (4, 32 * r1 + a_address)] [] (s2, m) := by
        intro h7
        refine g_aloadq h 88 dX7_entry_88 rfl rfl ?_
        refine gf_Entry_rights h 90 dX7_entry_90 kw_196 (by omega) ?_
        refine g_goto h 93 97 dX7_entry_93 (by decide) ?_
        exact J4 _ (if_pos h7).symm
      have J6 : ¬ (s2 2 (32 * r1 + a_address) ≠ 0) → G X 2 12 96 [(10, 0), (0, a_space), (0, a_address), (0, a_what), (8, r1), (4, 32 * r1 + a_address)] [] (s2, m) := by
        intro h8
        refine g_iconst h 96 dX7_entry_96 ?_
        exact J4 _ (if_neg h8).symm
      refine g_aloadq h 80 dX7_entry_80 rfl rfl ?_
      refine gf_Entry_mapped h 82 dX7_entry_82 kw_194 (by omega) ?_
      refine g_if_eq h 85 96 (gRi (by omega)) dX7_entry_85 (by decide) (fun h6 => ?_) (fun h6 => ?_)
      · exact J6 (fun q => q h6)
      · exact J5 h6
    intro v2 e2
    subst e2
    obtain ⟨e1, e2⟩ := some_2 hF
    rw [← e1, ← e2, gxc_0 (gRi (by omega))] at hE
    exact g_iret h 97 dX7_entry_97 hE rfl rfl ⟨(Nat.le_of_ble_eq_true rfl), (Nat.le_of_ble_eq_true rfl)⟩
  have hF := ite_f h5 hF
  by_cases h9 : a_what = 1
  · have hF := ite_t h9 hF
    refine g_tsIn h 44 dX7_entry_44 1 98 h9 (by decide) (by decide) 54 (by decide) (by decide) ?_
    refine G_typ fun hT_s2 => ?_
    have t4 : 0 ≤ s2 2 (32 * r1 + a_address) ∧ s2 2 (32 * r1 + a_address) ≤ 1 := hT_s2.1 2 (32 * r1 + a_address)
    have t5 : 0 ≤ s2 8 (32 * r1 + a_address) ∧ s2 8 (32 * r1 + a_address) ≤ 2 := hT_s2.1 8 (32 * r1 + a_address)
    obtain ⟨q3, hF⟩ := gd_some hF
    suffices J7 : ∀ v3 : Int, v3 = (if s2 2 (32 * r1 + a_address) ≠ 0 then s2 8 (32 * r1 + a_address) else (-1) : Int) → G X 2 12 115 [(10, 0), (0, a_space), (0, a_address), (0, a_what), (8, r1), (4, 32 * r1 + a_address)] [(0, v3)] (s2, m) by
      have J8 : s2 2 (32 * r1 + a_address) ≠ 0 → G X 2 12 106 [(10, 0), (0, a_space), (0, a_address), (0, a_what), (8, r1), (4, 32 * r1 + a_address)] [] (s2, m) := by
        intro h11
        refine g_aloadq h 106 dX7_entry_106 rfl rfl ?_
        refine gf_Entry_state h 108 dX7_entry_108 kw_211 (by omega) ?_
        refine g_goto h 111 115 dX7_entry_111 (by decide) ?_
        exact J7 _ (if_pos h11).symm
      have J9 : ¬ (s2 2 (32 * r1 + a_address) ≠ 0) → G X 2 12 114 [(10, 0), (0, a_space), (0, a_address), (0, a_what), (8, r1), (4, 32 * r1 + a_address)] [] (s2, m) := by
        intro h12
        refine g_iconst h 114 dX7_entry_114 ?_
        exact J7 _ (if_neg h12).symm
      refine g_aloadq h 98 dX7_entry_98 rfl rfl ?_
      refine gf_Entry_mapped h 100 dX7_entry_100 kw_194 (by omega) ?_
      refine g_if_eq h 103 114 (gRi (by omega)) dX7_entry_103 (by decide) (fun h10 => ?_) (fun h10 => ?_)
      · exact J9 (fun q => q h10)
      · exact J8 h10
    intro v3 e3
    subst e3
    obtain ⟨e1, e2⟩ := some_2 hF
    rw [← e1, ← e2, gxc_0 (gRi (by omega))] at hE
    exact g_iret h 115 dX7_entry_115 hE rfl rfl ⟨(Nat.le_of_ble_eq_true rfl), (Nat.le_of_ble_eq_true rfl)⟩
  have hF := ite_f h9 hF
  by_cases h13 : a_what = 2
  · have hF := ite_t h13 hF
    refine g_tsIn h 44 dX7_entry_44 2 116 h13 (by decide) (by decide) 72 (by decide) (by decide) ?_
    refine G_typ fun hT_s2 => ?_
    have t6 : (-1) ≤ s2 9 (32 * r1 + a_address) ∧ s2 9 (32 * r1 + a_address) ≤ 23 := hT_s2.1 9 (32 * r1 + a_address)
    obtain ⟨q4, hF⟩ := gd_some hF
    suffices J10 : ∀ v4 : Int, v4 = (if s2 9 (32 * r1 + a_address) < 0 then (-1) else s2 9 (32 * r1 + a_address) : Int) → G X 2 12 136 [(10, 0), (0, a_space), (0, a_address), (0, a_what), (8, r1), (4, 32 * r1 + a_address)] [(0, v4)] (s2, m) by
      have J11 : s2 9 (32 * r1 + a_address) < 0 → G X 2 12 124 [(10, 0), (0, a_space), (0, a_address), (0, a_what), (8, r1), (4, 32 * r1 + a_address)] [] (s2, m) := by
        intro h15
        refine g_iconst h 124 dX7_entry_124 ?_
        refine g_goto h 125 136 dX7_entry_125 (by decide) ?_
        exact J10 _ (if_pos h15).symm
      have J12 : ¬ (s2 9 (32 * r1 + a_address) < 0) → G X 2 12 128 [(10, 0), (0, a_space), (0, a_address), (0, a_what), (8, r1), (4, 32 * r1 + a_address)] [] (s2, m) := by
        intro h16
        refine g_aloadq h 128 dX7_entry_128 rfl rfl ?_
        refine gf_Entry_page h 130 dX7_entry_130 kw_213 (by omega) ?_
        refine gf_Page_frame h 133 dX7_entry_133 kw_282 (by omega) ?_
        exact J10 _ (if_neg h16).symm
      refine g_aloadq h 116 dX7_entry_116 rfl rfl ?_
      refine gf_Entry_page h 118 dX7_entry_118 kw_213 (by omega) ?_
      refine g_ifnonnull h 121 128 dX7_entry_121 (by decide) (fun h14 => ?_) (fun h14 => ?_)
      · exact J12 (Int.not_lt.mpr h14)
      · exact J11 h14
    intro v4 e4
    subst e4
    obtain ⟨e1, e2⟩ := some_2 hF
    rw [← e1, ← e2, gxc_0 (gRi (by omega))] at hE
    exact g_iret h 136 dX7_entry_136 hE rfl rfl ⟨(Nat.le_of_ble_eq_true rfl), (Nat.le_of_ble_eq_true rfl)⟩
  have hF := ite_f h13 hF
  by_cases h17 : a_what = 3
  · have hF := ite_t h17 hF
    refine g_tsIn h 44 dX7_entry_44 3 137 h17 (by decide) (by decide) 93 (by decide) (by decide) ?_
    refine G_typ fun hT_s2 => ?_
    have t7 : (-1) ≤ s2 9 (32 * r1 + a_address) ∧ s2 9 (32 * r1 + a_address) ≤ 23 := hT_s2.1 9 (32 * r1 + a_address)
    have t8 : 0 ≤ s2 10 (32 * r1 + a_address) ∧ s2 10 (32 * r1 + a_address) ≤ 1 := hT_s2.1 10 (32 * r1 + a_address)
    obtain ⟨q5, hF⟩ := gd_some hF
    suffices J13 : ∀ v5 : Int, v5 = (if s2 9 (32 * r1 + a_address) < 0 then (-1) else (if s2 10 (32 * r1 + a_address) ≠ 0 then 1 else 0 : Int) : Int) → G X 2 12 157 [(10, 0), (0, a_space), (0, a_address), (0, a_what), (8, r1), (4, 32 * r1 + a_address)] [(0, v5)] (s2, m) by
      have J14 : s2 9 (32 * r1 + a_address) < 0 → G X 2 12 145 [(10, 0), (0, a_space), (0, a_address), (0, a_what), (8, r1), (4, 32 * r1 + a_address)] [] (s2, m) := by
        intro h19
        refine g_iconst h 145 dX7_entry_145 ?_
        refine g_goto h 146 157 dX7_entry_146 (by decide) ?_
        exact J13 _ (if_pos h19).symm
      have J15 : ¬ (s2 9 (32 * r1 + a_address) < 0) → G X 2 12 149 [(10, 0), (0, a_space), (0, a_address), (0, a_what), (8, r1), (4, 32 * r1 + a_address)] [] (s2, m) := by
        intro h20
        refine g_aloadq h 149 dX7_entry_149 rfl rfl ?_
        refine gf_Entry_writable h 151 dX7_entry_151 kw_216 (by omega) ?_
        refine g_callS h hE 154 dX7_entry_154 (cpX7_asNumber (a_is := s2 10 (32 * r1 + a_address)) hl (by omega)) mwX7_asNumber kw_948 rfl (Nat.le_of_ble_eq_true rfl) rfl (Nat.le_of_ble_eq_true rfl) ⟨Nat.le_of_ble_eq_true rfl, Nat.le_of_ble_eq_true rfl⟩ rfl rfl ?_
        show G X 2 12 157 [(10, 0), (0, a_space), (0, a_address), (0, a_what), (8, r1), (4, 32 * r1 + a_address)] [(0, (if s2 10 (32 * r1 + a_address) ≠ 0 then 1 else 0 : Int))] (s2, m)
        exact J13 _ (if_neg h20).symm
      refine g_aloadq h 137 dX7_entry_137 rfl rfl ?_
      refine gf_Entry_page h 139 dX7_entry_139 kw_213 (by omega) ?_
      refine g_ifnonnull h 142 149 dX7_entry_142 (by decide) (fun h18 => ?_) (fun h18 => ?_)
      · exact J15 (Int.not_lt.mpr h18)
      · exact J14 h18
    intro v5 e5
    subst e5
    obtain ⟨e1, e2⟩ := some_2 hF
    rw [← e1, ← e2, gxc_0 (gRi (by omega))] at hE
    exact g_iret h 157 dX7_entry_157 hE rfl rfl ⟨(Nat.le_of_ble_eq_true rfl), (Nat.le_of_ble_eq_true rfl)⟩
  have hF := ite_f h17 hF
  by_cases h21 : a_what = 4
  · have hF := ite_t h21 hF
    refine g_tsIn h 44 dX7_entry_44 4 158 h21 (by decide) (by decide) 114 (by decide) (by decide) ?_
    refine G_typ fun hT_s2 => ?_
    have t9 : (-1) ≤ s2 11 (32 * r1 + a_address) ∧ s2 11 (32 * r1 + a_address) ≤ 17 := hT_s2.1 11 (32 * r1 + a_address)
    have t10 : 0 ≤ s2 28 (s2 11 (32 * r1 + a_address)) ∧ s2 28 (s2 11 (32 * r1 + a_address)) ≤ 10 := hT_s2.1 28 (s2 11 (32 * r1 + a_address))
    obtain ⟨q6, hF⟩ := gd_some hF
    suffices J16 : ∀ v6 : Int, v6 = (if s2 11 (32 * r1 + a_address) < 0 then (-1) else s2 28 (s2 11 (32 * r1 + a_address)) : Int) → G X 2 12 178 [(10, 0), (0, a_space), (0, a_address), (0, a_what), (8, r1), (4, 32 * r1 + a_address)] [(0, v6)] (s2, m) by
      have J17 : s2 11 (32 * r1 + a_address) < 0 → G X 2 12 166 [(10, 0), (0, a_space), (0, a_address), (0, a_what), (8, r1), (4, 32 * r1 + a_address)] [] (s2, m) := by
        intro h23
        refine g_iconst h 166 dX7_entry_166 ?_
        refine g_goto h 167 178 dX7_entry_167 (by decide) ?_
        exact J16 _ (if_pos h23).symm
      have J18 : ¬ (s2 11 (32 * r1 + a_address) < 0) → G X 2 12 170 [(10, 0), (0, a_space), (0, a_address), (0, a_what), (8, r1), (4, 32 * r1 + a_address)] [] (s2, m) := by
        intro h24
        refine g_aloadq h 170 dX7_entry_170 rfl rfl ?_
        refine gf_Entry_record h 172 dX7_entry_172 kw_218 (by omega) ?_
        refine gf_Record_place h 175 dX7_entry_175 kw_148 (by omega) ?_
        exact J16 _ (if_neg h24).symm
      refine g_aloadq h 158 dX7_entry_158 rfl rfl ?_
      refine gf_Entry_record h 160 dX7_entry_160 kw_218 (by omega) ?_
      refine g_ifnonnull h 163 170 dX7_entry_163 (by decide) (fun h22 => ?_) (fun h22 => ?_)
      · exact J18 (Int.not_lt.mpr h22)
      · exact J17 h22
    intro v6 e6
    subst e6
    obtain ⟨e1, e2⟩ := some_2 hF
    rw [← e1, ← e2, gxc_0 (gRi (by omega))] at hE
    exact g_iret h 178 dX7_entry_178 hE rfl rfl ⟨(Nat.le_of_ble_eq_true rfl), (Nat.le_of_ble_eq_true rfl)⟩
  have hF := ite_f h21 hF
  refine g_tsOut h 44 dX7_entry_44 179 (gRi (by omega)) (by omega) (by decide) ?_
  refine G_typ fun hT_s2 => ?_
  have t11 : 0 ≤ s2 46 ((32 * r1 + a_address) / 4) ∧ s2 46 ((32 * r1 + a_address) / 4) ≤ 1 := hT_s2.1 46 ((32 * r1 + a_address) / 4)
  obtain ⟨q7, hF⟩ := gd_some hF
  refine g_aload_nq h 179 dX7_entry_179 rfl rfl ?_
  refine g_aloadq h 180 dX7_entry_180 rfl rfl ?_
  refine gf_Entry_block h 182 dX7_entry_182 kw_191 (by omega) ?_
  refine g_callV h hE 185 dX7_entry_185 (cpX7_isJoined (a_block := (32 * r1 + a_address) / 4) hl (by omega)) mwX7_isJoined kw_887 (by decide) (by decide) rfl (Nat.le_of_ble_eq_true rfl) rfl (Nat.le_of_ble_eq_true rfl) ⟨Nat.le_of_ble_eq_true rfl, Nat.le_of_ble_eq_true rfl⟩ rfl rfl ?_
  show G X 2 12 188 [(10, 0), (0, a_space), (0, a_address), (0, a_what), (8, r1), (4, 32 * r1 + a_address)] [(0, (if ((0 ≤ (32 * r1 + a_address) / 4) ∧ ((32 * r1 + a_address) / 4 < 48)) ∧ (s2 46 ((32 * r1 + a_address) / 4) ≠ 0) then 1 else 0 : Int))] (s2, m)
  refine g_callS h hE 188 dX7_entry_188 (cpX7_asNumber (a_is := (if ((0 ≤ (32 * r1 + a_address) / 4) ∧ ((32 * r1 + a_address) / 4 < 48)) ∧ (s2 46 ((32 * r1 + a_address) / 4) ≠ 0) then 1 else 0 : Int)) hl (by omega)) mwX7_asNumber kw_948 rfl (Nat.le_of_ble_eq_true rfl) rfl (Nat.le_of_ble_eq_true rfl) ⟨Nat.le_of_ble_eq_true rfl, Nat.le_of_ble_eq_true rfl⟩ rfl rfl ?_
  show G X 2 12 191 [(10, 0), (0, a_space), (0, a_address), (0, a_what), (8, r1), (4, 32 * r1 + a_address)] [(0, (if (if ((0 ≤ (32 * r1 + a_address) / 4) ∧ ((32 * r1 + a_address) / 4 < 48)) ∧ (s2 46 ((32 * r1 + a_address) / 4) ≠ 0) then 1 else 0 : Int) ≠ 0 then 1 else 0 : Int))] (s2, m)
  obtain ⟨e1, e2⟩ := some_2 hF
  rw [← e1, ← e2, gxc_0 (gRi (by omega))] at hE
  exact g_iret h 191 dX7_entry_191 hE rfl rfl ⟨(Nat.le_of_ble_eq_true rfl), (Nat.le_of_ble_eq_true rfl)⟩
-- Pagewright.fork
def FX7_fork (a_space : Int) (s : S2) : Option (Int × S2) :=
  rgx <| gd ((-2147483648) ≤ a_space ∧ a_space ≤ 2147483647) <| cb (FX7_known a_space s) fun r1 s1 => if gxc r1 ≠ 0 then some (r1, s1) else cb (FX7_permit (if (s1 35 r1 ≠ 0) ∧ (s1 41 0 < 6) then 1 else 0 : Int) s1) fun r2 s2 => if gxc r2 ≠ 0 then some (r2, s2) else cb (FX7_begin (s2 33 r1) s2) fun r3 s3 => bn (upd2 s3 36 r3 (s3 36 r1)) fun s4 => gl1 1000 (fun k1 (x_i1 : Int) (s5 : S2) => if x_i1 < 32 then cb (FX1_forbidStores (32 * r1 + x_i1) s5) fun r4 s6 => gd (0 ≤ 32 * r1 + x_i1 ∧ 32 * r1 + x_i1 ≤ 191) <| cb (FX7_setJoined ((32 * r1 + x_i1) / 4) 0 s6) fun r5 s7 => cb (FX1_resemble (32 * r3 + x_i1) (32 * r1 + x_i1) s7) fun r6 s8 => k1 (x_i1 + 1) s8 else some (r3, s5)) 0 s4
theorem rgX7_fork {a_space : Int} {s s0 : S2} {r0 : Int} (hF : FX7_fork a_space s = some (r0, s0)) : gxc r0 ≠ 0 ∨ (-2147483648) ≤ r0 ∧ r0 ≤ 2147483647 := (rgx_some hF).2
set_option maxRecDepth 100000 in
set_option maxHeartbeats 4000000 in
theorem ctX7_fork {l : Launch} {w : gW} {bs : Nat} (hl : l.stackTraces = false) {a_space : Int} {s m s0 : S2} {r0 : Int} (hF : FX7_fork a_space s = some (r0, s0)) : gMet l w bs yX7_fork cX7_fork 6 (some FieldType.int) 7 2 [(10, 0), (0, a_space)] (s, m) (gxc r0) (some (0, r0)) (s0, m) := by
  unfold FX7_fork at hF
  obtain ⟨hF, hr⟩ := rgx_some hF
  obtain ⟨q_a_space, hF⟩ := gd_some hF
  refine g_start hl (by decide) (Nat.le_of_ble_eq_true rfl) rfl fun X h hE => ?_
  have h : gOk X "Pagewright" cX7_fork 6 7 2 12 := h
  have hE : gEnd X l w bs 2 (some FieldType.int) (gxc r0) (some (0, r0)) (s0, m) := hE
  show G X 0 0 0 [(10, 0), (0, a_space), (1, 0), (1, 0), (1, 0), (1, 0)] [] (s, m)
  refine g_aload_nq h 0 dX7_fork_0 rfl rfl ?_
  refine g_iload_n h 1 dX7_fork_1 rfl ?_
  obtain ⟨r1, s1, c1, hF⟩ := cb_some hF
  refine g_callVX h hE 2 dX7_fork_2 (ctX7_known hl c1) mwX7_known kw_515 (by decide) (by decide) rfl (Nat.le_of_ble_eq_true rfl) rfl (Nat.le_of_ble_eq_true rfl) ⟨Nat.le_of_ble_eq_true rfl, Nat.le_of_ble_eq_true rfl⟩ rfl rfl (fun x1 => ?_) (fun x1 => ?_)
  · have hF := ite_t x1 hF
    obtain ⟨e1, e2⟩ := some_2 hF
    exact ⟨by rw [e1], by rw [e2], (Nat.le_of_ble_eq_true rfl), (Nat.le_of_ble_eq_true rfl)⟩
  have hF := ite_f (fun q => q x1) hF
  have t1 : 0 ≤ r1 ∧ r1 ≤ 5 := (rgX7_known c1).resolve_left (fun q => q x1)
  show G X 1 6 5 [(10, 0), (0, a_space), (1, 0), (1, 0), (1, 0), (1, 0)] [(8, r1)] (s1, m)
  refine g_astore_n h 5 dX7_fork_5 (Nat.le_of_ble_eq_true rfl) rfl (L' := [(10, 0), (0, a_space), (8, r1), (1, 0), (1, 0), (1, 0)]) rfl ?_
  refine G_typ fun hT_s1 => ?_
  have t2 : 0 ≤ s1 35 r1 ∧ s1 35 r1 ≤ 1 := hT_s1.1 35 r1
  have t3 : 0 ≤ s1 41 0 ∧ s1 41 0 ≤ 6 := hT_s1.1 41 0
  suffices J1 : ∀ v1 : Int, v1 = (if (s1 35 r1 ≠ 0) ∧ (s1 41 0 < 6) then 1 else 0 : Int) → G X 1 6 27 [(10, 0), (0, a_space), (8, r1), (1, 0), (1, 0), (1, 0)] [(0, v1)] (s1, m) by
    have J2 : (s1 35 r1 ≠ 0) ∧ (s1 41 0 < 6) → G X 1 6 22 [(10, 0), (0, a_space), (8, r1), (1, 0), (1, 0), (1, 0)] [] (s1, m) := by
      intro h3
      refine g_iconst h 22 dX7_fork_22 ?_
      refine g_goto h 23 27 dX7_fork_23 (by decide) ?_
      exact J1 _ (if_pos h3).symm
    have J3 : ¬ ((s1 35 r1 ≠ 0) ∧ (s1 41 0 < 6)) → G X 1 6 26 [(10, 0), (0, a_space), (8, r1), (1, 0), (1, 0), (1, 0)] [] (s1, m) := by
      intro h4
      refine g_iconst h 26 dX7_fork_26 ?_
      exact J1 _ (if_neg h4).symm
    refine g_aload_nq h 6 dX7_fork_6 rfl rfl ?_
    refine gf_Space_living h 7 dX7_fork_7 kw_259 (by omega) ?_
    refine g_if_eq h 10 26 (gRi (by omega)) dX7_fork_10 (by decide) (fun h1 => ?_) (fun h1 => ?_)
    · exact J3 (fun q => (fun q => q h1) q.1)
    · refine g_aload_nq h 13 dX7_fork_13 rfl rfl ?_
      refine gf_made h 14 dX7_fork_14 kw_371 ?_
      refine g_bipush h 17 dX7_fork_17 (by decide) ?_
      refine g_icmp_ge h 19 26 (gRi (by omega)) (gRi (by omega)) dX7_fork_19 (by decide) (fun h2 => ?_) (fun h2 => ?_)
      · exact J3 (fun q => (Int.not_lt.mpr h2) q.2)
      · exact J2 ⟨h1, h2⟩
  intro v1 e1
  subst e1
  obtain ⟨r2, s2, c2, hF⟩ := cb_some hF
  refine g_callSX h hE 27 dX7_fork_27 (ctX7_permit hl c2) mwX7_permit kw_484 rfl (Nat.le_of_ble_eq_true rfl) rfl (Nat.le_of_ble_eq_true rfl) ⟨Nat.le_of_ble_eq_true rfl, Nat.le_of_ble_eq_true rfl⟩ rfl rfl (fun x2 => ?_) (fun x2 => ?_)
  · have hF := ite_t x2 hF
    obtain ⟨e1, e2⟩ := some_2 hF
    exact ⟨by rw [e1], by rw [e2], (Nat.le_of_ble_eq_true rfl), (Nat.le_of_ble_eq_true rfl)⟩
  have hF := ite_f (fun q => q x2) hF
  show G X 2 12 30 [(10, 0), (0, a_space), (8, r1), (1, 0), (1, 0), (1, 0)] [] (s2, m)
  refine g_aload_nq h 30 dX7_fork_30 rfl rfl ?_
  refine G_typ fun hT_s2 => ?_
  have t4 : 0 ≤ s2 33 r1 ∧ s2 33 r1 ≤ 2 := hT_s2.1 33 r1
  refine g_aload_nq h 31 dX7_fork_31 rfl rfl ?_
  refine gf_Space_group h 32 dX7_fork_32 kw_255 (by omega) ?_
  obtain ⟨r3, s3, c3, hF⟩ := cb_some hF
  have t5 : 0 ≤ r3 ∧ r3 ≤ 5 := rgX7_begin c3
  refine g_callV h hE 35 dX7_fork_35 (ctX7_begin hl c3) mwX7_begin kw_503 (by decide) (by decide) rfl (Nat.le_of_ble_eq_true rfl) rfl (Nat.le_of_ble_eq_true rfl) ⟨Nat.le_of_ble_eq_true rfl, Nat.le_of_ble_eq_true rfl⟩ rfl rfl ?_
  show G X 2 12 38 [(10, 0), (0, a_space), (8, r1), (1, 0), (1, 0), (1, 0)] [(8, r3)] (s3, m)
  refine g_astore_n h 38 dX7_fork_38 (Nat.le_of_ble_eq_true rfl) rfl (L' := [(10, 0), (0, a_space), (8, r1), (8, r3), (1, 0), (1, 0)]) rfl ?_
  refine g_aload_nq h 39 dX7_fork_39 rfl rfl ?_
  refine G_typ fun hT_s3 => ?_
  have t6 : 0 ≤ s3 36 r1 ∧ s3 36 r1 ≤ 1 := hT_s3.1 36 r1
  refine g_aload_nq h 40 dX7_fork_40 rfl rfl ?_
  refine gf_Space_merging h 41 dX7_fork_41 kw_261 (by omega) ?_
  obtain ⟨s4, es4, hF⟩ := bn_ex hF
  refine pf_Space_merging h 44 dX7_fork_44 kw_261 (by omega) (by omega) ?_
  rw [← es4]
  refine g_iconst h 47 dX7_fork_47 ?_
  refine g_istore h 48 dX7_fork_48 (Nat.le_of_ble_eq_true rfl) rfl (L' := [(10, 0), (0, a_space), (8, r1), (8, r3), (0, 0), (1, 0)]) rfl ?_
  obtain ⟨f1, ef1, hF⟩ := glx1 hF
  have J7 : ∀ (n1 : Nat) (x_i1 : Int) (s5 : S2), (0 ≤ x_i1 ∧ x_i1 ≤ 32) → gl1 n1 f1 x_i1 s5 = some (r0, s0) → G X 2 12 50 [(10, 0), (0, a_space), (8, r1), (8, r3), (0, x_i1), (1, 0)] [] (s5, m) := by
    intro n1
    induction n1 with
    | zero => intro x_i1 s5 _ hF; exact (gl1_0 hF).elim
    | succ n1 ih1 =>
      intro x_i1 s5 q1 hF
      obtain ⟨k1, ek1, hF⟩ := glu1 hF ef1
      have J5 : x_i1 < 32 → G X 2 12 57 [(10, 0), (0, a_space), (8, r1), (8, r3), (0, x_i1), (1, 0)] [] (s5, m) := by
        intro h6
        have hF := ite_t h6 hF
        refine g_aload_nq h 57 dX7_fork_57 rfl rfl ?_
        refine gf_Space_entries h 58 dX7_fork_58 kw_254 (by omega) ?_
        refine g_iload h 61 dX7_fork_61 rfl ?_
        refine al_Space_entries h 63 dX7_fork_63 (by omega) (by omega) ?_
        refine g_astore h 64 dX7_fork_64 (Nat.le_of_ble_eq_true rfl) rfl (L' := [(10, 0), (0, a_space), (8, r1), (8, r3), (0, x_i1), (4, 32 * r1 + x_i1)]) rfl ?_
        refine g_aloadq h 66 dX7_fork_66 rfl rfl ?_
        obtain ⟨r4, s6, c4, hF⟩ := cb_some hF
        refine g_callV h hE 68 dX7_fork_68 (ctX1_forbidStores hl c4) mwX1_forbidStores kw_597 (by decide) (show _ ∧ _ < (192 : Int) by omega) rfl (Nat.le_of_ble_eq_true rfl) rfl (Nat.le_of_ble_eq_true rfl) ⟨Nat.le_of_ble_eq_true rfl, Nat.le_of_ble_eq_true rfl⟩ rfl rfl ?_
        show G X 2 12 71 [(10, 0), (0, a_space), (8, r1), (8, r3), (0, x_i1), (4, 32 * r1 + x_i1)] [] (s6, m)
        refine g_aload_nq h 71 dX7_fork_71 rfl rfl ?_
        obtain ⟨q2, hF⟩ := gd_some hF
        refine g_aloadq h 72 dX7_fork_72 rfl rfl ?_
        refine gf_Entry_block h 74 dX7_fork_74 kw_191 (by omega) ?_
        refine g_iconst h 77 dX7_fork_77 ?_
        obtain ⟨r5, s7, c5, hF⟩ := cb_some hF
        refine g_callV h hE 78 dX7_fork_78 (ctX7_setJoined hl c5) mwX7_setJoined kw_573 (by decide) (by decide) rfl (Nat.le_of_ble_eq_true rfl) rfl (Nat.le_of_ble_eq_true rfl) ⟨Nat.le_of_ble_eq_true rfl, Nat.le_of_ble_eq_true rfl⟩ rfl rfl ?_
        show G X 2 12 81 [(10, 0), (0, a_space), (8, r1), (8, r3), (0, x_i1), (4, 32 * r1 + x_i1)] [] (s7, m)
        refine g_aload_nq h 81 dX7_fork_81 rfl rfl ?_
        refine gf_Space_entries h 82 dX7_fork_82 kw_254 (by omega) ?_
        refine g_iload h 85 dX7_fork_85 rfl ?_
        refine al_Space_entries h 87 dX7_fork_87 (by omega) (by omega) ?_
        refine g_aloadq h 88 dX7_fork_88 rfl rfl ?_
        obtain ⟨r6, s8, c6, hF⟩ := cb_some hF
        refine g_callV h hE 90 dX7_fork_90 (ctX1_resemble hl c6) mwX1_resemble kw_622 (by decide) (show _ ∧ _ < (192 : Int) by omega) rfl (Nat.le_of_ble_eq_true rfl) rfl (Nat.le_of_ble_eq_true rfl) ⟨Nat.le_of_ble_eq_true rfl, Nat.le_of_ble_eq_true rfl⟩ rfl rfl ?_
        show G X 2 12 93 [(10, 0), (0, a_space), (8, r1), (8, r3), (0, x_i1), (4, 32 * r1 + x_i1)] [] (s8, m)
        refine g_iinc h 93 dX7_fork_93 rfl rfl (L' := [(10, 0), (0, a_space), (8, r1), (8, r3), (0, x_i1 + 1), (4, 32 * r1 + x_i1)]) rfl ?_
        refine g_goto h 96 50 dX7_fork_96 (by decide) ?_
        refine G_weak (L' := [(10, 0), (0, a_space), (8, r1), (8, r3), (0, x_i1 + 1), (1, 0)]) ⟨Or.inr rfl, Or.inr rfl, Or.inr rfl, Or.inr rfl, Or.inr rfl, Or.inl rfl, trivial⟩ ?_
        rw [ek1] at hF
        exact ih1 _ _ (by omega) hF
      have J6 : ¬ (x_i1 < 32) → G X 2 12 99 [(10, 0), (0, a_space), (8, r1), (8, r3), (0, x_i1), (1, 0)] [] (s5, m) := by
        intro h7
        have hF := ite_f h7 hF
        refine g_aload_nq h 99 dX7_fork_99 rfl rfl ?_
        refine gf_Space_number h 100 dX7_fork_100 kw_252 (by omega) ?_
        obtain ⟨e1, e2⟩ := some_2 hF
        rw [← e1, ← e2, gxc_0 (gRi (by omega))] at hE
        exact g_iret h 103 dX7_fork_103 hE rfl rfl ⟨(Nat.le_of_ble_eq_true rfl), (Nat.le_of_ble_eq_true rfl)⟩
      refine g_iload h 50 dX7_fork_50 rfl ?_
      refine g_bipush h 52 dX7_fork_52 (by decide) ?_
      refine g_icmp_ge h 54 99 (gRi (by omega)) (gRi (by omega)) dX7_fork_54 (by decide) (fun h5 => ?_) (fun h5 => ?_)
      · exact J6 (Int.not_lt.mpr h5)
      · exact J5 h5
  exact J7 _ _ _ (by omega) hF
-- Pagewright.frame
def FX7_frame (a_frame a_what : Int) (s : S2) : Option (Int × S2) :=
  rgx <| gd ((-2147483648) ≤ a_frame ∧ a_frame ≤ 2147483647) <| gd ((-2147483648) ≤ a_what ∧ a_what ≤ 2147483647) <| cb (FX7_demand (if ((0 ≤ a_frame) ∧ (a_frame ≤ 23)) ∧ ((0 ≤ a_what) ∧ (a_what ≤ 7)) then 1 else 0 : Int) s) fun r1 s1 => if gxc r1 ≠ 0 then some (r1, s1) else gd (0 ≤ a_frame ∧ a_frame ≤ 23) <| if a_what = 0 then bn (fun (v2 : Int) (s2 : S2) => some (v2, s2)) fun k1 => bn (fun (s3 : S2) => k1 3 s3) fun k2 => bn (fun (s4 : S2) => k1 (s4 15 a_frame) s4) fun k3 => if s1 15 a_frame = 0 then cb (FX7_isTranslated a_frame s1) fun r2 s5 => if r2 ≠ 0 then k2 s5 else k3 s5 else k3 s1 else bn (fun (v3 : Int) (s6 : S2) => some (v3, s6)) fun k4 => if s1 15 a_frame = 0 then k4 (-1) s1 else cb (FX2_number a_frame a_what s1) fun r3 s7 => k4 r3 s7
theorem rgX7_frame {a_frame a_what : Int} {s s0 : S2} {r0 : Int} (hF : FX7_frame a_frame a_what s = some (r0, s0)) : gxc r0 ≠ 0 ∨ (-2147483648) ≤ r0 ∧ r0 ≤ 2147483647 := (rgx_some hF).2
set_option maxRecDepth 100000 in
set_option maxHeartbeats 4000000 in
theorem ctX7_frame {l : Launch} {w : gW} {bs : Nat} (hl : l.stackTraces = false) {a_frame a_what : Int} {s m s0 : S2} {r0 : Int} (hF : FX7_frame a_frame a_what s = some (r0, s0)) : gMet l w bs yX7_frame cX7_frame 4 (some FieldType.int) 7 1 [(10, 0), (0, a_frame), (0, a_what)] (s, m) (gxc r0) (some (0, r0)) (s0, m) := by
  unfold FX7_frame at hF
  obtain ⟨hF, hr⟩ := rgx_some hF
  obtain ⟨q_a_frame, hF⟩ := gd_some hF
  obtain ⟨q_a_what, hF⟩ := gd_some hF
  refine g_start hl (by decide) (Nat.le_of_ble_eq_true rfl) rfl fun X h hE => ?_
  have h : gOk X "Pagewright" cX7_frame 4 7 1 6 := h
  have hE : gEnd X l w bs 1 (some FieldType.int) (gxc r0) (some (0, r0)) (s0, m) := hE
  show G X 0 0 0 [(10, 0), (0, a_frame), (0, a_what), (1, 0)] [] (s, m)
  suffices J1 : ∀ v1 : Int, v1 = (if ((0 ≤ a_frame) ∧ (a_frame ≤ 23)) ∧ ((0 ≤ a_what) ∧ (a_what ≤ 7)) then 1 else 0 : Int) → G X 0 0 25 [(10, 0), (0, a_frame), (0, a_what), (1, 0)] [(0, v1)] (s, m) by
    have J2 : ((0 ≤ a_frame) ∧ (a_frame ≤ 23)) ∧ ((0 ≤ a_what) ∧ (a_what ≤ 7)) → G X 0 0 20 [(10, 0), (0, a_frame), (0, a_what), (1, 0)] [] (s, m) := by
      intro h3
      refine g_iconst h 20 dX7_frame_20 ?_
      refine g_goto h 21 25 dX7_frame_21 (by decide) ?_
      exact J1 _ (if_pos h3).symm
    have J3 : ¬ (((0 ≤ a_frame) ∧ (a_frame ≤ 23)) ∧ ((0 ≤ a_what) ∧ (a_what ≤ 7))) → G X 0 0 24 [(10, 0), (0, a_frame), (0, a_what), (1, 0)] [] (s, m) := by
      intro h4
      refine g_iconst h 24 dX7_frame_24 ?_
      exact J1 _ (if_neg h4).symm
    refine g_iload_n h 0 dX7_frame_0 rfl ?_
    refine g_iconst h 1 dX7_frame_1 ?_
    refine g_bipush h 2 dX7_frame_2 (by decide) ?_
    refine g_callS h hE 4 dX7_frame_4 (cpX7_within (a_number := a_frame) (a_lowest := 0) (a_highest := 23) hl (by omega) (by omega) (by omega)) mwX7_within kw_410 rfl (Nat.le_of_ble_eq_true rfl) rfl (Nat.le_of_ble_eq_true rfl) ⟨Nat.le_of_ble_eq_true rfl, Nat.le_of_ble_eq_true rfl⟩ rfl rfl ?_
    show G X 0 0 7 [(10, 0), (0, a_frame), (0, a_what), (1, 0)] [(0, (if (0 ≤ a_frame) ∧ (a_frame ≤ 23) then 1 else 0 : Int))] (s, m)
    refine g_if_eq h 7 24 (gRi gR_ite) dX7_frame_7 (by decide) (fun h1 => ?_) (fun h1 => ?_)
    · exact J3 (fun q => (iz_f h1) q.1)
    · refine g_iload_n h 10 dX7_frame_10 rfl ?_
      refine g_iconst h 11 dX7_frame_11 ?_
      refine g_bipush h 12 dX7_frame_12 (by decide) ?_
      refine g_callS h hE 14 dX7_frame_14 (cpX7_within (a_number := a_what) (a_lowest := 0) (a_highest := 7) hl (by omega) (by omega) (by omega)) mwX7_within kw_410 rfl (Nat.le_of_ble_eq_true rfl) rfl (Nat.le_of_ble_eq_true rfl) ⟨Nat.le_of_ble_eq_true rfl, Nat.le_of_ble_eq_true rfl⟩ rfl rfl ?_
      show G X 0 0 17 [(10, 0), (0, a_frame), (0, a_what), (1, 0)] [(0, (if (0 ≤ a_what) ∧ (a_what ≤ 7) then 1 else 0 : Int))] (s, m)
      refine g_if_eq h 17 24 (gRi gR_ite) dX7_frame_17 (by decide) (fun h2 => ?_) (fun h2 => ?_)
      · exact J3 (fun q => (iz_f h2) q.2)
      · exact J2 ⟨(iz_t h1), (iz_t h2)⟩
  intro v1 e1
  subst e1
  obtain ⟨r1, s1, c1, hF⟩ := cb_some hF
  refine g_callSX h hE 25 dX7_frame_25 (ctX7_demand hl c1) mwX7_demand kw_413 rfl (Nat.le_of_ble_eq_true rfl) rfl (Nat.le_of_ble_eq_true rfl) ⟨Nat.le_of_ble_eq_true rfl, Nat.le_of_ble_eq_true rfl⟩ rfl rfl (fun x1 => ?_) (fun x1 => ?_)
  · have hF := ite_t x1 hF
    obtain ⟨e1, e2⟩ := some_2 hF
    exact ⟨by rw [e1], by rw [e2], (Nat.le_of_ble_eq_true rfl), (Nat.le_of_ble_eq_true rfl)⟩
  have hF := ite_f (fun q => q x1) hF
  show G X 1 6 28 [(10, 0), (0, a_frame), (0, a_what), (1, 0)] [] (s1, m)
  obtain ⟨q1, hF⟩ := gd_some hF
  refine g_aload_nq h 28 dX7_frame_28 rfl rfl ?_
  refine gf_pages h 29 dX7_frame_29 kw_362 ?_
  refine g_iload_n h 32 dX7_frame_32 rfl ?_
  refine al_pages h 33 dX7_frame_33 (by omega) ?_
  refine g_astore_n h 34 dX7_frame_34 (Nat.le_of_ble_eq_true rfl) rfl (L' := [(10, 0), (0, a_frame), (0, a_what), (5, a_frame)]) rfl ?_
  have J4 : a_what = 0 → G X 1 6 39 [(10, 0), (0, a_frame), (0, a_what), (5, a_frame)] [] (s1, m) := by
    intro h6
    have hF := ite_t h6 hF
    obtain ⟨k1, ek1, hF⟩ := bn_ex hF
    have J6 : ∀ (v2 : Int) (s2 : S2), ((-2147483648) ≤ v2 ∧ v2 ≤ 2147483647) → k1 v2 s2 = some (r0, s0) → G X 1 6 62 [(10, 0), (0, a_frame), (0, a_what), (5, a_frame)] [(0, v2)] (s2, m) := by
      intro v2 s2 q2 hF
      rw [ek1] at hF
      obtain ⟨e1, e2⟩ := some_2 hF
      rw [← e1, ← e2, gxc_0 (gRi (by omega))] at hE
      exact g_iret h 62 dX7_frame_62 hE rfl rfl ⟨(Nat.le_of_ble_eq_true rfl), (Nat.le_of_ble_eq_true rfl)⟩
    obtain ⟨k2, ek2, hF⟩ := bn_ex hF
    have J7 : ∀ (s3 : S2), k2 s3 = some (r0, s0) → G X 1 6 54 [(10, 0), (0, a_frame), (0, a_what), (5, a_frame)] [] (s3, m) := by
      intro s3 hF
      rw [ek2] at hF
      refine g_iconst h 54 dX7_frame_54 ?_
      refine g_goto h 55 62 dX7_frame_55 (by decide) ?_
      exact J6 _ _ (by omega) hF
    obtain ⟨k3, ek3, hF⟩ := bn_ex hF
    have J8 : ∀ (s4 : S2), k3 s4 = some (r0, s0) → G X 1 6 58 [(10, 0), (0, a_frame), (0, a_what), (5, a_frame)] [] (s4, m) := by
      intro s4 hF
      rw [ek3] at hF
      refine G_typ fun hT_s4 => ?_
      have t3 : 0 ≤ s4 15 a_frame ∧ s4 15 a_frame ≤ 2 := hT_s4.1 15 a_frame
      refine g_aload_nq h 58 dX7_frame_58 rfl rfl ?_
      refine gf_Page_kind h 59 dX7_frame_59 kw_284 (by omega) ?_
      exact J6 _ _ (by omega) hF
    refine G_typ fun hT_s1 => ?_
    have t1 : 0 ≤ s1 15 a_frame ∧ s1 15 a_frame ≤ 2 := hT_s1.1 15 a_frame
    have J9 : s1 15 a_frame = 0 → G X 1 6 46 [(10, 0), (0, a_frame), (0, a_what), (5, a_frame)] [] (s1, m) := by
      intro h8
      have hF := ite_t h8 hF
      refine g_aload_nq h 46 dX7_frame_46 rfl rfl ?_
      refine g_iload_n h 47 dX7_frame_47 rfl ?_
      obtain ⟨r2, s5, c2, hF⟩ := cb_some hF
      have t2 : 0 ≤ r2 ∧ r2 ≤ 1 := rgX7_isTranslated c2
      refine g_callV h hE 48 dX7_frame_48 (ctX7_isTranslated hl c2) mwX7_isTranslated kw_778 (by decide) (by decide) rfl (Nat.le_of_ble_eq_true rfl) rfl (Nat.le_of_ble_eq_true rfl) ⟨Nat.le_of_ble_eq_true rfl, Nat.le_of_ble_eq_true rfl⟩ rfl rfl ?_
      show G X 1 6 51 [(10, 0), (0, a_frame), (0, a_what), (5, a_frame)] [(0, r2)] (s5, m)
      refine g_if_eq h 51 58 (gRi (by omega)) dX7_frame_51 (by decide) (fun h9 => ?_) (fun h9 => ?_)
      · have hF := ite_f (fun q => q h9) hF
        exact J8 _ hF
      · have hF := ite_t h9 hF
        exact J7 _ hF
    have J10 : ¬ (s1 15 a_frame = 0) → G X 1 6 58 [(10, 0), (0, a_frame), (0, a_what), (5, a_frame)] [] (s1, m) := by
      intro h10
      have hF := ite_f h10 hF
      exact J8 _ hF
    refine g_aload_nq h 39 dX7_frame_39 rfl rfl ?_
    refine gf_Page_kind h 40 dX7_frame_40 kw_284 (by omega) ?_
    refine g_if_ne h 43 58 (gRi (by omega)) dX7_frame_43 (by decide) (fun h7 => ?_) (fun h7 => ?_)
    · exact J10 h7
    · exact J9 h7
  have J5 : ¬ (a_what = 0) → G X 1 6 63 [(10, 0), (0, a_frame), (0, a_what), (5, a_frame)] [] (s1, m) := by
    intro h11
    have hF := ite_f h11 hF
    obtain ⟨k4, ek4, hF⟩ := bn_ex hF
    have J11 : ∀ (v3 : Int) (s6 : S2), ((-2147483648) ≤ v3 ∧ v3 ≤ 2147483647) → k4 v3 s6 = some (r0, s0) → G X 1 6 79 [(10, 0), (0, a_frame), (0, a_what), (5, a_frame)] [(0, v3)] (s6, m) := by
      intro v3 s6 q3 hF
      rw [ek4] at hF
      obtain ⟨e1, e2⟩ := some_2 hF
      rw [← e1, ← e2, gxc_0 (gRi (by omega))] at hE
      exact g_iret h 79 dX7_frame_79 hE rfl rfl ⟨(Nat.le_of_ble_eq_true rfl), (Nat.le_of_ble_eq_true rfl)⟩
    refine G_typ fun hT_s1 => ?_
    have t4 : 0 ≤ s1 15 a_frame ∧ s1 15 a_frame ≤ 2 := hT_s1.1 15 a_frame
    have J12 : s1 15 a_frame = 0 → G X 1 6 70 [(10, 0), (0, a_frame), (0, a_what), (5, a_frame)] [] (s1, m) := by
      intro h13
      have hF := ite_t h13 hF
      refine g_iconst h 70 dX7_frame_70 ?_
      refine g_goto h 71 79 dX7_frame_71 (by decide) ?_
      exact J11 _ _ (by omega) hF
    have J13 : ¬ (s1 15 a_frame = 0) → G X 1 6 74 [(10, 0), (0, a_frame), (0, a_what), (5, a_frame)] [] (s1, m) := by
      intro h14
      have hF := ite_f h14 hF
      refine g_aload_nq h 74 dX7_frame_74 rfl rfl ?_
      refine g_iload_n h 75 dX7_frame_75 rfl ?_
      obtain ⟨r3, s7, c3, hF⟩ := cb_some hF
      have t5 : (-2147483648) ≤ r3 ∧ r3 ≤ 2147483647 := rgX2_number c3
      refine g_callV h hE 76 dX7_frame_76 (ctX2_number hl c3) mwX2_number kw_958 (by decide) (show _ ∧ _ < (24 : Int) by omega) rfl (Nat.le_of_ble_eq_true rfl) rfl (Nat.le_of_ble_eq_true rfl) ⟨Nat.le_of_ble_eq_true rfl, Nat.le_of_ble_eq_true rfl⟩ rfl rfl ?_
      show G X 1 6 79 [(10, 0), (0, a_frame), (0, a_what), (5, a_frame)] [(0, r3)] (s7, m)
      exact J11 _ _ (by omega) hF
    refine g_aload_nq h 63 dX7_frame_63 rfl rfl ?_
    refine gf_Page_kind h 64 dX7_frame_64 kw_284 (by omega) ?_
    refine g_if_ne h 67 74 (gRi (by omega)) dX7_frame_67 (by decide) (fun h12 => ?_) (fun h12 => ?_)
    · exact J13 h12
    · exact J12 h12
  refine g_iload_n h 35 dX7_frame_35 rfl ?_
  refine g_if_ne h 36 63 (gRi (by omega)) dX7_frame_36 (by decide) (fun h5 => ?_) (fun h5 => ?_)
  · exact J5 h5
  · exact J4 h5
-- Pagewright.handle
def FX7_handle (a_processor : Int) (s : S2) : Option (Int × S2) :=
  rgx <| gd ((-2147483648) ≤ a_processor ∧ a_processor ≤ 2147483647) <| cb (FX7_cacheOf a_processor s) fun r1 s1 => if gxc r1 ≠ 0 then some (r1, s1) else cb (FX0_obey r1 s1) fun r2 s2 => some (r2, s2)
theorem rgX7_handle {a_processor : Int} {s s0 : S2} {r0 : Int} (hF : FX7_handle a_processor s = some (r0, s0)) : gxc r0 ≠ 0 ∨ (-2147483648) ≤ r0 ∧ r0 ≤ 2147483647 := (rgx_some hF).2
set_option maxRecDepth 100000 in
set_option maxHeartbeats 4000000 in
theorem ctX7_handle {l : Launch} {w : gW} {bs : Nat} (hl : l.stackTraces = false) {a_processor : Int} {s m s0 : S2} {r0 : Int} (hF : FX7_handle a_processor s = some (r0, s0)) : gMet l w bs yX7_handle cX7_handle 2 (some FieldType.int) 7 1 [(10, 0), (0, a_processor)] (s, m) (gxc r0) (some (0, r0)) (s0, m) := by
  unfold FX7_handle at hF
  obtain ⟨hF, hr⟩ := rgx_some hF
  obtain ⟨q_a_processor, hF⟩ := gd_some hF
  refine g_start hl (by decide) (Nat.le_of_ble_eq_true rfl) rfl fun X h hE => ?_
  have h : gOk X "Pagewright" cX7_handle 2 7 1 6 := h
  have hE : gEnd X l w bs 1 (some FieldType.int) (gxc r0) (some (0, r0)) (s0, m) := hE
  show G X 0 0 0 [(10, 0), (0, a_processor)] [] (s, m)
  refine g_aload_nq h 0 dX7_handle_0 rfl rfl ?_
  refine g_iload_n h 1 dX7_handle_1 rfl ?_
  obtain ⟨r1, s1, c1, hF⟩ := cb_some hF
  refine g_callVX h hE 2 dX7_handle_2 (ctX7_cacheOf hl c1) mwX7_cacheOf kw_674 (by decide) (by decide) rfl (Nat.le_of_ble_eq_true rfl) rfl (Nat.le_of_ble_eq_true rfl) ⟨Nat.le_of_ble_eq_true rfl, Nat.le_of_ble_eq_true rfl⟩ rfl rfl (fun x1 => ?_) (fun x1 => ?_)
  · have hF := ite_t x1 hF
    obtain ⟨e1, e2⟩ := some_2 hF
    exact ⟨by rw [e1], by rw [e2], (Nat.le_of_ble_eq_true rfl), (Nat.le_of_ble_eq_true rfl)⟩
  have hF := ite_f (fun q => q x1) hF
  have t1 : 0 ≤ r1 ∧ r1 ≤ 1 := (rgX7_cacheOf c1).resolve_left (fun q => q x1)
  show G X 1 6 5 [(10, 0), (0, a_processor)] [(3, r1)] (s1, m)
  obtain ⟨r2, s2, c2, hF⟩ := cb_some hF
  have t2 : 0 ≤ r2 ∧ r2 ≤ 4 := rgX0_obey c2
  refine g_callV h hE 5 dX7_handle_5 (ctX0_obey hl c2) mwX0_obey kw_683 (by decide) (show _ ∧ _ < (2 : Int) by omega) rfl (Nat.le_of_ble_eq_true rfl) rfl (Nat.le_of_ble_eq_true rfl) ⟨Nat.le_of_ble_eq_true rfl, Nat.le_of_ble_eq_true rfl⟩ rfl rfl ?_
  show G X 1 6 8 [(10, 0), (0, a_processor)] [(0, r2)] (s2, m)
  obtain ⟨e1, e2⟩ := some_2 hF
  rw [← e1, ← e2, gxc_0 (gRi (by omega))] at hE
  exact g_iret h 8 dX7_handle_8 hE rfl rfl ⟨(Nat.le_of_ble_eq_true rfl), (Nat.le_of_ble_eq_true rfl)⟩
-- Pagewright.join
def FX7_join (a_space a_address : Int) (s : S2) : Option (Int × S2) :=
  rgx <| gd ((-2147483648) ≤ a_space ∧ a_space ≤ 2147483647) <| gd ((-2147483648) ≤ a_address ∧ a_address ≤ 2147483647) <| cb (FX7_known a_space s) fun r1 s1 => if gxc r1 ≠ 0 then some (r1, s1) else cb (FX7_demand (if ((0 ≤ a_address) ∧ (a_address ≤ 28)) ∧ (a_address % 4 = 0) then 1 else 0 : Int) s1) fun r2 s2 => if gxc r2 ≠ 0 then some (r2, s2) else gd (0 ≤ a_address ∧ a_address ≤ 31) <| bn (fun (v2 : Int) (s3 : S2) => cb (FX7_permit v2 s3) fun r4 s7 => if gxc r4 ≠ 0 then some (r4, s7) else cb (FX7_setJoined ((32 * r1 + a_address) / 4) 1 s7) fun r5 s8 => cb (FX7_blocks r1 s8) fun r6 s9 => some (r6, s9)) fun k1 => bn (fun (s4 : S2) => k1 1 s4) fun k2 => bn (fun (s5 : S2) => k1 0 s5) fun k3 => gd (0 ≤ (32 * r1 + a_address) / 4 ∧ (32 * r1 + a_address) / 4 ≤ 47) <| if ¬ (((0 ≤ (32 * r1 + a_address) / 4) ∧ ((32 * r1 + a_address) / 4 < 48)) ∧ (s2 46 ((32 * r1 + a_address) / 4) ≠ 0)) then cb (FX7_canBeBlock r1 a_address s2) fun r3 s6 => if r3 ≠ 0 then k2 s6 else k3 s6 else k3 s2
theorem rgX7_join {a_space a_address : Int} {s s0 : S2} {r0 : Int} (hF : FX7_join a_space a_address s = some (r0, s0)) : gxc r0 ≠ 0 ∨ (-2147483648) ≤ r0 ∧ r0 ≤ 2147483647 := (rgx_some hF).2
set_option maxRecDepth 100000 in
set_option maxHeartbeats 4000000 in
theorem ctX7_join {l : Launch} {w : gW} {bs : Nat} (hl : l.stackTraces = false) {a_space a_address : Int} {s m s0 : S2} {r0 : Int} (hF : FX7_join a_space a_address s = some (r0, s0)) : gMet l w bs yX7_join cX7_join 5 (some FieldType.int) 7 3 [(10, 0), (0, a_space), (0, a_address)] (s, m) (gxc r0) (some (0, r0)) (s0, m) := by
  unfold FX7_join at hF
  obtain ⟨hF, hr⟩ := rgx_some hF
  obtain ⟨q_a_space, hF⟩ := gd_some hF
  obtain ⟨q_a_address, hF⟩ := gd_some hF
  refine g_start hl (by decide) (Nat.le_of_ble_eq_true rfl) rfl fun X h hE => ?_
  have h : gOk X "Pagewright" cX7_join 5 7 3 18 := h
  have hE : gEnd X l w bs 3 (some FieldType.int) (gxc r0) (some (0, r0)) (s0, m) := hE
  show G X 0 0 0 [(10, 0), (0, a_space), (0, a_address), (1, 0), (1, 0)] [] (s, m)
  refine g_aload_nq h 0 dX7_join_0 rfl rfl ?_
  refine g_iload_n h 1 dX7_join_1 rfl ?_
  obtain ⟨r1, s1, c1, hF⟩ := cb_some hF
  refine g_callVX h hE 2 dX7_join_2 (ctX7_known hl c1) mwX7_known kw_515 (by decide) (by decide) rfl (Nat.le_of_ble_eq_true rfl) rfl (Nat.le_of_ble_eq_true rfl) ⟨Nat.le_of_ble_eq_true rfl, Nat.le_of_ble_eq_true rfl⟩ rfl rfl (fun x1 => ?_) (fun x1 => ?_)
  · have hF := ite_t x1 hF
    obtain ⟨e1, e2⟩ := some_2 hF
    exact ⟨by rw [e1], by rw [e2], (Nat.le_of_ble_eq_true rfl), (Nat.le_of_ble_eq_true rfl)⟩
  have hF := ite_f (fun q => q x1) hF
  have t1 : 0 ≤ r1 ∧ r1 ≤ 5 := (rgX7_known c1).resolve_left (fun q => q x1)
  show G X 1 6 5 [(10, 0), (0, a_space), (0, a_address), (1, 0), (1, 0)] [(8, r1)] (s1, m)
  refine g_astore_n h 5 dX7_join_5 (Nat.le_of_ble_eq_true rfl) rfl (L' := [(10, 0), (0, a_space), (0, a_address), (8, r1), (1, 0)]) rfl ?_
  suffices J1 : ∀ v1 : Int, v1 = (if ((0 ≤ a_address) ∧ (a_address ≤ 28)) ∧ (a_address % 4 = 0) then 1 else 0 : Int) → G X 1 6 27 [(10, 0), (0, a_space), (0, a_address), (8, r1), (1, 0)] [(0, v1)] (s1, m) by
    have J2 : ((0 ≤ a_address) ∧ (a_address ≤ 28)) ∧ (a_address % 4 = 0) → G X 1 6 22 [(10, 0), (0, a_space), (0, a_address), (8, r1), (1, 0)] [] (s1, m) := by
      intro h3
      refine g_iconst h 22 dX7_join_22 ?_
      refine g_goto h 23 27 dX7_join_23 (by decide) ?_
      exact J1 _ (if_pos h3).symm
    have J3 : ¬ (((0 ≤ a_address) ∧ (a_address ≤ 28)) ∧ (a_address % 4 = 0)) → G X 1 6 26 [(10, 0), (0, a_space), (0, a_address), (8, r1), (1, 0)] [] (s1, m) := by
      intro h4
      refine g_iconst h 26 dX7_join_26 ?_
      exact J1 _ (if_neg h4).symm
    refine g_iload_n h 6 dX7_join_6 rfl ?_
    refine g_iconst h 7 dX7_join_7 ?_
    refine g_bipush h 8 dX7_join_8 (by decide) ?_
    refine g_callS h hE 10 dX7_join_10 (cpX7_within (a_number := a_address) (a_lowest := 0) (a_highest := 28) hl (by omega) (by omega) (by omega)) mwX7_within kw_410 rfl (Nat.le_of_ble_eq_true rfl) rfl (Nat.le_of_ble_eq_true rfl) ⟨Nat.le_of_ble_eq_true rfl, Nat.le_of_ble_eq_true rfl⟩ rfl rfl ?_
    show G X 1 6 13 [(10, 0), (0, a_space), (0, a_address), (8, r1), (1, 0)] [(0, (if (0 ≤ a_address) ∧ (a_address ≤ 28) then 1 else 0 : Int))] (s1, m)
    refine g_if_eq h 13 26 (gRi gR_ite) dX7_join_13 (by decide) (fun h1 => ?_) (fun h1 => ?_)
    · exact J3 (fun q => (iz_f h1) q.1)
    · refine g_iload_n h 16 dX7_join_16 rfl ?_
      refine g_iconst h 17 dX7_join_17 ?_
      refine g_irem h 18 dX7_join_18 (by omega) (by omega) ?_
      refine g_if_ne h 19 26 (gRi (by omega)) dX7_join_19 (by decide) (fun h2 => ?_) (fun h2 => ?_)
      · exact J3 (fun q => h2 q.2)
      · exact J2 ⟨(iz_t h1), h2⟩
  intro v1 e1
  subst e1
  obtain ⟨r2, s2, c2, hF⟩ := cb_some hF
  refine g_callSX h hE 27 dX7_join_27 (ctX7_demand hl c2) mwX7_demand kw_413 rfl (Nat.le_of_ble_eq_true rfl) rfl (Nat.le_of_ble_eq_true rfl) ⟨Nat.le_of_ble_eq_true rfl, Nat.le_of_ble_eq_true rfl⟩ rfl rfl (fun x2 => ?_) (fun x2 => ?_)
  · have hF := ite_t x2 hF
    obtain ⟨e1, e2⟩ := some_2 hF
    exact ⟨by rw [e1], by rw [e2], (Nat.le_of_ble_eq_true rfl), (Nat.le_of_ble_eq_true rfl)⟩
  have hF := ite_f (fun q => q x2) hF
  show G X 2 12 30 [(10, 0), (0, a_space), (0, a_address), (8, r1), (1, 0)] [] (s2, m)
  obtain ⟨q1, hF⟩ := gd_some hF
  refine g_aload_nq h 30 dX7_join_30 rfl rfl ?_
  refine gf_Space_entries h 31 dX7_join_31 kw_254 (by omega) ?_
  refine g_iload_n h 34 dX7_join_34 rfl ?_
  refine al_Space_entries h 35 dX7_join_35 (by omega) (by omega) ?_
  refine gf_Entry_block h 36 dX7_join_36 kw_191 (by omega) ?_
  refine g_istore h 39 dX7_join_39 (Nat.le_of_ble_eq_true rfl) rfl (L' := [(10, 0), (0, a_space), (0, a_address), (8, r1), (0, (32 * r1 + a_address) / 4)]) rfl ?_
  obtain ⟨k1, ek1, hF⟩ := bn_ex hF
  have J4 : ∀ (v2 : Int) (s3 : S2), (0 ≤ v2 ∧ v2 ≤ 1) → k1 v2 s3 = some (r0, s0) → G X 2 12 63 [(10, 0), (0, a_space), (0, a_address), (8, r1), (0, (32 * r1 + a_address) / 4)] [(0, v2)] (s3, m) := by
    intro v2 s3 q3 hF
    rw [ek1] at hF
    obtain ⟨r4, s7, c4, hF⟩ := cb_some hF
    refine g_callSX h hE 63 dX7_join_63 (ctX7_permit hl c4) mwX7_permit kw_484 rfl (Nat.le_of_ble_eq_true rfl) rfl (Nat.le_of_ble_eq_true rfl) ⟨Nat.le_of_ble_eq_true rfl, Nat.le_of_ble_eq_true rfl⟩ rfl rfl (fun x3 => ?_) (fun x3 => ?_)
    · have hF := ite_t x3 hF
      obtain ⟨e1, e2⟩ := some_2 hF
      exact ⟨by rw [e1], by rw [e2], (Nat.le_of_ble_eq_true rfl), (Nat.le_of_ble_eq_true rfl)⟩
    have hF := ite_f (fun q => q x3) hF
    show G X 3 18 66 [(10, 0), (0, a_space), (0, a_address), (8, r1), (0, (32 * r1 + a_address) / 4)] [] (s7, m)
    refine g_aload_nq h 66 dX7_join_66 rfl rfl ?_
    refine g_iload h 67 dX7_join_67 rfl ?_
    refine g_iconst h 69 dX7_join_69 ?_
    obtain ⟨r5, s8, c5, hF⟩ := cb_some hF
    refine g_callV h hE 70 dX7_join_70 (ctX7_setJoined hl c5) mwX7_setJoined kw_573 (by decide) (by decide) rfl (Nat.le_of_ble_eq_true rfl) rfl (Nat.le_of_ble_eq_true rfl) ⟨Nat.le_of_ble_eq_true rfl, Nat.le_of_ble_eq_true rfl⟩ rfl rfl ?_
    show G X 3 18 73 [(10, 0), (0, a_space), (0, a_address), (8, r1), (0, (32 * r1 + a_address) / 4)] [] (s8, m)
    refine g_aload_nq h 73 dX7_join_73 rfl rfl ?_
    refine g_aload_nq h 74 dX7_join_74 rfl rfl ?_
    obtain ⟨r6, s9, c6, hF⟩ := cb_some hF
    have t4 : 0 ≤ r6 ∧ r6 ≤ 8 := rgX7_blocks c6
    refine g_callV h hE 75 dX7_join_75 (ctX7_blocks hl c6) mwX7_blocks kw_899 (by decide) (by decide) rfl (Nat.le_of_ble_eq_true rfl) rfl (Nat.le_of_ble_eq_true rfl) ⟨Nat.le_of_ble_eq_true rfl, Nat.le_of_ble_eq_true rfl⟩ rfl rfl ?_
    show G X 3 18 78 [(10, 0), (0, a_space), (0, a_address), (8, r1), (0, (32 * r1 + a_address) / 4)] [(0, r6)] (s9, m)
    obtain ⟨e1, e2⟩ := some_2 hF
    rw [← e1, ← e2, gxc_0 (gRi (by omega))] at hE
    exact g_iret h 78 dX7_join_78 hE rfl rfl ⟨(Nat.le_of_ble_eq_true rfl), (Nat.le_of_ble_eq_true rfl)⟩
  obtain ⟨k2, ek2, hF⟩ := bn_ex hF
  have J5 : ∀ (s4 : S2), k2 s4 = some (r0, s0) → G X 2 12 58 [(10, 0), (0, a_space), (0, a_address), (8, r1), (0, (32 * r1 + a_address) / 4)] [] (s4, m) := by
    intro s4 hF
    rw [ek2] at hF
    refine g_iconst h 58 dX7_join_58 ?_
    refine g_goto h 59 63 dX7_join_59 (by decide) ?_
    exact J4 _ _ (by omega) hF
  obtain ⟨k3, ek3, hF⟩ := bn_ex hF
  have J6 : ∀ (s5 : S2), k3 s5 = some (r0, s0) → G X 2 12 62 [(10, 0), (0, a_space), (0, a_address), (8, r1), (0, (32 * r1 + a_address) / 4)] [] (s5, m) := by
    intro s5 hF
    rw [ek3] at hF
    refine g_iconst h 62 dX7_join_62 ?_
    exact J4 _ _ (by omega) hF
  refine G_typ fun hT_s2 => ?_
  have t2 : 0 ≤ s2 46 ((32 * r1 + a_address) / 4) ∧ s2 46 ((32 * r1 + a_address) / 4) ≤ 1 := hT_s2.1 46 ((32 * r1 + a_address) / 4)
  obtain ⟨q2, hF⟩ := gd_some hF
  have J7 : ¬ (((0 ≤ (32 * r1 + a_address) / 4) ∧ ((32 * r1 + a_address) / 4 < 48)) ∧ (s2 46 ((32 * r1 + a_address) / 4) ≠ 0)) → G X 2 12 50 [(10, 0), (0, a_space), (0, a_address), (8, r1), (0, (32 * r1 + a_address) / 4)] [] (s2, m) := by
    intro h6
    have hF := ite_t h6 hF
    refine g_aload_nq h 50 dX7_join_50 rfl rfl ?_
    refine g_iload_n h 51 dX7_join_51 rfl ?_
    obtain ⟨r3, s6, c3, hF⟩ := cb_some hF
    have t3 : 0 ≤ r3 ∧ r3 ≤ 1 := rgX7_canBeBlock c3
    refine g_callS h hE 52 dX7_join_52 (ctX7_canBeBlock hl c3) mwX7_canBeBlock kw_891 rfl (Nat.le_of_ble_eq_true rfl) rfl (Nat.le_of_ble_eq_true rfl) ⟨Nat.le_of_ble_eq_true rfl, Nat.le_of_ble_eq_true rfl⟩ rfl rfl ?_
    show G X 2 12 55 [(10, 0), (0, a_space), (0, a_address), (8, r1), (0, (32 * r1 + a_address) / 4)] [(0, r3)] (s6, m)
    refine g_if_eq h 55 62 (gRi (by omega)) dX7_join_55 (by decide) (fun h7 => ?_) (fun h7 => ?_)
    · have hF := ite_f (fun q => q h7) hF
      exact J6 _ hF
    · have hF := ite_t h7 hF
      exact J5 _ hF
  have J8 : ¬ (¬ (((0 ≤ (32 * r1 + a_address) / 4) ∧ ((32 * r1 + a_address) / 4 < 48)) ∧ (s2 46 ((32 * r1 + a_address) / 4) ≠ 0))) → G X 2 12 62 [(10, 0), (0, a_space), (0, a_address), (8, r1), (0, (32 * r1 + a_address) / 4)] [] (s2, m) := by
    intro h8
    have hF := ite_f h8 hF
    exact J6 _ hF
  refine g_aload_nq h 41 dX7_join_41 rfl rfl ?_
  refine g_iload h 42 dX7_join_42 rfl ?_
  refine g_callV h hE 44 dX7_join_44 (cpX7_isJoined (a_block := (32 * r1 + a_address) / 4) hl (by omega)) mwX7_isJoined kw_887 (by decide) (by decide) rfl (Nat.le_of_ble_eq_true rfl) rfl (Nat.le_of_ble_eq_true rfl) ⟨Nat.le_of_ble_eq_true rfl, Nat.le_of_ble_eq_true rfl⟩ rfl rfl ?_
  show G X 2 12 47 [(10, 0), (0, a_space), (0, a_address), (8, r1), (0, (32 * r1 + a_address) / 4)] [(0, (if ((0 ≤ (32 * r1 + a_address) / 4) ∧ ((32 * r1 + a_address) / 4 < 48)) ∧ (s2 46 ((32 * r1 + a_address) / 4) ≠ 0) then 1 else 0 : Int))] (s2, m)
  refine g_if_ne h 47 62 (gRi gR_ite) dX7_join_47 (by decide) (fun h5 => ?_) (fun h5 => ?_)
  · exact J8 (fun q => q (iz_t h5))
  · exact J7 (iz_f h5)
-- Pagewright.limit
def FX7_limit (a_group a_pages : Int) (s : S2) : Option (Int × S2) :=
  rgx <| gd ((-2147483648) ≤ a_group ∧ a_group ≤ 2147483647) <| gd ((-2147483648) ≤ a_pages ∧ a_pages ≤ 2147483647) <| cb (FX7_demand (if ((0 ≤ a_group) ∧ (a_group ≤ 2)) ∧ ((a_pages = (-1)) ∨ ((1 ≤ a_pages) ∧ (a_pages ≤ 24))) then 1 else 0 : Int) s) fun r1 s1 => if gxc r1 ≠ 0 then some (r1, s1) else gd (0 ≤ a_group ∧ a_group ≤ 2) <| gd ((-1) ≤ a_pages ∧ a_pages ≤ 24) <| bn (upd2 s1 47 a_group a_pages) fun s2 => cb (FX7_pagesOf a_group s2) fun r2 s3 => some (r2, s3)
theorem rgX7_limit {a_group a_pages : Int} {s s0 : S2} {r0 : Int} (hF : FX7_limit a_group a_pages s = some (r0, s0)) : gxc r0 ≠ 0 ∨ (-2147483648) ≤ r0 ∧ r0 ≤ 2147483647 := (rgx_some hF).2
set_option maxRecDepth 100000 in
set_option maxHeartbeats 4000000 in
theorem ctX7_limit {l : Launch} {w : gW} {bs : Nat} (hl : l.stackTraces = false) {a_group a_pages : Int} {s m s0 : S2} {r0 : Int} (hF : FX7_limit a_group a_pages s = some (r0, s0)) : gMet l w bs yX7_limit cX7_limit 3 (some FieldType.int) 7 1 [(10, 0), (0, a_group), (0, a_pages)] (s, m) (gxc r0) (some (0, r0)) (s0, m) := by
  unfold FX7_limit at hF
  obtain ⟨hF, hr⟩ := rgx_some hF
  obtain ⟨q_a_group, hF⟩ := gd_some hF
  obtain ⟨q_a_pages, hF⟩ := gd_some hF
  refine g_start hl (by decide) (Nat.le_of_ble_eq_true rfl) rfl fun X h hE => ?_
  have h : gOk X "Pagewright" cX7_limit 3 7 1 6 := h
  have hE : gEnd X l w bs 1 (some FieldType.int) (gxc r0) (some (0, r0)) (s0, m) := hE
  show G X 0 0 0 [(10, 0), (0, a_group), (0, a_pages)] [] (s, m)
  suffices J1 : ∀ v1 : Int, v1 = (if ((0 ≤ a_group) ∧ (a_group ≤ 2)) ∧ ((a_pages = (-1)) ∨ ((1 ≤ a_pages) ∧ (a_pages ≤ 24))) then 1 else 0 : Int) → G X 0 0 29 [(10, 0), (0, a_group), (0, a_pages)] [(0, v1)] (s, m) by
    have J2 : ((0 ≤ a_group) ∧ (a_group ≤ 2)) ∧ ((a_pages = (-1)) ∨ ((1 ≤ a_pages) ∧ (a_pages ≤ 24))) → G X 0 0 24 [(10, 0), (0, a_group), (0, a_pages)] [] (s, m) := by
      intro h4
      refine g_iconst h 24 dX7_limit_24 ?_
      refine g_goto h 25 29 dX7_limit_25 (by decide) ?_
      exact J1 _ (if_pos h4).symm
    have J3 : ¬ (((0 ≤ a_group) ∧ (a_group ≤ 2)) ∧ ((a_pages = (-1)) ∨ ((1 ≤ a_pages) ∧ (a_pages ≤ 24)))) → G X 0 0 28 [(10, 0), (0, a_group), (0, a_pages)] [] (s, m) := by
      intro h5
      refine g_iconst h 28 dX7_limit_28 ?_
      exact J1 _ (if_neg h5).symm
    refine g_iload_n h 0 dX7_limit_0 rfl ?_
    refine g_iconst h 1 dX7_limit_1 ?_
    refine g_iconst h 2 dX7_limit_2 ?_
    refine g_callS h hE 3 dX7_limit_3 (cpX7_within (a_number := a_group) (a_lowest := 0) (a_highest := 2) hl (by omega) (by omega) (by omega)) mwX7_within kw_410 rfl (Nat.le_of_ble_eq_true rfl) rfl (Nat.le_of_ble_eq_true rfl) ⟨Nat.le_of_ble_eq_true rfl, Nat.le_of_ble_eq_true rfl⟩ rfl rfl ?_
    show G X 0 0 6 [(10, 0), (0, a_group), (0, a_pages)] [(0, (if (0 ≤ a_group) ∧ (a_group ≤ 2) then 1 else 0 : Int))] (s, m)
    refine g_if_eq h 6 28 (gRi gR_ite) dX7_limit_6 (by decide) (fun h1 => ?_) (fun h1 => ?_)
    · exact J3 (fun q => (iz_f h1) q.1)
    · refine g_iload_n h 9 dX7_limit_9 rfl ?_
      refine g_iconst h 10 dX7_limit_10 ?_
      refine g_icmp_eq h 11 24 (gRi (by omega)) (gRi (by omega)) dX7_limit_11 (by decide) (fun h2 => ?_) (fun h2 => ?_)
      · exact J2 ⟨(iz_t h1), (Or.inl h2)⟩
      · refine g_iload_n h 14 dX7_limit_14 rfl ?_
        refine g_iconst h 15 dX7_limit_15 ?_
        refine g_bipush h 16 dX7_limit_16 (by decide) ?_
        refine g_callS h hE 18 dX7_limit_18 (cpX7_within (a_number := a_pages) (a_lowest := 1) (a_highest := 24) hl (by omega) (by omega) (by omega)) mwX7_within kw_410 rfl (Nat.le_of_ble_eq_true rfl) rfl (Nat.le_of_ble_eq_true rfl) ⟨Nat.le_of_ble_eq_true rfl, Nat.le_of_ble_eq_true rfl⟩ rfl rfl ?_
        show G X 0 0 21 [(10, 0), (0, a_group), (0, a_pages)] [(0, (if (1 ≤ a_pages) ∧ (a_pages ≤ 24) then 1 else 0 : Int))] (s, m)
        refine g_if_eq h 21 28 (gRi gR_ite) dX7_limit_21 (by decide) (fun h3 => ?_) (fun h3 => ?_)
        · exact J3 (fun q => (fun q => q.elim h2 (iz_f h3)) q.2)
        · exact J2 ⟨(iz_t h1), (Or.inr (iz_t h3))⟩
  intro v1 e1
  subst e1
  obtain ⟨r1, s1, c1, hF⟩ := cb_some hF
  refine g_callSX h hE 29 dX7_limit_29 (ctX7_demand hl c1) mwX7_demand kw_413 rfl (Nat.le_of_ble_eq_true rfl) rfl (Nat.le_of_ble_eq_true rfl) ⟨Nat.le_of_ble_eq_true rfl, Nat.le_of_ble_eq_true rfl⟩ rfl rfl (fun x1 => ?_) (fun x1 => ?_)
  · have hF := ite_t x1 hF
    obtain ⟨e1, e2⟩ := some_2 hF
    exact ⟨by rw [e1], by rw [e2], (Nat.le_of_ble_eq_true rfl), (Nat.le_of_ble_eq_true rfl)⟩
  have hF := ite_f (fun q => q x1) hF
  show G X 1 6 32 [(10, 0), (0, a_group), (0, a_pages)] [] (s1, m)
  refine g_aload_nq h 32 dX7_limit_32 rfl rfl ?_
  refine gf_limits h 33 dX7_limit_33 kw_368 ?_
  refine g_iload_n h 36 dX7_limit_36 rfl ?_
  obtain ⟨q1, hF⟩ := gd_some hF
  refine g_iload_n h 37 dX7_limit_37 rfl ?_
  obtain ⟨q2, hF⟩ := gd_some hF
  obtain ⟨s2, es2, hF⟩ := bn_ex hF
  refine as_limits h 38 dX7_limit_38 (by omega) (by omega) ?_
  rw [← es2]
  refine g_aload_nq h 39 dX7_limit_39 rfl rfl ?_
  refine g_iload_n h 40 dX7_limit_40 rfl ?_
  obtain ⟨r2, s3, c2, hF⟩ := cb_some hF
  have t1 : 0 ≤ r2 ∧ r2 ≤ 48 := rgX7_pagesOf c2
  refine g_callV h hE 41 dX7_limit_41 (ctX7_pagesOf hl c2) mwX7_pagesOf kw_655 (by decide) (by decide) rfl (Nat.le_of_ble_eq_true rfl) rfl (Nat.le_of_ble_eq_true rfl) ⟨Nat.le_of_ble_eq_true rfl, Nat.le_of_ble_eq_true rfl⟩ rfl rfl ?_
  show G X 1 6 44 [(10, 0), (0, a_group), (0, a_pages)] [(0, r2)] (s3, m)
  obtain ⟨e1, e2⟩ := some_2 hF
  rw [← e1, ← e2, gxc_0 (gRi (by omega))] at hE
  exact g_iret h 44 dX7_limit_44 hE rfl rfl ⟨(Nat.le_of_ble_eq_true rfl), (Nat.le_of_ble_eq_true rfl)⟩
-- Pagewright.list
def FX7_list (a_list a_place : Int) (s : S2) : Option (Int × S2) :=
  rgx <| gd ((-2147483648) ≤ a_list ∧ a_list ≤ 2147483647) <| gd ((-2147483648) ≤ a_place ∧ a_place ≤ 2147483647) <| cb (FX7_demand (if ((0 ≤ a_list) ∧ (a_list ≤ 1)) ∧ (0 ≤ a_place) then 1 else 0 : Int) s) fun r1 s1 => if gxc r1 ≠ 0 then some (r1, s1) else cb (FX7_frameAt a_list a_place s1) fun r2 s2 => some (r2, s2)
theorem rgX7_list {a_list a_place : Int} {s s0 : S2} {r0 : Int} (hF : FX7_list a_list a_place s = some (r0, s0)) : gxc r0 ≠ 0 ∨ (-2147483648) ≤ r0 ∧ r0 ≤ 2147483647 := (rgx_some hF).2
set_option maxRecDepth 100000 in
set_option maxHeartbeats 4000000 in
theorem ctX7_list {l : Launch} {w : gW} {bs : Nat} (hl : l.stackTraces = false) {a_list a_place : Int} {s m s0 : S2} {r0 : Int} (hF : FX7_list a_list a_place s = some (r0, s0)) : gMet l w bs yX7_list cX7_list 3 (some FieldType.int) 7 1 [(10, 0), (0, a_list), (0, a_place)] (s, m) (gxc r0) (some (0, r0)) (s0, m) := by
  unfold FX7_list at hF
  obtain ⟨hF, hr⟩ := rgx_some hF
  obtain ⟨q_a_list, hF⟩ := gd_some hF
  obtain ⟨q_a_place, hF⟩ := gd_some hF
  refine g_start hl (by decide) (Nat.le_of_ble_eq_true rfl) rfl fun X h hE => ?_
  have h : gOk X "Pagewright" cX7_list 3 7 1 6 := h
  have hE : gEnd X l w bs 1 (some FieldType.int) (gxc r0) (some (0, r0)) (s0, m) := hE
  show G X 0 0 0 [(10, 0), (0, a_list), (0, a_place)] [] (s, m)
  suffices J1 : ∀ v1 : Int, v1 = (if ((0 ≤ a_list) ∧ (a_list ≤ 1)) ∧ (0 ≤ a_place) then 1 else 0 : Int) → G X 0 0 18 [(10, 0), (0, a_list), (0, a_place)] [(0, v1)] (s, m) by
    have J2 : ((0 ≤ a_list) ∧ (a_list ≤ 1)) ∧ (0 ≤ a_place) → G X 0 0 13 [(10, 0), (0, a_list), (0, a_place)] [] (s, m) := by
      intro h3
      refine g_iconst h 13 dX7_list_13 ?_
      refine g_goto h 14 18 dX7_list_14 (by decide) ?_
      exact J1 _ (if_pos h3).symm
    have J3 : ¬ (((0 ≤ a_list) ∧ (a_list ≤ 1)) ∧ (0 ≤ a_place)) → G X 0 0 17 [(10, 0), (0, a_list), (0, a_place)] [] (s, m) := by
      intro h4
      refine g_iconst h 17 dX7_list_17 ?_
      exact J1 _ (if_neg h4).symm
    refine g_iload_n h 0 dX7_list_0 rfl ?_
    refine g_iconst h 1 dX7_list_1 ?_
    refine g_iconst h 2 dX7_list_2 ?_
    refine g_callS h hE 3 dX7_list_3 (cpX7_within (a_number := a_list) (a_lowest := 0) (a_highest := 1) hl (by omega) (by omega) (by omega)) mwX7_within kw_410 rfl (Nat.le_of_ble_eq_true rfl) rfl (Nat.le_of_ble_eq_true rfl) ⟨Nat.le_of_ble_eq_true rfl, Nat.le_of_ble_eq_true rfl⟩ rfl rfl ?_
    show G X 0 0 6 [(10, 0), (0, a_list), (0, a_place)] [(0, (if (0 ≤ a_list) ∧ (a_list ≤ 1) then 1 else 0 : Int))] (s, m)
    refine g_if_eq h 6 17 (gRi gR_ite) dX7_list_6 (by decide) (fun h1 => ?_) (fun h1 => ?_)
    · exact J3 (fun q => (iz_f h1) q.1)
    · refine g_iload_n h 9 dX7_list_9 rfl ?_
      refine g_if_lt h 10 17 (gRi (by omega)) dX7_list_10 (by decide) (fun h2 => ?_) (fun h2 => ?_)
      · exact J3 (fun q => (Int.not_le.mpr h2) q.2)
      · exact J2 ⟨(iz_t h1), h2⟩
  intro v1 e1
  subst e1
  obtain ⟨r1, s1, c1, hF⟩ := cb_some hF
  refine g_callSX h hE 18 dX7_list_18 (ctX7_demand hl c1) mwX7_demand kw_413 rfl (Nat.le_of_ble_eq_true rfl) rfl (Nat.le_of_ble_eq_true rfl) ⟨Nat.le_of_ble_eq_true rfl, Nat.le_of_ble_eq_true rfl⟩ rfl rfl (fun x1 => ?_) (fun x1 => ?_)
  · have hF := ite_t x1 hF
    obtain ⟨e1, e2⟩ := some_2 hF
    exact ⟨by rw [e1], by rw [e2], (Nat.le_of_ble_eq_true rfl), (Nat.le_of_ble_eq_true rfl)⟩
  have hF := ite_f (fun q => q x1) hF
  show G X 1 6 21 [(10, 0), (0, a_list), (0, a_place)] [] (s1, m)
  refine g_aload_nq h 21 dX7_list_21 rfl rfl ?_
  refine g_iload_n h 22 dX7_list_22 rfl ?_
  refine g_iload_n h 23 dX7_list_23 rfl ?_
  obtain ⟨r2, s2, c2, hF⟩ := cb_some hF
  have t1 : (-1) ≤ r2 ∧ r2 ≤ 23 := rgX7_frameAt c2
  refine g_callV h hE 24 dX7_list_24 (ctX7_frameAt hl c2) mwX7_frameAt kw_970 (by decide) (by decide) rfl (Nat.le_of_ble_eq_true rfl) rfl (Nat.le_of_ble_eq_true rfl) ⟨Nat.le_of_ble_eq_true rfl, Nat.le_of_ble_eq_true rfl⟩ rfl rfl ?_
  show G X 1 6 27 [(10, 0), (0, a_list), (0, a_place)] [(0, r2)] (s2, m)
  obtain ⟨e1, e2⟩ := some_2 hF
  rw [← e1, ← e2, gxc_0 (gRi (by omega))] at hE
  exact g_iret h 27 dX7_list_27 hE rfl rfl ⟨(Nat.le_of_ble_eq_true rfl), (Nat.le_of_ble_eq_true rfl)⟩
-- Pagewright.load
def FX7_load (a_processor a_space a_address : Int) (s : S2) : Option (Int × S2) :=
  rgx <| gd ((-2147483648) ≤ a_processor ∧ a_processor ≤ 2147483647) <| gd ((-2147483648) ≤ a_space ∧ a_space ≤ 2147483647) <| gd ((-2147483648) ≤ a_address ∧ a_address ≤ 2147483647) <| cb (FX7_cacheOf a_processor s) fun r1 s1 => if gxc r1 ≠ 0 then some (r1, s1) else cb (FX7_known a_space s1) fun r2 s2 => if gxc r2 ≠ 0 then some (r2, s2) else cb (FX7_demand (if (0 ≤ a_address) ∧ (a_address ≤ 31) then 1 else 0 : Int) s2) fun r3 s3 => if gxc r3 ≠ 0 then some (r3, s3) else cb (FX7_permit (s3 35 r2) s3) fun r4 s4 => if gxc r4 ≠ 0 then some (r4, s4) else cb (FX7_access r1 r2 a_address (-1) s4) fun r5 s5 => some (r5, s5)
theorem rgX7_load {a_processor a_space a_address : Int} {s s0 : S2} {r0 : Int} (hF : FX7_load a_processor a_space a_address s = some (r0, s0)) : gxc r0 ≠ 0 ∨ (-2147483648) ≤ r0 ∧ r0 ≤ 2147483647 := (rgx_some hF).2
set_option maxRecDepth 100000 in
set_option maxHeartbeats 4000000 in
theorem ctX7_load {l : Launch} {w : gW} {bs : Nat} (hl : l.stackTraces = false) {a_processor a_space a_address : Int} {s m s0 : S2} {r0 : Int} (hF : FX7_load a_processor a_space a_address s = some (r0, s0)) : gMet l w bs yX7_load cX7_load 6 (some FieldType.int) 7 4 [(10, 0), (0, a_processor), (0, a_space), (0, a_address)] (s, m) (gxc r0) (some (0, r0)) (s0, m) := by
  unfold FX7_load at hF
  obtain ⟨hF, hr⟩ := rgx_some hF
  obtain ⟨q_a_processor, hF⟩ := gd_some hF
  obtain ⟨q_a_space, hF⟩ := gd_some hF
  obtain ⟨q_a_address, hF⟩ := gd_some hF
  refine g_start hl (by decide) (Nat.le_of_ble_eq_true rfl) rfl fun X h hE => ?_
  have h : gOk X "Pagewright" cX7_load 6 7 4 24 := h
  have hE : gEnd X l w bs 4 (some FieldType.int) (gxc r0) (some (0, r0)) (s0, m) := hE
  show G X 0 0 0 [(10, 0), (0, a_processor), (0, a_space), (0, a_address), (1, 0), (1, 0)] [] (s, m)
  refine g_aload_nq h 0 dX7_load_0 rfl rfl ?_
  refine g_iload_n h 1 dX7_load_1 rfl ?_
  obtain ⟨r1, s1, c1, hF⟩ := cb_some hF
  refine g_callVX h hE 2 dX7_load_2 (ctX7_cacheOf hl c1) mwX7_cacheOf kw_674 (by decide) (by decide) rfl (Nat.le_of_ble_eq_true rfl) rfl (Nat.le_of_ble_eq_true rfl) ⟨Nat.le_of_ble_eq_true rfl, Nat.le_of_ble_eq_true rfl⟩ rfl rfl (fun x1 => ?_) (fun x1 => ?_)
  · have hF := ite_t x1 hF
    obtain ⟨e1, e2⟩ := some_2 hF
    exact ⟨by rw [e1], by rw [e2], (Nat.le_of_ble_eq_true rfl), (Nat.le_of_ble_eq_true rfl)⟩
  have hF := ite_f (fun q => q x1) hF
  have t1 : 0 ≤ r1 ∧ r1 ≤ 1 := (rgX7_cacheOf c1).resolve_left (fun q => q x1)
  show G X 1 6 5 [(10, 0), (0, a_processor), (0, a_space), (0, a_address), (1, 0), (1, 0)] [(3, r1)] (s1, m)
  refine g_astore h 5 dX7_load_5 (Nat.le_of_ble_eq_true rfl) rfl (L' := [(10, 0), (0, a_processor), (0, a_space), (0, a_address), (3, r1), (1, 0)]) rfl ?_
  refine g_aload_nq h 7 dX7_load_7 rfl rfl ?_
  refine g_iload_n h 8 dX7_load_8 rfl ?_
  obtain ⟨r2, s2, c2, hF⟩ := cb_some hF
  refine g_callVX h hE 9 dX7_load_9 (ctX7_known hl c2) mwX7_known kw_515 (by decide) (by decide) rfl (Nat.le_of_ble_eq_true rfl) rfl (Nat.le_of_ble_eq_true rfl) ⟨Nat.le_of_ble_eq_true rfl, Nat.le_of_ble_eq_true rfl⟩ rfl rfl (fun x2 => ?_) (fun x2 => ?_)
  · have hF := ite_t x2 hF
    obtain ⟨e1, e2⟩ := some_2 hF
    exact ⟨by rw [e1], by rw [e2], (Nat.le_of_ble_eq_true rfl), (Nat.le_of_ble_eq_true rfl)⟩
  have hF := ite_f (fun q => q x2) hF
  have t2 : 0 ≤ r2 ∧ r2 ≤ 5 := (rgX7_known c2).resolve_left (fun q => q x2)
  show G X 2 12 12 [(10, 0), (0, a_processor), (0, a_space), (0, a_address), (3, r1), (1, 0)] [(8, r2)] (s2, m)
  refine g_astore h 12 dX7_load_12 (Nat.le_of_ble_eq_true rfl) rfl (L' := [(10, 0), (0, a_processor), (0, a_space), (0, a_address), (3, r1), (8, r2)]) rfl ?_
  refine g_iload_n h 14 dX7_load_14 rfl ?_
  refine g_iconst h 15 dX7_load_15 ?_
  refine g_bipush h 16 dX7_load_16 (by decide) ?_
  refine g_callS h hE 18 dX7_load_18 (cpX7_within (a_number := a_address) (a_lowest := 0) (a_highest := 31) hl (by omega) (by omega) (by omega)) mwX7_within kw_410 rfl (Nat.le_of_ble_eq_true rfl) rfl (Nat.le_of_ble_eq_true rfl) ⟨Nat.le_of_ble_eq_true rfl, Nat.le_of_ble_eq_true rfl⟩ rfl rfl ?_
  show G X 2 12 21 [(10, 0), (0, a_processor), (0, a_space), (0, a_address), (3, r1), (8, r2)] [(0, (if (0 ≤ a_address) ∧ (a_address ≤ 31) then 1 else 0 : Int))] (s2, m)
  obtain ⟨r3, s3, c3, hF⟩ := cb_some hF
  refine g_callSX h hE 21 dX7_load_21 (ctX7_demand hl c3) mwX7_demand kw_413 rfl (Nat.le_of_ble_eq_true rfl) rfl (Nat.le_of_ble_eq_true rfl) ⟨Nat.le_of_ble_eq_true rfl, Nat.le_of_ble_eq_true rfl⟩ rfl rfl (fun x3 => ?_) (fun x3 => ?_)
  · have hF := ite_t x3 hF
    obtain ⟨e1, e2⟩ := some_2 hF
    exact ⟨by rw [e1], by rw [e2], (Nat.le_of_ble_eq_true rfl), (Nat.le_of_ble_eq_true rfl)⟩
  have hF := ite_f (fun q => q x3) hF
  show G X 3 18 24 [(10, 0), (0, a_processor), (0, a_space), (0, a_address), (3, r1), (8, r2)] [] (s3, m)
  refine G_typ fun hT_s3 => ?_
  have t3 : 0 ≤ s3 35 r2 ∧ s3 35 r2 ≤ 1 := hT_s3.1 35 r2
  refine g_aloadq h 24 dX7_load_24 rfl rfl ?_
  refine gf_Space_living h 26 dX7_load_26 kw_259 (by omega) ?_
  obtain ⟨r4, s4, c4, hF⟩ := cb_some hF
  refine g_callSX h hE 29 dX7_load_29 (ctX7_permit hl c4) mwX7_permit kw_484 rfl (Nat.le_of_ble_eq_true rfl) rfl (Nat.le_of_ble_eq_true rfl) ⟨Nat.le_of_ble_eq_true rfl, Nat.le_of_ble_eq_true rfl⟩ rfl rfl (fun x4 => ?_) (fun x4 => ?_)
  · have hF := ite_t x4 hF
    obtain ⟨e1, e2⟩ := some_2 hF
    exact ⟨by rw [e1], by rw [e2], (Nat.le_of_ble_eq_true rfl), (Nat.le_of_ble_eq_true rfl)⟩
  have hF := ite_f (fun q => q x4) hF
  show G X 4 24 32 [(10, 0), (0, a_processor), (0, a_space), (0, a_address), (3, r1), (8, r2)] [] (s4, m)
  refine g_aload_nq h 32 dX7_load_32 rfl rfl ?_
  refine g_aloadq h 33 dX7_load_33 rfl rfl ?_
  refine g_aloadq h 35 dX7_load_35 rfl rfl ?_
  refine g_iload_n h 37 dX7_load_37 rfl ?_
  refine g_iconst h 38 dX7_load_38 ?_
  obtain ⟨r5, s5, c5, hF⟩ := cb_some hF
  have t4 : (-2147483648) ≤ r5 ∧ r5 ≤ 2147483647 := rgX7_access c5
  refine g_callV h hE 39 dX7_load_39 (ctX7_access hl c5) mwX7_access kw_679 (by decide) (by decide) rfl (Nat.le_of_ble_eq_true rfl) rfl (Nat.le_of_ble_eq_true rfl) ⟨Nat.le_of_ble_eq_true rfl, Nat.le_of_ble_eq_true rfl⟩ rfl rfl ?_
  show G X 4 24 42 [(10, 0), (0, a_processor), (0, a_space), (0, a_address), (3, r1), (8, r2)] [(0, r5)] (s5, m)
  obtain ⟨e1, e2⟩ := some_2 hF
  rw [← e1, ← e2, gxc_0 (gRi (by omega))] at hE
  exact g_iret h 42 dX7_load_42 hE rfl rfl ⟨(Nat.le_of_ble_eq_true rfl), (Nat.le_of_ble_eq_true rfl)⟩
-- Pagewright.map
def FX7_map (a_space a_from a_count a_rights a_file a_index a_shared a_grows : Int) (s : S2) : Option (Int × S2) :=
  rgx <| gd ((-2147483648) ≤ a_space ∧ a_space ≤ 2147483647) <| gd ((-2147483648) ≤ a_from ∧ a_from ≤ 2147483647) <| gd ((-2147483648) ≤ a_count ∧ a_count ≤ 2147483647) <| gd ((-2147483648) ≤ a_rights ∧ a_rights ≤ 2147483647) <| gd ((-2147483648) ≤ a_file ∧ a_file ≤ 2147483647) <| gd ((-2147483648) ≤ a_index ∧ a_index ≤ 2147483647) <| gd (0 ≤ a_shared ∧ a_shared ≤ 1) <| gd (0 ≤ a_grows ∧ a_grows ≤ 1) <| cb (FX7_known a_space s) fun r1 s1 => if gxc r1 ≠ 0 then some (r1, s1) else cb (FX7_demand (if ((((0 ≤ a_from) ∧ (a_from ≤ 31)) ∧ ((1 ≤ a_count) ∧ (a_count ≤ 32 - a_from))) ∧ ((1 ≤ a_rights) ∧ (a_rights ≤ 3))) ∧ (((-1) ≤ a_file) ∧ (a_file ≤ 2)) then 1 else 0 : Int) s1) fun r2 s2 => if gxc r2 ≠ 0 then some (r2, s2) else gd ((¬ (a_file = (-1))) → (-2147483648) ≤ 8 - a_count ∧ 8 - a_count ≤ 2147483647) <| cb (FX7_demand (if (a_file = (-1)) ∨ ((0 ≤ a_index) ∧ (a_index ≤ 8 - a_count)) then 1 else 0 : Int) s2) fun r3 s3 => if gxc r3 ≠ 0 then some (r3, s3) else bn (fun (v3 : Int) (s4 : S2) => cb (FX7_permit v3 s4) fun r5 s8 => if gxc r5 ≠ 0 then some (r5, s8) else gl1 1000 (fun k4 (x_i1 : Int) (s9 : S2) => if x_i1 < a_count then gd (0 ≤ a_from + x_i1 ∧ a_from + x_i1 ≤ 31) <| cb (FX1_establish (32 * r1 + (a_from + x_i1)) a_rights a_file (a_index + x_i1) a_shared a_grows s9) fun r6 s10 => k4 (x_i1 + 1) s10 else cb (FX5_regions r1 s9) fun r7 s11 => some (r7, s11)) 0 s8) fun k1 => bn (fun (s5 : S2) => k1 1 s5) fun k2 => bn (fun (s6 : S2) => k1 0 s6) fun k3 => if s3 35 r1 ≠ 0 then cb (FX5_mapped r1 a_from a_count s3) fun r4 s7 => if r4 = 0 then k2 s7 else k3 s7 else k3 s3
theorem rgX7_map {a_space a_from a_count a_rights a_file a_index a_shared a_grows : Int} {s s0 : S2} {r0 : Int} (hF : FX7_map a_space a_from a_count a_rights a_file a_index a_shared a_grows s = some (r0, s0)) : gxc r0 ≠ 0 ∨ (-2147483648) ≤ r0 ∧ r0 ≤ 2147483647 := (rgx_some hF).2
set_option maxRecDepth 100000 in
set_option maxHeartbeats 4000000 in
theorem ctX7_map {l : Launch} {w : gW} {bs : Nat} (hl : l.stackTraces = false) {a_space a_from a_count a_rights a_file a_index a_shared a_grows : Int} {s m s0 : S2} {r0 : Int} (hF : FX7_map a_space a_from a_count a_rights a_file a_index a_shared a_grows s = some (r0, s0)) : gMet l w bs yX7_map cX7_map 11 (some FieldType.int) 7 4 [(10, 0), (0, a_space), (0, a_from), (0, a_count), (0, a_rights), (0, a_file), (0, a_index), (0, a_shared), (0, a_grows)] (s, m) (gxc r0) (some (0, r0)) (s0, m) := by
  unfold FX7_map at hF
  obtain ⟨hF, hr⟩ := rgx_some hF
  obtain ⟨q_a_space, hF⟩ := gd_some hF
  obtain ⟨q_a_from, hF⟩ := gd_some hF
  obtain ⟨q_a_count, hF⟩ := gd_some hF
  obtain ⟨q_a_rights, hF⟩ := gd_some hF
  obtain ⟨q_a_file, hF⟩ := gd_some hF
  obtain ⟨q_a_index, hF⟩ := gd_some hF
  obtain ⟨q_a_shared, hF⟩ := gd_some hF
  obtain ⟨q_a_grows, hF⟩ := gd_some hF
  refine g_start hl (by decide) (Nat.le_of_ble_eq_true rfl) rfl fun X h hE => ?_
  have h : gOk X "Pagewright" cX7_map 11 7 4 24 := h
  have hE : gEnd X l w bs 4 (some FieldType.int) (gxc r0) (some (0, r0)) (s0, m) := hE
  show G X 0 0 0 [(10, 0), (0, a_space), (0, a_from), (0, a_count), (0, a_rights), (0, a_file), (0, a_index), (0, a_shared), (0, a_grows), (1, 0), (1, 0)] [] (s, m)
  refine g_aload_nq h 0 dX7_map_0 rfl rfl ?_
  refine g_iload_n h 1 dX7_map_1 rfl ?_
  obtain ⟨r1, s1, c1, hF⟩ := cb_some hF
  refine g_callVX h hE 2 dX7_map_2 (ctX7_known hl c1) mwX7_known kw_515 (by decide) (by decide) rfl (Nat.le_of_ble_eq_true rfl) rfl (Nat.le_of_ble_eq_true rfl) ⟨Nat.le_of_ble_eq_true rfl, Nat.le_of_ble_eq_true rfl⟩ rfl rfl (fun x1 => ?_) (fun x1 => ?_)
  · have hF := ite_t x1 hF
    obtain ⟨e1, e2⟩ := some_2 hF
    exact ⟨by rw [e1], by rw [e2], (Nat.le_of_ble_eq_true rfl), (Nat.le_of_ble_eq_true rfl)⟩
  have hF := ite_f (fun q => q x1) hF
  have t1 : 0 ≤ r1 ∧ r1 ≤ 5 := (rgX7_known c1).resolve_left (fun q => q x1)
  show G X 1 6 5 [(10, 0), (0, a_space), (0, a_from), (0, a_count), (0, a_rights), (0, a_file), (0, a_index), (0, a_shared), (0, a_grows), (1, 0), (1, 0)] [(8, r1)] (s1, m)
  refine g_astore h 5 dX7_map_5 (Nat.le_of_ble_eq_true rfl) rfl (L' := [(10, 0), (0, a_space), (0, a_from), (0, a_count), (0, a_rights), (0, a_file), (0, a_index), (0, a_shared), (0, a_grows), (8, r1), (1, 0)]) rfl ?_
  suffices J1 : ∀ v1 : Int, v1 = (if ((((0 ≤ a_from) ∧ (a_from ≤ 31)) ∧ ((1 ≤ a_count) ∧ (a_count ≤ 32 - a_from))) ∧ ((1 ≤ a_rights) ∧ (a_rights ≤ 3))) ∧ (((-1) ≤ a_file) ∧ (a_file ≤ 2)) then 1 else 0 : Int) → G X 1 6 40 [(10, 0), (0, a_space), (0, a_from), (0, a_count), (0, a_rights), (0, a_file), (0, a_index), (0, a_shared), (0, a_grows), (8, r1), (1, 0)] [(0, v1)] (s1, m) by
    have J2 : ((((0 ≤ a_from) ∧ (a_from ≤ 31)) ∧ ((1 ≤ a_count) ∧ (a_count ≤ 32 - a_from))) ∧ ((1 ≤ a_rights) ∧ (a_rights ≤ 3))) ∧ (((-1) ≤ a_file) ∧ (a_file ≤ 2)) → G X 1 6 35 [(10, 0), (0, a_space), (0, a_from), (0, a_count), (0, a_rights), (0, a_file), (0, a_index), (0, a_shared), (0, a_grows), (8, r1), (1, 0)] [] (s1, m) := by
      intro h4
      refine g_iconst h 35 dX7_map_35 ?_
      refine g_goto h 36 40 dX7_map_36 (by decide) ?_
      exact J1 _ (if_pos h4).symm
    have J3 : ¬ (((((0 ≤ a_from) ∧ (a_from ≤ 31)) ∧ ((1 ≤ a_count) ∧ (a_count ≤ 32 - a_from))) ∧ ((1 ≤ a_rights) ∧ (a_rights ≤ 3))) ∧ (((-1) ≤ a_file) ∧ (a_file ≤ 2))) → G X 1 6 39 [(10, 0), (0, a_space), (0, a_from), (0, a_count), (0, a_rights), (0, a_file), (0, a_index), (0, a_shared), (0, a_grows), (8, r1), (1, 0)] [] (s1, m) := by
      intro h5
      refine g_iconst h 39 dX7_map_39 ?_
      exact J1 _ (if_neg h5).symm
    refine g_iload_n h 7 dX7_map_7 rfl ?_
    refine g_iload_n h 8 dX7_map_8 rfl ?_
    refine g_callS h hE 9 dX7_map_9 (cpX7_isStretch (a_from := a_from) (a_count := a_count) hl (by omega) (by omega)) mwX7_isStretch kw_535 rfl (Nat.le_of_ble_eq_true rfl) rfl (Nat.le_of_ble_eq_true rfl) ⟨Nat.le_of_ble_eq_true rfl, Nat.le_of_ble_eq_true rfl⟩ rfl rfl ?_
    show G X 1 6 12 [(10, 0), (0, a_space), (0, a_from), (0, a_count), (0, a_rights), (0, a_file), (0, a_index), (0, a_shared), (0, a_grows), (8, r1), (1, 0)] [(0, (if ((0 ≤ a_from) ∧ (a_from ≤ 31)) ∧ ((1 ≤ a_count) ∧ (a_count ≤ 32 - a_from)) then 1 else 0 : Int))] (s1, m)
    refine g_if_eq h 12 39 (gRi gR_ite) dX7_map_12 (by decide) (fun h1 => ?_) (fun h1 => ?_)
    · exact J3 (fun q => (fun q => (iz_f h1) q.1) q.1)
    · refine g_iload h 15 dX7_map_15 rfl ?_
      refine g_iconst h 17 dX7_map_17 ?_
      refine g_iconst h 18 dX7_map_18 ?_
      refine g_callS h hE 19 dX7_map_19 (cpX7_within (a_number := a_rights) (a_lowest := 1) (a_highest := 3) hl (by omega) (by omega) (by omega)) mwX7_within kw_410 rfl (Nat.le_of_ble_eq_true rfl) rfl (Nat.le_of_ble_eq_true rfl) ⟨Nat.le_of_ble_eq_true rfl, Nat.le_of_ble_eq_true rfl⟩ rfl rfl ?_
      show G X 1 6 22 [(10, 0), (0, a_space), (0, a_from), (0, a_count), (0, a_rights), (0, a_file), (0, a_index), (0, a_shared), (0, a_grows), (8, r1), (1, 0)] [(0, (if (1 ≤ a_rights) ∧ (a_rights ≤ 3) then 1 else 0 : Int))] (s1, m)
      refine g_if_eq h 22 39 (gRi gR_ite) dX7_map_22 (by decide) (fun h2 => ?_) (fun h2 => ?_)
      · exact J3 (fun q => (fun q => (iz_f h2) q.2) q.1)
      · refine g_iload h 25 dX7_map_25 rfl ?_
        refine g_iconst h 27 dX7_map_27 ?_
        refine g_iconst h 28 dX7_map_28 ?_
        refine g_callS h hE 29 dX7_map_29 (cpX7_within (a_number := a_file) (a_lowest := (-1)) (a_highest := 2) hl (by omega) (by omega) (by omega)) mwX7_within kw_410 rfl (Nat.le_of_ble_eq_true rfl) rfl (Nat.le_of_ble_eq_true rfl) ⟨Nat.le_of_ble_eq_true rfl, Nat.le_of_ble_eq_true rfl⟩ rfl rfl ?_
        show G X 1 6 32 [(10, 0), (0, a_space), (0, a_from), (0, a_count), (0, a_rights), (0, a_file), (0, a_index), (0, a_shared), (0, a_grows), (8, r1), (1, 0)] [(0, (if ((-1) ≤ a_file) ∧ (a_file ≤ 2) then 1 else 0 : Int))] (s1, m)
        refine g_if_eq h 32 39 (gRi gR_ite) dX7_map_32 (by decide) (fun h3 => ?_) (fun h3 => ?_)
        · exact J3 (fun q => (iz_f h3) q.2)
        · exact J2 ⟨⟨(iz_t h1), (iz_t h2)⟩, (iz_t h3)⟩
  intro v1 e1
  subst e1
  obtain ⟨r2, s2, c2, hF⟩ := cb_some hF
  refine g_callSX h hE 40 dX7_map_40 (ctX7_demand hl c2) mwX7_demand kw_413 rfl (Nat.le_of_ble_eq_true rfl) rfl (Nat.le_of_ble_eq_true rfl) ⟨Nat.le_of_ble_eq_true rfl, Nat.le_of_ble_eq_true rfl⟩ rfl rfl (fun x2 => ?_) (fun x2 => ?_)
  · have hF := ite_t x2 hF
    obtain ⟨e1, e2⟩ := some_2 hF
    exact ⟨by rw [e1], by rw [e2], (Nat.le_of_ble_eq_true rfl), (Nat.le_of_ble_eq_true rfl)⟩
  have hF := ite_f (fun q => q x2) hF
  show G X 2 12 43 [(10, 0), (0, a_space), (0, a_from), (0, a_count), (0, a_rights), (0, a_file), (0, a_index), (0, a_shared), (0, a_grows), (8, r1), (1, 0)] [] (s2, m)
  obtain ⟨q1, hF⟩ := gd_some hF
  suffices J4 : ∀ v2 : Int, v2 = (if (a_file = (-1)) ∨ ((0 ≤ a_index) ∧ (a_index ≤ 8 - a_count)) then 1 else 0 : Int) → G X 2 12 67 [(10, 0), (0, a_space), (0, a_from), (0, a_count), (0, a_rights), (0, a_file), (0, a_index), (0, a_shared), (0, a_grows), (8, r1), (1, 0)] [(0, v2)] (s2, m) by
    have J5 : (a_file = (-1)) ∨ ((0 ≤ a_index) ∧ (a_index ≤ 8 - a_count)) → G X 2 12 62 [(10, 0), (0, a_space), (0, a_from), (0, a_count), (0, a_rights), (0, a_file), (0, a_index), (0, a_shared), (0, a_grows), (8, r1), (1, 0)] [] (s2, m) := by
      intro h8
      refine g_iconst h 62 dX7_map_62 ?_
      refine g_goto h 63 67 dX7_map_63 (by decide) ?_
      exact J4 _ (if_pos h8).symm
    have J6 : ¬ ((a_file = (-1)) ∨ ((0 ≤ a_index) ∧ (a_index ≤ 8 - a_count))) → G X 2 12 66 [(10, 0), (0, a_space), (0, a_from), (0, a_count), (0, a_rights), (0, a_file), (0, a_index), (0, a_shared), (0, a_grows), (8, r1), (1, 0)] [] (s2, m) := by
      intro h9
      refine g_iconst h 66 dX7_map_66 ?_
      exact J4 _ (if_neg h9).symm
    refine g_iload h 43 dX7_map_43 rfl ?_
    refine g_iconst h 45 dX7_map_45 ?_
    refine g_icmp_eq h 46 62 (gRi (by omega)) (gRi (by omega)) dX7_map_46 (by decide) (fun h6 => ?_) (fun h6 => ?_)
    · exact J5 (Or.inl h6)
    · refine g_iload h 49 dX7_map_49 rfl ?_
      refine g_iconst h 51 dX7_map_51 ?_
      refine g_bipush h 52 dX7_map_52 (by decide) ?_
      refine g_iload_n h 54 dX7_map_54 rfl ?_
      refine g_isub h 55 dX7_map_55 ?_
      refine g_callS h hE 56 dX7_map_56 (cpX7_within (a_number := a_index) (a_lowest := 0) (a_highest := 8 - a_count) hl (by omega) (by omega) (by omega)) mwX7_within kw_410 rfl (Nat.le_of_ble_eq_true rfl) rfl (Nat.le_of_ble_eq_true rfl) ⟨Nat.le_of_ble_eq_true rfl, Nat.le_of_ble_eq_true rfl⟩ rfl rfl ?_
      show G X 2 12 59 [(10, 0), (0, a_space), (0, a_from), (0, a_count), (0, a_rights), (0, a_file), (0, a_index), (0, a_shared), (0, a_grows), (8, r1), (1, 0)] [(0, (if (0 ≤ a_index) ∧ (a_index ≤ 8 - a_count) then 1 else 0 : Int))] (s2, m)
      refine g_if_eq h 59 66 (gRi gR_ite) dX7_map_59 (by decide) (fun h7 => ?_) (fun h7 => ?_)
      · exact J6 (fun q => q.elim h6 (iz_f h7))
      · exact J5 (Or.inr (iz_t h7))
  intro v2 e2
  subst e2
  obtain ⟨r3, s3, c3, hF⟩ := cb_some hF
  refine g_callSX h hE 67 dX7_map_67 (ctX7_demand hl c3) mwX7_demand kw_413 rfl (Nat.le_of_ble_eq_true rfl) rfl (Nat.le_of_ble_eq_true rfl) ⟨Nat.le_of_ble_eq_true rfl, Nat.le_of_ble_eq_true rfl⟩ rfl rfl (fun x3 => ?_) (fun x3 => ?_)
  · have hF := ite_t x3 hF
    obtain ⟨e1, e2⟩ := some_2 hF
    exact ⟨by rw [e1], by rw [e2], (Nat.le_of_ble_eq_true rfl), (Nat.le_of_ble_eq_true rfl)⟩
  have hF := ite_f (fun q => q x3) hF
  show G X 3 18 70 [(10, 0), (0, a_space), (0, a_from), (0, a_count), (0, a_rights), (0, a_file), (0, a_index), (0, a_shared), (0, a_grows), (8, r1), (1, 0)] [] (s3, m)
  obtain ⟨k1, ek1, hF⟩ := bn_ex hF
  have J7 : ∀ (v3 : Int) (s4 : S2), (0 ≤ v3 ∧ v3 ≤ 1) → k1 v3 s4 = some (r0, s0) → G X 3 18 93 [(10, 0), (0, a_space), (0, a_from), (0, a_count), (0, a_rights), (0, a_file), (0, a_index), (0, a_shared), (0, a_grows), (8, r1), (1, 0)] [(0, v3)] (s4, m) := by
    intro v3 s4 q2 hF
    rw [ek1] at hF
    obtain ⟨r5, s8, c5, hF⟩ := cb_some hF
    refine g_callSX h hE 93 dX7_map_93 (ctX7_permit hl c5) mwX7_permit kw_484 rfl (Nat.le_of_ble_eq_true rfl) rfl (Nat.le_of_ble_eq_true rfl) ⟨Nat.le_of_ble_eq_true rfl, Nat.le_of_ble_eq_true rfl⟩ rfl rfl (fun x4 => ?_) (fun x4 => ?_)
    · have hF := ite_t x4 hF
      obtain ⟨e1, e2⟩ := some_2 hF
      exact ⟨by rw [e1], by rw [e2], (Nat.le_of_ble_eq_true rfl), (Nat.le_of_ble_eq_true rfl)⟩
    have hF := ite_f (fun q => q x4) hF
    show G X 4 24 96 [(10, 0), (0, a_space), (0, a_from), (0, a_count), (0, a_rights), (0, a_file), (0, a_index), (0, a_shared), (0, a_grows), (8, r1), (1, 0)] [] (s8, m)
    refine g_iconst h 96 dX7_map_96 ?_
    refine g_istore h 97 dX7_map_97 (Nat.le_of_ble_eq_true rfl) rfl (L' := [(10, 0), (0, a_space), (0, a_from), (0, a_count), (0, a_rights), (0, a_file), (0, a_index), (0, a_shared), (0, a_grows), (8, r1), (0, 0)]) rfl ?_
    obtain ⟨f1, ef1, hF⟩ := glx1 hF
    have J15 : ∀ (n1 : Nat) (x_i1 : Int) (s9 : S2), (0 ≤ x_i1 ∧ x_i1 ≤ 2147483647) → gl1 n1 f1 x_i1 s9 = some (r0, s0) → G X 4 24 99 [(10, 0), (0, a_space), (0, a_from), (0, a_count), (0, a_rights), (0, a_file), (0, a_index), (0, a_shared), (0, a_grows), (8, r1), (0, x_i1)] [] (s9, m) := by
      intro n1
      induction n1 with
      | zero => intro x_i1 s9 _ hF; exact (gl1_0 hF).elim
      | succ n1 ih1 =>
        intro x_i1 s9 q3 hF
        obtain ⟨k4, ek4, hF⟩ := glu1 hF ef1
        have J13 : x_i1 < a_count → G X 4 24 105 [(10, 0), (0, a_space), (0, a_from), (0, a_count), (0, a_rights), (0, a_file), (0, a_index), (0, a_shared), (0, a_grows), (8, r1), (0, x_i1)] [] (s9, m) := by
          intro h15
          have hF := ite_t h15 hF
          obtain ⟨q4, hF⟩ := gd_some hF
          refine g_aloadq h 105 dX7_map_105 rfl rfl ?_
          refine gf_Space_entries h 107 dX7_map_107 kw_254 (by omega) ?_
          refine g_iload_n h 110 dX7_map_110 rfl ?_
          refine g_iload h 111 dX7_map_111 rfl ?_
          refine g_iadd h 113 dX7_map_113 ?_
          refine al_Space_entries h 114 dX7_map_114 (by omega) (by omega) ?_
          refine g_iload h 115 dX7_map_115 rfl ?_
          refine g_iload h 117 dX7_map_117 rfl ?_
          refine g_iload h 119 dX7_map_119 rfl ?_
          refine g_iload h 121 dX7_map_121 rfl ?_
          refine g_iadd h 123 dX7_map_123 ?_
          refine g_iload h 124 dX7_map_124 rfl ?_
          refine g_iload h 126 dX7_map_126 rfl ?_
          obtain ⟨r6, s10, c6, hF⟩ := cb_some hF
          refine g_callV h hE 128 dX7_map_128 (ctX1_establish hl c6) mwX1_establish kw_542 (by decide) (show _ ∧ _ < (192 : Int) by omega) rfl (Nat.le_of_ble_eq_true rfl) rfl (Nat.le_of_ble_eq_true rfl) ⟨Nat.le_of_ble_eq_true rfl, Nat.le_of_ble_eq_true rfl⟩ rfl rfl ?_
          show G X 4 24 131 [(10, 0), (0, a_space), (0, a_from), (0, a_count), (0, a_rights), (0, a_file), (0, a_index), (0, a_shared), (0, a_grows), (8, r1), (0, x_i1)] [] (s10, m)
          refine g_iinc h 131 dX7_map_131 rfl rfl (L' := [(10, 0), (0, a_space), (0, a_from), (0, a_count), (0, a_rights), (0, a_file), (0, a_index), (0, a_shared), (0, a_grows), (8, r1), (0, x_i1 + 1)]) rfl ?_
          refine g_goto h 134 99 dX7_map_134 (by decide) ?_
          rw [ek4] at hF
          exact ih1 _ _ (by omega) hF
        have J14 : ¬ (x_i1 < a_count) → G X 4 24 137 [(10, 0), (0, a_space), (0, a_from), (0, a_count), (0, a_rights), (0, a_file), (0, a_index), (0, a_shared), (0, a_grows), (8, r1), (0, x_i1)] [] (s9, m) := by
          intro h16
          have hF := ite_f h16 hF
          refine g_aloadq h 137 dX7_map_137 rfl rfl ?_
          obtain ⟨r7, s11, c7, hF⟩ := cb_some hF
          have t4 : 0 ≤ r7 ∧ r7 ≤ 32 := rgX5_regions c7
          refine g_callV h hE 139 dX7_map_139 (ctX5_regions hl c7) mwX5_regions kw_546 (by decide) (show _ ∧ _ < (6 : Int) by omega) rfl (Nat.le_of_ble_eq_true rfl) rfl (Nat.le_of_ble_eq_true rfl) ⟨Nat.le_of_ble_eq_true rfl, Nat.le_of_ble_eq_true rfl⟩ rfl rfl ?_
          show G X 4 24 142 [(10, 0), (0, a_space), (0, a_from), (0, a_count), (0, a_rights), (0, a_file), (0, a_index), (0, a_shared), (0, a_grows), (8, r1), (0, x_i1)] [(0, r7)] (s11, m)
          obtain ⟨e1, e2⟩ := some_2 hF
          rw [← e1, ← e2, gxc_0 (gRi (by omega))] at hE
          exact g_iret h 142 dX7_map_142 hE rfl rfl ⟨(Nat.le_of_ble_eq_true rfl), (Nat.le_of_ble_eq_true rfl)⟩
        refine g_iload h 99 dX7_map_99 rfl ?_
        refine g_iload_n h 101 dX7_map_101 rfl ?_
        refine g_icmp_ge h 102 137 (gRi (by omega)) (gRi (by omega)) dX7_map_102 (by decide) (fun h14 => ?_) (fun h14 => ?_)
        · exact J14 (Int.not_lt.mpr h14)
        · exact J13 h14
    exact J15 _ _ _ (by omega) hF
  obtain ⟨k2, ek2, hF⟩ := bn_ex hF
  have J8 : ∀ (s5 : S2), k2 s5 = some (r0, s0) → G X 3 18 88 [(10, 0), (0, a_space), (0, a_from), (0, a_count), (0, a_rights), (0, a_file), (0, a_index), (0, a_shared), (0, a_grows), (8, r1), (1, 0)] [] (s5, m) := by
    intro s5 hF
    rw [ek2] at hF
    refine g_iconst h 88 dX7_map_88 ?_
    refine g_goto h 89 93 dX7_map_89 (by decide) ?_
    exact J7 _ _ (by omega) hF
  obtain ⟨k3, ek3, hF⟩ := bn_ex hF
  have J9 : ∀ (s6 : S2), k3 s6 = some (r0, s0) → G X 3 18 92 [(10, 0), (0, a_space), (0, a_from), (0, a_count), (0, a_rights), (0, a_file), (0, a_index), (0, a_shared), (0, a_grows), (8, r1), (1, 0)] [] (s6, m) := by
    intro s6 hF
    rw [ek3] at hF
    refine g_iconst h 92 dX7_map_92 ?_
    exact J7 _ _ (by omega) hF
  refine G_typ fun hT_s3 => ?_
  have t2 : 0 ≤ s3 35 r1 ∧ s3 35 r1 ≤ 1 := hT_s3.1 35 r1
  have J10 : s3 35 r1 ≠ 0 → G X 3 18 78 [(10, 0), (0, a_space), (0, a_from), (0, a_count), (0, a_rights), (0, a_file), (0, a_index), (0, a_shared), (0, a_grows), (8, r1), (1, 0)] [] (s3, m) := by
    intro h11
    have hF := ite_t h11 hF
    refine g_aloadq h 78 dX7_map_78 rfl rfl ?_
    refine g_iload_n h 80 dX7_map_80 rfl ?_
    refine g_iload_n h 81 dX7_map_81 rfl ?_
    obtain ⟨r4, s7, c4, hF⟩ := cb_some hF
    have t3 : 0 ≤ r4 ∧ r4 ≤ 32 := rgX5_mapped c4
    refine g_callV h hE 82 dX7_map_82 (ctX5_mapped hl c4) mwX5_mapped kw_538 (by decide) (show _ ∧ _ < (6 : Int) by omega) rfl (Nat.le_of_ble_eq_true rfl) rfl (Nat.le_of_ble_eq_true rfl) ⟨Nat.le_of_ble_eq_true rfl, Nat.le_of_ble_eq_true rfl⟩ rfl rfl ?_
    show G X 3 18 85 [(10, 0), (0, a_space), (0, a_from), (0, a_count), (0, a_rights), (0, a_file), (0, a_index), (0, a_shared), (0, a_grows), (8, r1), (1, 0)] [(0, r4)] (s7, m)
    refine g_if_ne h 85 92 (gRi (by omega)) dX7_map_85 (by decide) (fun h12 => ?_) (fun h12 => ?_)
    · have hF := ite_f h12 hF
      exact J9 _ hF
    · have hF := ite_t h12 hF
      exact J8 _ hF
  have J11 : ¬ (s3 35 r1 ≠ 0) → G X 3 18 92 [(10, 0), (0, a_space), (0, a_from), (0, a_count), (0, a_rights), (0, a_file), (0, a_index), (0, a_shared), (0, a_grows), (8, r1), (1, 0)] [] (s3, m) := by
    intro h13
    have hF := ite_f h13 hF
    exact J9 _ hF
  refine g_aloadq h 70 dX7_map_70 rfl rfl ?_
  refine gf_Space_living h 72 dX7_map_72 kw_259 (by omega) ?_
  refine g_if_eq h 75 92 (gRi (by omega)) dX7_map_75 (by decide) (fun h10 => ?_) (fun h10 => ?_)
  · exact J11 (fun q => q h10)
  · exact J10 h10
-- Pagewright.merge
def FX7_merge (a_space a_is : Int) (s : S2) : Option (Int × S2) :=
  gd ((-2147483648) ≤ a_space ∧ a_space ≤ 2147483647) <| gd (0 ≤ a_is ∧ a_is ≤ 1) <| cb (FX7_known a_space s) fun r1 s1 => if gxc r1 ≠ 0 then some (r1, s1) else bn (upd2 s1 36 r1 a_is) fun s2 => some (0, s2)
set_option maxRecDepth 100000 in
set_option maxHeartbeats 4000000 in
theorem ctX7_merge {l : Launch} {w : gW} {bs : Nat} (hl : l.stackTraces = false) {a_space a_is : Int} {s m s0 : S2} {r0 : Int} (hF : FX7_merge a_space a_is s = some (r0, s0)) : gMet l w bs yX7_merge cX7_merge 3 none 7 1 [(10, 0), (0, a_space), (0, a_is)] (s, m) (gxc r0) none (s0, m) := by
  unfold FX7_merge at hF
  obtain ⟨q_a_space, hF⟩ := gd_some hF
  obtain ⟨q_a_is, hF⟩ := gd_some hF
  refine g_start hl (by decide) (Nat.le_of_ble_eq_true rfl) rfl fun X h hE => ?_
  have h : gOk X "Pagewright" cX7_merge 3 7 1 6 := h
  have hE : gEnd X l w bs 1 none (gxc r0) none (s0, m) := hE
  show G X 0 0 0 [(10, 0), (0, a_space), (0, a_is)] [] (s, m)
  refine g_aload_nq h 0 dX7_merge_0 rfl rfl ?_
  refine g_iload_n h 1 dX7_merge_1 rfl ?_
  obtain ⟨r1, s1, c1, hF⟩ := cb_some hF
  refine g_callVX h hE 2 dX7_merge_2 (ctX7_known hl c1) mwX7_known kw_515 (by decide) (by decide) rfl (Nat.le_of_ble_eq_true rfl) rfl (Nat.le_of_ble_eq_true rfl) ⟨Nat.le_of_ble_eq_true rfl, Nat.le_of_ble_eq_true rfl⟩ rfl rfl (fun x1 => ?_) (fun x1 => ?_)
  · have hF := ite_t x1 hF
    obtain ⟨e1, e2⟩ := some_2 hF
    exact ⟨by rw [e1], by rw [e2], (Nat.le_of_ble_eq_true rfl), (Nat.le_of_ble_eq_true rfl)⟩
  have hF := ite_f (fun q => q x1) hF
  have t1 : 0 ≤ r1 ∧ r1 ≤ 5 := (rgX7_known c1).resolve_left (fun q => q x1)
  show G X 1 6 5 [(10, 0), (0, a_space), (0, a_is)] [(8, r1)] (s1, m)
  refine g_iload_n h 5 dX7_merge_5 rfl ?_
  obtain ⟨s2, es2, hF⟩ := bn_ex hF
  refine pf_Space_merging h 6 dX7_merge_6 kw_261 (by omega) (by omega) ?_
  rw [← es2]
  obtain ⟨e1, e2⟩ := some_2 hF
  rw [← e1, ← e2, gxc_0 (gRi (by omega))] at hE
  exact g_vret h 9 dX7_merge_9 hE rfl ⟨(Nat.le_of_ble_eq_true rfl), (Nat.le_of_ble_eq_true rfl)⟩
-- Pagewright.move
def FX7_move (a_space a_from a_count a_to : Int) (s : S2) : Option (Int × S2) :=
  rgx <| gd ((-2147483648) ≤ a_space ∧ a_space ≤ 2147483647) <| gd ((-2147483648) ≤ a_from ∧ a_from ≤ 2147483647) <| gd ((-2147483648) ≤ a_count ∧ a_count ≤ 2147483647) <| gd ((-2147483648) ≤ a_to ∧ a_to ≤ 2147483647) <| cb (FX7_known a_space s) fun r1 s1 => if gxc r1 ≠ 0 then some (r1, s1) else cb (FX7_demand (if (((0 ≤ a_from) ∧ (a_from ≤ 31)) ∧ ((1 ≤ a_count) ∧ (a_count ≤ 32 - a_from))) ∧ (((0 ≤ a_to) ∧ (a_to ≤ 31)) ∧ ((1 ≤ a_count) ∧ (a_count ≤ 32 - a_to))) then 1 else 0 : Int) s1) fun r2 s2 => if gxc r2 ≠ 0 then some (r2, s2) else bn (fun (v2 : Int) (s3 : S2) => cb (FX7_permit v2 s3) fun r5 s8 => if gxc r5 ≠ 0 then some (r5, s8) else gl1 1000 (fun k4 (x_i1 : Int) (s9 : S2) => if x_i1 < a_count then gd (0 ≤ a_from + x_i1 ∧ a_from + x_i1 ≤ 31) <| cb (FX1_tellProcessors (32 * r1 + (a_from + x_i1)) s9) fun r6 s10 => gd (0 ≤ 32 * r1 + (a_from + x_i1) ∧ 32 * r1 + (a_from + x_i1) ≤ 191) <| cb (FX7_setJoined ((32 * r1 + (a_from + x_i1)) / 4) 0 s10) fun r7 s11 => gd (0 ≤ a_to + x_i1 ∧ a_to + x_i1 ≤ 31) <| cb (FX1_takeOver (32 * r1 + (a_to + x_i1)) (32 * r1 + (a_from + x_i1)) s11) fun r8 s12 => k4 (x_i1 + 1) s12 else cb (FX5_regions r1 s9) fun r9 s13 => some (r9, s13)) 0 s8) fun k1 => bn (fun (s4 : S2) => k1 1 s4) fun k2 => bn (fun (s5 : S2) => k1 0 s5) fun k3 => if s2 35 r1 ≠ 0 then cb (FX5_mapped r1 a_from a_count s2) fun r3 s6 => if r3 = a_count then cb (FX5_mapped r1 a_to a_count s6) fun r4 s7 => if r4 = 0 then k2 s7 else k3 s7 else k3 s6 else k3 s2
theorem rgX7_move {a_space a_from a_count a_to : Int} {s s0 : S2} {r0 : Int} (hF : FX7_move a_space a_from a_count a_to s = some (r0, s0)) : gxc r0 ≠ 0 ∨ (-2147483648) ≤ r0 ∧ r0 ≤ 2147483647 := (rgx_some hF).2
set_option maxRecDepth 100000 in
set_option maxHeartbeats 4000000 in
theorem ctX7_move {l : Launch} {w : gW} {bs : Nat} (hl : l.stackTraces = false) {a_space a_from a_count a_to : Int} {s m s0 : S2} {r0 : Int} (hF : FX7_move a_space a_from a_count a_to s = some (r0, s0)) : gMet l w bs yX7_move cX7_move 8 (some FieldType.int) 7 3 [(10, 0), (0, a_space), (0, a_from), (0, a_count), (0, a_to)] (s, m) (gxc r0) (some (0, r0)) (s0, m) := by
  unfold FX7_move at hF
  obtain ⟨hF, hr⟩ := rgx_some hF
  obtain ⟨q_a_space, hF⟩ := gd_some hF
  obtain ⟨q_a_from, hF⟩ := gd_some hF
  obtain ⟨q_a_count, hF⟩ := gd_some hF
  obtain ⟨q_a_to, hF⟩ := gd_some hF
  refine g_start hl (by decide) (Nat.le_of_ble_eq_true rfl) rfl fun X h hE => ?_
  have h : gOk X "Pagewright" cX7_move 8 7 3 18 := h
  have hE : gEnd X l w bs 3 (some FieldType.int) (gxc r0) (some (0, r0)) (s0, m) := hE
  show G X 0 0 0 [(10, 0), (0, a_space), (0, a_from), (0, a_count), (0, a_to), (1, 0), (1, 0), (1, 0)] [] (s, m)
  refine g_aload_nq h 0 dX7_move_0 rfl rfl ?_
  refine g_iload_n h 1 dX7_move_1 rfl ?_
  obtain ⟨r1, s1, c1, hF⟩ := cb_some hF
  refine g_callVX h hE 2 dX7_move_2 (ctX7_known hl c1) mwX7_known kw_515 (by decide) (by decide) rfl (Nat.le_of_ble_eq_true rfl) rfl (Nat.le_of_ble_eq_true rfl) ⟨Nat.le_of_ble_eq_true rfl, Nat.le_of_ble_eq_true rfl⟩ rfl rfl (fun x1 => ?_) (fun x1 => ?_)
  · have hF := ite_t x1 hF
    obtain ⟨e1, e2⟩ := some_2 hF
    exact ⟨by rw [e1], by rw [e2], (Nat.le_of_ble_eq_true rfl), (Nat.le_of_ble_eq_true rfl)⟩
  have hF := ite_f (fun q => q x1) hF
  have t1 : 0 ≤ r1 ∧ r1 ≤ 5 := (rgX7_known c1).resolve_left (fun q => q x1)
  show G X 1 6 5 [(10, 0), (0, a_space), (0, a_from), (0, a_count), (0, a_to), (1, 0), (1, 0), (1, 0)] [(8, r1)] (s1, m)
  refine g_astore h 5 dX7_move_5 (Nat.le_of_ble_eq_true rfl) rfl (L' := [(10, 0), (0, a_space), (0, a_from), (0, a_count), (0, a_to), (8, r1), (1, 0), (1, 0)]) rfl ?_
  suffices J1 : ∀ v1 : Int, v1 = (if (((0 ≤ a_from) ∧ (a_from ≤ 31)) ∧ ((1 ≤ a_count) ∧ (a_count ≤ 32 - a_from))) ∧ (((0 ≤ a_to) ∧ (a_to ≤ 31)) ∧ ((1 ≤ a_count) ∧ (a_count ≤ 32 - a_to))) then 1 else 0 : Int) → G X 1 6 29 [(10, 0), (0, a_space), (0, a_from), (0, a_count), (0, a_to), (8, r1), (1, 0), (1, 0)] [(0, v1)] (s1, m) by
    have J2 : (((0 ≤ a_from) ∧ (a_from ≤ 31)) ∧ ((1 ≤ a_count) ∧ (a_count ≤ 32 - a_from))) ∧ (((0 ≤ a_to) ∧ (a_to ≤ 31)) ∧ ((1 ≤ a_count) ∧ (a_count ≤ 32 - a_to))) → G X 1 6 24 [(10, 0), (0, a_space), (0, a_from), (0, a_count), (0, a_to), (8, r1), (1, 0), (1, 0)] [] (s1, m) := by
      intro h3
      refine g_iconst h 24 dX7_move_24 ?_
      refine g_goto h 25 29 dX7_move_25 (by decide) ?_
      exact J1 _ (if_pos h3).symm
    have J3 : ¬ ((((0 ≤ a_from) ∧ (a_from ≤ 31)) ∧ ((1 ≤ a_count) ∧ (a_count ≤ 32 - a_from))) ∧ (((0 ≤ a_to) ∧ (a_to ≤ 31)) ∧ ((1 ≤ a_count) ∧ (a_count ≤ 32 - a_to)))) → G X 1 6 28 [(10, 0), (0, a_space), (0, a_from), (0, a_count), (0, a_to), (8, r1), (1, 0), (1, 0)] [] (s1, m) := by
      intro h4
      refine g_iconst h 28 dX7_move_28 ?_
      exact J1 _ (if_neg h4).symm
    refine g_iload_n h 7 dX7_move_7 rfl ?_
    refine g_iload_n h 8 dX7_move_8 rfl ?_
    refine g_callS h hE 9 dX7_move_9 (cpX7_isStretch (a_from := a_from) (a_count := a_count) hl (by omega) (by omega)) mwX7_isStretch kw_535 rfl (Nat.le_of_ble_eq_true rfl) rfl (Nat.le_of_ble_eq_true rfl) ⟨Nat.le_of_ble_eq_true rfl, Nat.le_of_ble_eq_true rfl⟩ rfl rfl ?_
    show G X 1 6 12 [(10, 0), (0, a_space), (0, a_from), (0, a_count), (0, a_to), (8, r1), (1, 0), (1, 0)] [(0, (if ((0 ≤ a_from) ∧ (a_from ≤ 31)) ∧ ((1 ≤ a_count) ∧ (a_count ≤ 32 - a_from)) then 1 else 0 : Int))] (s1, m)
    refine g_if_eq h 12 28 (gRi gR_ite) dX7_move_12 (by decide) (fun h1 => ?_) (fun h1 => ?_)
    · exact J3 (fun q => (iz_f h1) q.1)
    · refine g_iload h 15 dX7_move_15 rfl ?_
      refine g_iload_n h 17 dX7_move_17 rfl ?_
      refine g_callS h hE 18 dX7_move_18 (cpX7_isStretch (a_from := a_to) (a_count := a_count) hl (by omega) (by omega)) mwX7_isStretch kw_535 rfl (Nat.le_of_ble_eq_true rfl) rfl (Nat.le_of_ble_eq_true rfl) ⟨Nat.le_of_ble_eq_true rfl, Nat.le_of_ble_eq_true rfl⟩ rfl rfl ?_
      show G X 1 6 21 [(10, 0), (0, a_space), (0, a_from), (0, a_count), (0, a_to), (8, r1), (1, 0), (1, 0)] [(0, (if ((0 ≤ a_to) ∧ (a_to ≤ 31)) ∧ ((1 ≤ a_count) ∧ (a_count ≤ 32 - a_to)) then 1 else 0 : Int))] (s1, m)
      refine g_if_eq h 21 28 (gRi gR_ite) dX7_move_21 (by decide) (fun h2 => ?_) (fun h2 => ?_)
      · exact J3 (fun q => (iz_f h2) q.2)
      · exact J2 ⟨(iz_t h1), (iz_t h2)⟩
  intro v1 e1
  subst e1
  obtain ⟨r2, s2, c2, hF⟩ := cb_some hF
  refine g_callSX h hE 29 dX7_move_29 (ctX7_demand hl c2) mwX7_demand kw_413 rfl (Nat.le_of_ble_eq_true rfl) rfl (Nat.le_of_ble_eq_true rfl) ⟨Nat.le_of_ble_eq_true rfl, Nat.le_of_ble_eq_true rfl⟩ rfl rfl (fun x2 => ?_) (fun x2 => ?_)
  · have hF := ite_t x2 hF
    obtain ⟨e1, e2⟩ := some_2 hF
    exact ⟨by rw [e1], by rw [e2], (Nat.le_of_ble_eq_true rfl), (Nat.le_of_ble_eq_true rfl)⟩
  have hF := ite_f (fun q => q x2) hF
  show G X 2 12 32 [(10, 0), (0, a_space), (0, a_from), (0, a_count), (0, a_to), (8, r1), (1, 0), (1, 0)] [] (s2, m)
  obtain ⟨k1, ek1, hF⟩ := bn_ex hF
  have J4 : ∀ (v2 : Int) (s3 : S2), (0 ≤ v2 ∧ v2 ≤ 1) → k1 v2 s3 = some (r0, s0) → G X 2 12 67 [(10, 0), (0, a_space), (0, a_from), (0, a_count), (0, a_to), (8, r1), (1, 0), (1, 0)] [(0, v2)] (s3, m) := by
    intro v2 s3 q1 hF
    rw [ek1] at hF
    obtain ⟨r5, s8, c5, hF⟩ := cb_some hF
    refine g_callSX h hE 67 dX7_move_67 (ctX7_permit hl c5) mwX7_permit kw_484 rfl (Nat.le_of_ble_eq_true rfl) rfl (Nat.le_of_ble_eq_true rfl) ⟨Nat.le_of_ble_eq_true rfl, Nat.le_of_ble_eq_true rfl⟩ rfl rfl (fun x3 => ?_) (fun x3 => ?_)
    · have hF := ite_t x3 hF
      obtain ⟨e1, e2⟩ := some_2 hF
      exact ⟨by rw [e1], by rw [e2], (Nat.le_of_ble_eq_true rfl), (Nat.le_of_ble_eq_true rfl)⟩
    have hF := ite_f (fun q => q x3) hF
    show G X 3 18 70 [(10, 0), (0, a_space), (0, a_from), (0, a_count), (0, a_to), (8, r1), (1, 0), (1, 0)] [] (s8, m)
    refine g_iconst h 70 dX7_move_70 ?_
    refine g_istore h 71 dX7_move_71 (Nat.le_of_ble_eq_true rfl) rfl (L' := [(10, 0), (0, a_space), (0, a_from), (0, a_count), (0, a_to), (8, r1), (0, 0), (1, 0)]) rfl ?_
    obtain ⟨f1, ef1, hF⟩ := glx1 hF
    have J12 : ∀ (n1 : Nat) (x_i1 : Int) (s9 : S2), (0 ≤ x_i1 ∧ x_i1 ≤ 2147483647) → gl1 n1 f1 x_i1 s9 = some (r0, s0) → G X 3 18 73 [(10, 0), (0, a_space), (0, a_from), (0, a_count), (0, a_to), (8, r1), (0, x_i1), (1, 0)] [] (s9, m) := by
      intro n1
      induction n1 with
      | zero => intro x_i1 s9 _ hF; exact (gl1_0 hF).elim
      | succ n1 ih1 =>
        intro x_i1 s9 q2 hF
        obtain ⟨k4, ek4, hF⟩ := glu1 hF ef1
        have J10 : x_i1 < a_count → G X 3 18 79 [(10, 0), (0, a_space), (0, a_from), (0, a_count), (0, a_to), (8, r1), (0, x_i1), (1, 0)] [] (s9, m) := by
          intro h11
          have hF := ite_t h11 hF
          obtain ⟨q3, hF⟩ := gd_some hF
          refine g_aloadq h 79 dX7_move_79 rfl rfl ?_
          refine gf_Space_entries h 81 dX7_move_81 kw_254 (by omega) ?_
          refine g_iload_n h 84 dX7_move_84 rfl ?_
          refine g_iload h 85 dX7_move_85 rfl ?_
          refine g_iadd h 87 dX7_move_87 ?_
          refine al_Space_entries h 88 dX7_move_88 (by omega) (by omega) ?_
          refine g_astore h 89 dX7_move_89 (Nat.le_of_ble_eq_true rfl) rfl (L' := [(10, 0), (0, a_space), (0, a_from), (0, a_count), (0, a_to), (8, r1), (0, x_i1), (4, 32 * r1 + (a_from + x_i1))]) rfl ?_
          refine g_aloadq h 91 dX7_move_91 rfl rfl ?_
          obtain ⟨r6, s10, c6, hF⟩ := cb_some hF
          refine g_callV h hE 93 dX7_move_93 (ctX1_tellProcessors hl c6) mwX1_tellProcessors kw_569 (by decide) (show _ ∧ _ < (192 : Int) by omega) rfl (Nat.le_of_ble_eq_true rfl) rfl (Nat.le_of_ble_eq_true rfl) ⟨Nat.le_of_ble_eq_true rfl, Nat.le_of_ble_eq_true rfl⟩ rfl rfl ?_
          show G X 3 18 96 [(10, 0), (0, a_space), (0, a_from), (0, a_count), (0, a_to), (8, r1), (0, x_i1), (4, 32 * r1 + (a_from + x_i1))] [] (s10, m)
          refine g_aload_nq h 96 dX7_move_96 rfl rfl ?_
          obtain ⟨q4, hF⟩ := gd_some hF
          refine g_aloadq h 97 dX7_move_97 rfl rfl ?_
          refine gf_Entry_block h 99 dX7_move_99 kw_191 (by omega) ?_
          refine g_iconst h 102 dX7_move_102 ?_
          obtain ⟨r7, s11, c7, hF⟩ := cb_some hF
          refine g_callV h hE 103 dX7_move_103 (ctX7_setJoined hl c7) mwX7_setJoined kw_573 (by decide) (by decide) rfl (Nat.le_of_ble_eq_true rfl) rfl (Nat.le_of_ble_eq_true rfl) ⟨Nat.le_of_ble_eq_true rfl, Nat.le_of_ble_eq_true rfl⟩ rfl rfl ?_
          show G X 3 18 106 [(10, 0), (0, a_space), (0, a_from), (0, a_count), (0, a_to), (8, r1), (0, x_i1), (4, 32 * r1 + (a_from + x_i1))] [] (s11, m)
          obtain ⟨q5, hF⟩ := gd_some hF
          refine g_aloadq h 106 dX7_move_106 rfl rfl ?_
          refine gf_Space_entries h 108 dX7_move_108 kw_254 (by omega) ?_
          refine g_iload h 111 dX7_move_111 rfl ?_
          refine g_iload h 113 dX7_move_113 rfl ?_
          refine g_iadd h 115 dX7_move_115 ?_
          refine al_Space_entries h 116 dX7_move_116 (by omega) (by omega) ?_
          refine g_aloadq h 117 dX7_move_117 rfl rfl ?_
          obtain ⟨r8, s12, c8, hF⟩ := cb_some hF
          refine g_callV h hE 119 dX7_move_119 (ctX1_takeOver hl c8) mwX1_takeOver kw_609 (by decide) (show _ ∧ _ < (192 : Int) by omega) rfl (Nat.le_of_ble_eq_true rfl) rfl (Nat.le_of_ble_eq_true rfl) ⟨Nat.le_of_ble_eq_true rfl, Nat.le_of_ble_eq_true rfl⟩ rfl rfl ?_
          show G X 3 18 122 [(10, 0), (0, a_space), (0, a_from), (0, a_count), (0, a_to), (8, r1), (0, x_i1), (4, 32 * r1 + (a_from + x_i1))] [] (s12, m)
          refine g_iinc h 122 dX7_move_122 rfl rfl (L' := [(10, 0), (0, a_space), (0, a_from), (0, a_count), (0, a_to), (8, r1), (0, x_i1 + 1), (4, 32 * r1 + (a_from + x_i1))]) rfl ?_
          refine g_goto h 125 73 dX7_move_125 (by decide) ?_
          refine G_weak (L' := [(10, 0), (0, a_space), (0, a_from), (0, a_count), (0, a_to), (8, r1), (0, x_i1 + 1), (1, 0)]) ⟨Or.inr rfl, Or.inr rfl, Or.inr rfl, Or.inr rfl, Or.inr rfl, Or.inr rfl, Or.inr rfl, Or.inl rfl, trivial⟩ ?_
          rw [ek4] at hF
          exact ih1 _ _ (by omega) hF
        have J11 : ¬ (x_i1 < a_count) → G X 3 18 128 [(10, 0), (0, a_space), (0, a_from), (0, a_count), (0, a_to), (8, r1), (0, x_i1), (1, 0)] [] (s9, m) := by
          intro h12
          have hF := ite_f h12 hF
          refine g_aloadq h 128 dX7_move_128 rfl rfl ?_
          obtain ⟨r9, s13, c9, hF⟩ := cb_some hF
          have t5 : 0 ≤ r9 ∧ r9 ≤ 32 := rgX5_regions c9
          refine g_callV h hE 130 dX7_move_130 (ctX5_regions hl c9) mwX5_regions kw_546 (by decide) (show _ ∧ _ < (6 : Int) by omega) rfl (Nat.le_of_ble_eq_true rfl) rfl (Nat.le_of_ble_eq_true rfl) ⟨Nat.le_of_ble_eq_true rfl, Nat.le_of_ble_eq_true rfl⟩ rfl rfl ?_
          show G X 3 18 133 [(10, 0), (0, a_space), (0, a_from), (0, a_count), (0, a_to), (8, r1), (0, x_i1), (1, 0)] [(0, r9)] (s13, m)
          obtain ⟨e1, e2⟩ := some_2 hF
          rw [← e1, ← e2, gxc_0 (gRi (by omega))] at hE
          exact g_iret h 133 dX7_move_133 hE rfl rfl ⟨(Nat.le_of_ble_eq_true rfl), (Nat.le_of_ble_eq_true rfl)⟩
        refine g_iload h 73 dX7_move_73 rfl ?_
        refine g_iload_n h 75 dX7_move_75 rfl ?_
        refine g_icmp_ge h 76 128 (gRi (by omega)) (gRi (by omega)) dX7_move_76 (by decide) (fun h10 => ?_) (fun h10 => ?_)
        · exact J11 (Int.not_lt.mpr h10)
        · exact J10 h10
    exact J12 _ _ _ (by omega) hF
  obtain ⟨k2, ek2, hF⟩ := bn_ex hF
  have J5 : ∀ (s4 : S2), k2 s4 = some (r0, s0) → G X 2 12 62 [(10, 0), (0, a_space), (0, a_from), (0, a_count), (0, a_to), (8, r1), (1, 0), (1, 0)] [] (s4, m) := by
    intro s4 hF
    rw [ek2] at hF
    refine g_iconst h 62 dX7_move_62 ?_
    refine g_goto h 63 67 dX7_move_63 (by decide) ?_
    exact J4 _ _ (by omega) hF
  obtain ⟨k3, ek3, hF⟩ := bn_ex hF
  have J6 : ∀ (s5 : S2), k3 s5 = some (r0, s0) → G X 2 12 66 [(10, 0), (0, a_space), (0, a_from), (0, a_count), (0, a_to), (8, r1), (1, 0), (1, 0)] [] (s5, m) := by
    intro s5 hF
    rw [ek3] at hF
    refine g_iconst h 66 dX7_move_66 ?_
    exact J4 _ _ (by omega) hF
  refine G_typ fun hT_s2 => ?_
  have t2 : 0 ≤ s2 35 r1 ∧ s2 35 r1 ≤ 1 := hT_s2.1 35 r1
  have J7 : s2 35 r1 ≠ 0 → G X 2 12 40 [(10, 0), (0, a_space), (0, a_from), (0, a_count), (0, a_to), (8, r1), (1, 0), (1, 0)] [] (s2, m) := by
    intro h6
    have hF := ite_t h6 hF
    refine g_aloadq h 40 dX7_move_40 rfl rfl ?_
    refine g_iload_n h 42 dX7_move_42 rfl ?_
    refine g_iload_n h 43 dX7_move_43 rfl ?_
    obtain ⟨r3, s6, c3, hF⟩ := cb_some hF
    have t3 : 0 ≤ r3 ∧ r3 ≤ 32 := rgX5_mapped c3
    refine g_callV h hE 44 dX7_move_44 (ctX5_mapped hl c3) mwX5_mapped kw_538 (by decide) (show _ ∧ _ < (6 : Int) by omega) rfl (Nat.le_of_ble_eq_true rfl) rfl (Nat.le_of_ble_eq_true rfl) ⟨Nat.le_of_ble_eq_true rfl, Nat.le_of_ble_eq_true rfl⟩ rfl rfl ?_
    show G X 2 12 47 [(10, 0), (0, a_space), (0, a_from), (0, a_count), (0, a_to), (8, r1), (1, 0), (1, 0)] [(0, r3)] (s6, m)
    refine g_iload_n h 47 dX7_move_47 rfl ?_
    refine g_icmp_ne h 48 66 (gRi (by omega)) (gRi (by omega)) dX7_move_48 (by decide) (fun h7 => ?_) (fun h7 => ?_)
    · have hF := ite_f h7 hF
      exact J6 _ hF
    · have hF := ite_t h7 hF
      refine g_aloadq h 51 dX7_move_51 rfl rfl ?_
      refine g_iload h 53 dX7_move_53 rfl ?_
      refine g_iload_n h 55 dX7_move_55 rfl ?_
      obtain ⟨r4, s7, c4, hF⟩ := cb_some hF
      have t4 : 0 ≤ r4 ∧ r4 ≤ 32 := rgX5_mapped c4
      refine g_callV h hE 56 dX7_move_56 (ctX5_mapped hl c4) mwX5_mapped kw_538 (by decide) (show _ ∧ _ < (6 : Int) by omega) rfl (Nat.le_of_ble_eq_true rfl) rfl (Nat.le_of_ble_eq_true rfl) ⟨Nat.le_of_ble_eq_true rfl, Nat.le_of_ble_eq_true rfl⟩ rfl rfl ?_
      show G X 2 12 59 [(10, 0), (0, a_space), (0, a_from), (0, a_count), (0, a_to), (8, r1), (1, 0), (1, 0)] [(0, r4)] (s7, m)
      refine g_if_ne h 59 66 (gRi (by omega)) dX7_move_59 (by decide) (fun h8 => ?_) (fun h8 => ?_)
      · have hF := ite_f h8 hF
        exact J6 _ hF
      · have hF := ite_t h8 hF
        exact J5 _ hF
  have J8 : ¬ (s2 35 r1 ≠ 0) → G X 2 12 66 [(10, 0), (0, a_space), (0, a_from), (0, a_count), (0, a_to), (8, r1), (1, 0), (1, 0)] [] (s2, m) := by
    intro h9
    have hF := ite_f h9 hF
    exact J6 _ hF
  refine g_aloadq h 32 dX7_move_32 rfl rfl ?_
  refine gf_Space_living h 34 dX7_move_34 kw_259 (by omega) ?_
  refine g_if_eq h 37 66 (gRi (by omega)) dX7_move_37 (by decide) (fun h5 => ?_) (fun h5 => ?_)
  · exact J8 (fun q => q h5)
  · exact J7 h5
-- Pagewright.protect
def FX7_protect (a_space a_from a_count a_rights : Int) (s : S2) : Option (Int × S2) :=
  rgx <| gd ((-2147483648) ≤ a_space ∧ a_space ≤ 2147483647) <| gd ((-2147483648) ≤ a_from ∧ a_from ≤ 2147483647) <| gd ((-2147483648) ≤ a_count ∧ a_count ≤ 2147483647) <| gd ((-2147483648) ≤ a_rights ∧ a_rights ≤ 2147483647) <| cb (FX7_known a_space s) fun r1 s1 => if gxc r1 ≠ 0 then some (r1, s1) else cb (FX7_demand (if (((0 ≤ a_from) ∧ (a_from ≤ 31)) ∧ ((1 ≤ a_count) ∧ (a_count ≤ 32 - a_from))) ∧ ((1 ≤ a_rights) ∧ (a_rights ≤ 3)) then 1 else 0 : Int) s1) fun r2 s2 => if gxc r2 ≠ 0 then some (r2, s2) else cb (FX7_permit (s2 35 r1) s2) fun r3 s3 => if gxc r3 ≠ 0 then some (r3, s3) else gl1 1000 (fun k1 (x_i1 : Int) (s4 : S2) => gd ((-2147483648) ≤ x_i1 ∧ x_i1 ≤ 2147483647) <| gd ((-2147483648) ≤ a_from + a_count ∧ a_from + a_count ≤ 2147483647) <| if x_i1 < a_from + a_count then gd (0 ≤ x_i1 ∧ x_i1 ≤ 31) <| bn (fun (s5 : S2) => k1 (x_i1 + 1) s5) fun k2 => gd (0 ≤ 32 * r1 + x_i1 ∧ 32 * r1 + x_i1 ≤ 191) <| if s4 2 (32 * r1 + x_i1) ≠ 0 then gd (0 ≤ a_rights ∧ a_rights ≤ 3) <| bn (upd2 s4 3 (32 * r1 + x_i1) a_rights) fun s6 => cb (FX1_forbidStores (32 * r1 + x_i1) s6) fun r4 s7 => cb (FX7_setJoined ((32 * r1 + x_i1) / 4) 0 s7) fun r5 s8 => k2 s8 else k2 s4 else cb (FX5_regions r1 s4) fun r6 s9 => some (r6, s9)) a_from s3
theorem rgX7_protect {a_space a_from a_count a_rights : Int} {s s0 : S2} {r0 : Int} (hF : FX7_protect a_space a_from a_count a_rights s = some (r0, s0)) : gxc r0 ≠ 0 ∨ (-2147483648) ≤ r0 ∧ r0 ≤ 2147483647 := (rgx_some hF).2
set_option maxRecDepth 100000 in
set_option maxHeartbeats 4000000 in
theorem ctX7_protect {l : Launch} {w : gW} {bs : Nat} (hl : l.stackTraces = false) {a_space a_from a_count a_rights : Int} {s m s0 : S2} {r0 : Int} (hF : FX7_protect a_space a_from a_count a_rights s = some (r0, s0)) : gMet l w bs yX7_protect cX7_protect 8 (some FieldType.int) 7 3 [(10, 0), (0, a_space), (0, a_from), (0, a_count), (0, a_rights)] (s, m) (gxc r0) (some (0, r0)) (s0, m) := by
  unfold FX7_protect at hF
  obtain ⟨hF, hr⟩ := rgx_some hF
  obtain ⟨q_a_space, hF⟩ := gd_some hF
  obtain ⟨q_a_from, hF⟩ := gd_some hF
  obtain ⟨q_a_count, hF⟩ := gd_some hF
  obtain ⟨q_a_rights, hF⟩ := gd_some hF
  refine g_start hl (by decide) (Nat.le_of_ble_eq_true rfl) rfl fun X h hE => ?_
  have h : gOk X "Pagewright" cX7_protect 8 7 3 18 := h
  have hE : gEnd X l w bs 3 (some FieldType.int) (gxc r0) (some (0, r0)) (s0, m) := hE
  show G X 0 0 0 [(10, 0), (0, a_space), (0, a_from), (0, a_count), (0, a_rights), (1, 0), (1, 0), (1, 0)] [] (s, m)
  refine g_aload_nq h 0 dX7_protect_0 rfl rfl ?_
  refine g_iload_n h 1 dX7_protect_1 rfl ?_
  obtain ⟨r1, s1, c1, hF⟩ := cb_some hF
  refine g_callVX h hE 2 dX7_protect_2 (ctX7_known hl c1) mwX7_known kw_515 (by decide) (by decide) rfl (Nat.le_of_ble_eq_true rfl) rfl (Nat.le_of_ble_eq_true rfl) ⟨Nat.le_of_ble_eq_true rfl, Nat.le_of_ble_eq_true rfl⟩ rfl rfl (fun x1 => ?_) (fun x1 => ?_)
  · have hF := ite_t x1 hF
    obtain ⟨e1, e2⟩ := some_2 hF
    exact ⟨by rw [e1], by rw [e2], (Nat.le_of_ble_eq_true rfl), (Nat.le_of_ble_eq_true rfl)⟩
  have hF := ite_f (fun q => q x1) hF
  have t1 : 0 ≤ r1 ∧ r1 ≤ 5 := (rgX7_known c1).resolve_left (fun q => q x1)
  show G X 1 6 5 [(10, 0), (0, a_space), (0, a_from), (0, a_count), (0, a_rights), (1, 0), (1, 0), (1, 0)] [(8, r1)] (s1, m)
  refine g_astore h 5 dX7_protect_5 (Nat.le_of_ble_eq_true rfl) rfl (L' := [(10, 0), (0, a_space), (0, a_from), (0, a_count), (0, a_rights), (8, r1), (1, 0), (1, 0)]) rfl ?_
  suffices J1 : ∀ v1 : Int, v1 = (if (((0 ≤ a_from) ∧ (a_from ≤ 31)) ∧ ((1 ≤ a_count) ∧ (a_count ≤ 32 - a_from))) ∧ ((1 ≤ a_rights) ∧ (a_rights ≤ 3)) then 1 else 0 : Int) → G X 1 6 30 [(10, 0), (0, a_space), (0, a_from), (0, a_count), (0, a_rights), (8, r1), (1, 0), (1, 0)] [(0, v1)] (s1, m) by
    have J2 : (((0 ≤ a_from) ∧ (a_from ≤ 31)) ∧ ((1 ≤ a_count) ∧ (a_count ≤ 32 - a_from))) ∧ ((1 ≤ a_rights) ∧ (a_rights ≤ 3)) → G X 1 6 25 [(10, 0), (0, a_space), (0, a_from), (0, a_count), (0, a_rights), (8, r1), (1, 0), (1, 0)] [] (s1, m) := by
      intro h3
      refine g_iconst h 25 dX7_protect_25 ?_
      refine g_goto h 26 30 dX7_protect_26 (by decide) ?_
      exact J1 _ (if_pos h3).symm
    have J3 : ¬ ((((0 ≤ a_from) ∧ (a_from ≤ 31)) ∧ ((1 ≤ a_count) ∧ (a_count ≤ 32 - a_from))) ∧ ((1 ≤ a_rights) ∧ (a_rights ≤ 3))) → G X 1 6 29 [(10, 0), (0, a_space), (0, a_from), (0, a_count), (0, a_rights), (8, r1), (1, 0), (1, 0)] [] (s1, m) := by
      intro h4
      refine g_iconst h 29 dX7_protect_29 ?_
      exact J1 _ (if_neg h4).symm
    refine g_iload_n h 7 dX7_protect_7 rfl ?_
    refine g_iload_n h 8 dX7_protect_8 rfl ?_
    refine g_callS h hE 9 dX7_protect_9 (cpX7_isStretch (a_from := a_from) (a_count := a_count) hl (by omega) (by omega)) mwX7_isStretch kw_535 rfl (Nat.le_of_ble_eq_true rfl) rfl (Nat.le_of_ble_eq_true rfl) ⟨Nat.le_of_ble_eq_true rfl, Nat.le_of_ble_eq_true rfl⟩ rfl rfl ?_
    show G X 1 6 12 [(10, 0), (0, a_space), (0, a_from), (0, a_count), (0, a_rights), (8, r1), (1, 0), (1, 0)] [(0, (if ((0 ≤ a_from) ∧ (a_from ≤ 31)) ∧ ((1 ≤ a_count) ∧ (a_count ≤ 32 - a_from)) then 1 else 0 : Int))] (s1, m)
    refine g_if_eq h 12 29 (gRi gR_ite) dX7_protect_12 (by decide) (fun h1 => ?_) (fun h1 => ?_)
    · exact J3 (fun q => (iz_f h1) q.1)
    · refine g_iload h 15 dX7_protect_15 rfl ?_
      refine g_iconst h 17 dX7_protect_17 ?_
      refine g_iconst h 18 dX7_protect_18 ?_
      refine g_callS h hE 19 dX7_protect_19 (cpX7_within (a_number := a_rights) (a_lowest := 1) (a_highest := 3) hl (by omega) (by omega) (by omega)) mwX7_within kw_410 rfl (Nat.le_of_ble_eq_true rfl) rfl (Nat.le_of_ble_eq_true rfl) ⟨Nat.le_of_ble_eq_true rfl, Nat.le_of_ble_eq_true rfl⟩ rfl rfl ?_
      show G X 1 6 22 [(10, 0), (0, a_space), (0, a_from), (0, a_count), (0, a_rights), (8, r1), (1, 0), (1, 0)] [(0, (if (1 ≤ a_rights) ∧ (a_rights ≤ 3) then 1 else 0 : Int))] (s1, m)
      refine g_if_eq h 22 29 (gRi gR_ite) dX7_protect_22 (by decide) (fun h2 => ?_) (fun h2 => ?_)
      · exact J3 (fun q => (iz_f h2) q.2)
      · exact J2 ⟨(iz_t h1), (iz_t h2)⟩
  intro v1 e1
  subst e1
  obtain ⟨r2, s2, c2, hF⟩ := cb_some hF
  refine g_callSX h hE 30 dX7_protect_30 (ctX7_demand hl c2) mwX7_demand kw_413 rfl (Nat.le_of_ble_eq_true rfl) rfl (Nat.le_of_ble_eq_true rfl) ⟨Nat.le_of_ble_eq_true rfl, Nat.le_of_ble_eq_true rfl⟩ rfl rfl (fun x2 => ?_) (fun x2 => ?_)
  · have hF := ite_t x2 hF
    obtain ⟨e1, e2⟩ := some_2 hF
    exact ⟨by rw [e1], by rw [e2], (Nat.le_of_ble_eq_true rfl), (Nat.le_of_ble_eq_true rfl)⟩
  have hF := ite_f (fun q => q x2) hF
  show G X 2 12 33 [(10, 0), (0, a_space), (0, a_from), (0, a_count), (0, a_rights), (8, r1), (1, 0), (1, 0)] [] (s2, m)
  refine G_typ fun hT_s2 => ?_
  have t2 : 0 ≤ s2 35 r1 ∧ s2 35 r1 ≤ 1 := hT_s2.1 35 r1
  refine g_aloadq h 33 dX7_protect_33 rfl rfl ?_
  refine gf_Space_living h 35 dX7_protect_35 kw_259 (by omega) ?_
  obtain ⟨r3, s3, c3, hF⟩ := cb_some hF
  refine g_callSX h hE 38 dX7_protect_38 (ctX7_permit hl c3) mwX7_permit kw_484 rfl (Nat.le_of_ble_eq_true rfl) rfl (Nat.le_of_ble_eq_true rfl) ⟨Nat.le_of_ble_eq_true rfl, Nat.le_of_ble_eq_true rfl⟩ rfl rfl (fun x3 => ?_) (fun x3 => ?_)
  · have hF := ite_t x3 hF
    obtain ⟨e1, e2⟩ := some_2 hF
    exact ⟨by rw [e1], by rw [e2], (Nat.le_of_ble_eq_true rfl), (Nat.le_of_ble_eq_true rfl)⟩
  have hF := ite_f (fun q => q x3) hF
  show G X 3 18 41 [(10, 0), (0, a_space), (0, a_from), (0, a_count), (0, a_rights), (8, r1), (1, 0), (1, 0)] [] (s3, m)
  refine g_iload_n h 41 dX7_protect_41 rfl ?_
  refine g_istore h 42 dX7_protect_42 (Nat.le_of_ble_eq_true rfl) rfl (L' := [(10, 0), (0, a_space), (0, a_from), (0, a_count), (0, a_rights), (8, r1), (0, a_from), (1, 0)]) rfl ?_
  obtain ⟨f1, ef1, hF⟩ := glx1 hF
  have J10 : ∀ (n1 : Nat) (x_i1 : Int) (s4 : S2), ((-2147483648) ≤ x_i1 ∧ x_i1 ≤ 4294967294) → gl1 n1 f1 x_i1 s4 = some (r0, s0) → G X 3 18 44 [(10, 0), (0, a_space), (0, a_from), (0, a_count), (0, a_rights), (8, r1), (0, x_i1), (1, 0)] [] (s4, m) := by
    intro n1
    induction n1 with
    | zero => intro x_i1 s4 _ hF; exact (gl1_0 hF).elim
    | succ n1 ih1 =>
      intro x_i1 s4 q1 hF
      obtain ⟨k1, ek1, hF⟩ := glu1 hF ef1
      obtain ⟨q2, hF⟩ := gd_some hF
      obtain ⟨q3, hF⟩ := gd_some hF
      have J5 : x_i1 < a_from + a_count → G X 3 18 52 [(10, 0), (0, a_space), (0, a_from), (0, a_count), (0, a_rights), (8, r1), (0, x_i1), (1, 0)] [] (s4, m) := by
        intro h6
        have hF := ite_t h6 hF
        obtain ⟨q4, hF⟩ := gd_some hF
        refine g_aloadq h 52 dX7_protect_52 rfl rfl ?_
        refine gf_Space_entries h 54 dX7_protect_54 kw_254 (by omega) ?_
        refine g_iload h 57 dX7_protect_57 rfl ?_
        refine al_Space_entries h 59 dX7_protect_59 (by omega) (by omega) ?_
        refine g_astore h 60 dX7_protect_60 (Nat.le_of_ble_eq_true rfl) rfl (L' := [(10, 0), (0, a_space), (0, a_from), (0, a_count), (0, a_rights), (8, r1), (0, x_i1), (4, 32 * r1 + x_i1)]) rfl ?_
        obtain ⟨k2, ek2, hF⟩ := bn_ex hF
        have J7 : ∀ (s5 : S2), k2 s5 = some (r0, s0) → G X 3 18 92 [(10, 0), (0, a_space), (0, a_from), (0, a_count), (0, a_rights), (8, r1), (0, x_i1), (4, 32 * r1 + x_i1)] [] (s5, m) := by
          intro s5 hF
          rw [ek2] at hF
          refine g_iinc h 92 dX7_protect_92 rfl rfl (L' := [(10, 0), (0, a_space), (0, a_from), (0, a_count), (0, a_rights), (8, r1), (0, x_i1 + 1), (4, 32 * r1 + x_i1)]) rfl ?_
          refine g_goto h 95 44 dX7_protect_95 (by decide) ?_
          refine G_weak (L' := [(10, 0), (0, a_space), (0, a_from), (0, a_count), (0, a_rights), (8, r1), (0, x_i1 + 1), (1, 0)]) ⟨Or.inr rfl, Or.inr rfl, Or.inr rfl, Or.inr rfl, Or.inr rfl, Or.inr rfl, Or.inr rfl, Or.inl rfl, trivial⟩ ?_
          rw [ek1] at hF
          exact ih1 _ _ (by omega) hF
        refine G_typ fun hT_s4 => ?_
        have t3 : 0 ≤ s4 2 (32 * r1 + x_i1) ∧ s4 2 (32 * r1 + x_i1) ≤ 1 := hT_s4.1 2 (32 * r1 + x_i1)
        obtain ⟨q5, hF⟩ := gd_some hF
        have J8 : s4 2 (32 * r1 + x_i1) ≠ 0 → G X 3 18 70 [(10, 0), (0, a_space), (0, a_from), (0, a_count), (0, a_rights), (8, r1), (0, x_i1), (4, 32 * r1 + x_i1)] [] (s4, m) := by
          intro h8
          have hF := ite_t h8 hF
          refine g_aloadq h 70 dX7_protect_70 rfl rfl ?_
          refine g_iload h 72 dX7_protect_72 rfl ?_
          obtain ⟨q6, hF⟩ := gd_some hF
          obtain ⟨s6, es6, hF⟩ := bn_ex hF
          refine pf_Entry_rights h 74 dX7_protect_74 kw_196 (by omega) (by omega) ?_
          rw [← es6]
          refine g_aloadq h 77 dX7_protect_77 rfl rfl ?_
          obtain ⟨r4, s7, c4, hF⟩ := cb_some hF
          refine g_callV h hE 79 dX7_protect_79 (ctX1_forbidStores hl c4) mwX1_forbidStores kw_597 (by decide) (show _ ∧ _ < (192 : Int) by omega) rfl (Nat.le_of_ble_eq_true rfl) rfl (Nat.le_of_ble_eq_true rfl) ⟨Nat.le_of_ble_eq_true rfl, Nat.le_of_ble_eq_true rfl⟩ rfl rfl ?_
          show G X 3 18 82 [(10, 0), (0, a_space), (0, a_from), (0, a_count), (0, a_rights), (8, r1), (0, x_i1), (4, 32 * r1 + x_i1)] [] (s7, m)
          refine g_aload_nq h 82 dX7_protect_82 rfl rfl ?_
          refine g_aloadq h 83 dX7_protect_83 rfl rfl ?_
          refine gf_Entry_block h 85 dX7_protect_85 kw_191 (by omega) ?_
          refine g_iconst h 88 dX7_protect_88 ?_
          obtain ⟨r5, s8, c5, hF⟩ := cb_some hF
          refine g_callV h hE 89 dX7_protect_89 (ctX7_setJoined hl c5) mwX7_setJoined kw_573 (by decide) (by decide) rfl (Nat.le_of_ble_eq_true rfl) rfl (Nat.le_of_ble_eq_true rfl) ⟨Nat.le_of_ble_eq_true rfl, Nat.le_of_ble_eq_true rfl⟩ rfl rfl ?_
          show G X 3 18 92 [(10, 0), (0, a_space), (0, a_from), (0, a_count), (0, a_rights), (8, r1), (0, x_i1), (4, 32 * r1 + x_i1)] [] (s8, m)
          exact J7 _ hF
        have J9 : ¬ (s4 2 (32 * r1 + x_i1) ≠ 0) → G X 3 18 92 [(10, 0), (0, a_space), (0, a_from), (0, a_count), (0, a_rights), (8, r1), (0, x_i1), (4, 32 * r1 + x_i1)] [] (s4, m) := by
          intro h9
          have hF := ite_f h9 hF
          exact J7 _ hF
        refine g_aloadq h 62 dX7_protect_62 rfl rfl ?_
        refine gf_Entry_mapped h 64 dX7_protect_64 kw_194 (by omega) ?_
        refine g_if_eq h 67 92 (gRi (by omega)) dX7_protect_67 (by decide) (fun h7 => ?_) (fun h7 => ?_)
        · exact J9 (fun q => q h7)
        · exact J8 h7
      have J6 : ¬ (x_i1 < a_from + a_count) → G X 3 18 98 [(10, 0), (0, a_space), (0, a_from), (0, a_count), (0, a_rights), (8, r1), (0, x_i1), (1, 0)] [] (s4, m) := by
        intro h10
        have hF := ite_f h10 hF
        refine g_aloadq h 98 dX7_protect_98 rfl rfl ?_
        obtain ⟨r6, s9, c6, hF⟩ := cb_some hF
        have t4 : 0 ≤ r6 ∧ r6 ≤ 32 := rgX5_regions c6
        refine g_callV h hE 100 dX7_protect_100 (ctX5_regions hl c6) mwX5_regions kw_546 (by decide) (show _ ∧ _ < (6 : Int) by omega) rfl (Nat.le_of_ble_eq_true rfl) rfl (Nat.le_of_ble_eq_true rfl) ⟨Nat.le_of_ble_eq_true rfl, Nat.le_of_ble_eq_true rfl⟩ rfl rfl ?_
        show G X 3 18 103 [(10, 0), (0, a_space), (0, a_from), (0, a_count), (0, a_rights), (8, r1), (0, x_i1), (1, 0)] [(0, r6)] (s9, m)
        obtain ⟨e1, e2⟩ := some_2 hF
        rw [← e1, ← e2, gxc_0 (gRi (by omega))] at hE
        exact g_iret h 103 dX7_protect_103 hE rfl rfl ⟨(Nat.le_of_ble_eq_true rfl), (Nat.le_of_ble_eq_true rfl)⟩
      refine g_iload h 44 dX7_protect_44 rfl ?_
      refine g_iload_n h 46 dX7_protect_46 rfl ?_
      refine g_iload_n h 47 dX7_protect_47 rfl ?_
      refine g_iadd h 48 dX7_protect_48 ?_
      refine g_icmp_ge h 49 98 (gRi (by omega)) (gRi (by omega)) dX7_protect_49 (by decide) (fun h5 => ?_) (fun h5 => ?_)
      · exact J6 (Int.not_lt.mpr h5)
      · exact J5 h5
  exact J10 _ _ _ (by omega) hF
-- Pagewright.read
def FX7_read (a_file a_index : Int) (s : S2) : Option (Int × S2) :=
  rgx <| gd ((-2147483648) ≤ a_file ∧ a_file ≤ 2147483647) <| gd ((-2147483648) ≤ a_index ∧ a_index ≤ 2147483647) <| cb (FX7_demand (if ((0 ≤ a_file) ∧ (a_file ≤ 2)) ∧ ((0 ≤ a_index) ∧ (a_index ≤ 7)) then 1 else 0 : Int) s) fun r1 s1 => if gxc r1 ≠ 0 then some (r1, s1) else cb (FX7_accessFile a_file a_index (-1) s1) fun r2 s2 => some (r2, s2)
theorem rgX7_read {a_file a_index : Int} {s s0 : S2} {r0 : Int} (hF : FX7_read a_file a_index s = some (r0, s0)) : gxc r0 ≠ 0 ∨ (-2147483648) ≤ r0 ∧ r0 ≤ 2147483647 := (rgx_some hF).2
set_option maxRecDepth 100000 in
set_option maxHeartbeats 4000000 in
theorem ctX7_read {l : Launch} {w : gW} {bs : Nat} (hl : l.stackTraces = false) {a_file a_index : Int} {s m s0 : S2} {r0 : Int} (hF : FX7_read a_file a_index s = some (r0, s0)) : gMet l w bs yX7_read cX7_read 3 (some FieldType.int) 7 1 [(10, 0), (0, a_file), (0, a_index)] (s, m) (gxc r0) (some (0, r0)) (s0, m) := by
  unfold FX7_read at hF
  obtain ⟨hF, hr⟩ := rgx_some hF
  obtain ⟨q_a_file, hF⟩ := gd_some hF
  obtain ⟨q_a_index, hF⟩ := gd_some hF
  refine g_start hl (by decide) (Nat.le_of_ble_eq_true rfl) rfl fun X h hE => ?_
  have h : gOk X "Pagewright" cX7_read 3 7 1 6 := h
  have hE : gEnd X l w bs 1 (some FieldType.int) (gxc r0) (some (0, r0)) (s0, m) := hE
  show G X 0 0 0 [(10, 0), (0, a_file), (0, a_index)] [] (s, m)
  refine g_iload_n h 0 dX7_read_0 rfl ?_
  refine g_iload_n h 1 dX7_read_1 rfl ?_
  refine g_callS h hE 2 dX7_read_2 (cpX7_isInFile (a_file := a_file) (a_index := a_index) hl (by omega) (by omega)) mwX7_isInFile kw_834 rfl (Nat.le_of_ble_eq_true rfl) rfl (Nat.le_of_ble_eq_true rfl) ⟨Nat.le_of_ble_eq_true rfl, Nat.le_of_ble_eq_true rfl⟩ rfl rfl ?_
  show G X 0 0 5 [(10, 0), (0, a_file), (0, a_index)] [(0, (if ((0 ≤ a_file) ∧ (a_file ≤ 2)) ∧ ((0 ≤ a_index) ∧ (a_index ≤ 7)) then 1 else 0 : Int))] (s, m)
  obtain ⟨r1, s1, c1, hF⟩ := cb_some hF
  refine g_callSX h hE 5 dX7_read_5 (ctX7_demand hl c1) mwX7_demand kw_413 rfl (Nat.le_of_ble_eq_true rfl) rfl (Nat.le_of_ble_eq_true rfl) ⟨Nat.le_of_ble_eq_true rfl, Nat.le_of_ble_eq_true rfl⟩ rfl rfl (fun x1 => ?_) (fun x1 => ?_)
  · have hF := ite_t x1 hF
    obtain ⟨e1, e2⟩ := some_2 hF
    exact ⟨by rw [e1], by rw [e2], (Nat.le_of_ble_eq_true rfl), (Nat.le_of_ble_eq_true rfl)⟩
  have hF := ite_f (fun q => q x1) hF
  show G X 1 6 8 [(10, 0), (0, a_file), (0, a_index)] [] (s1, m)
  refine g_aload_nq h 8 dX7_read_8 rfl rfl ?_
  refine g_iload_n h 9 dX7_read_9 rfl ?_
  refine g_iload_n h 10 dX7_read_10 rfl ?_
  refine g_iconst h 11 dX7_read_11 ?_
  obtain ⟨r2, s2, c2, hF⟩ := cb_some hF
  have t1 : (-2147483648) ≤ r2 ∧ r2 ≤ 2147483647 := rgX7_accessFile c2
  refine g_callV h hE 12 dX7_read_12 (ctX7_accessFile hl c2) mwX7_accessFile kw_837 (by decide) (by decide) rfl (Nat.le_of_ble_eq_true rfl) rfl (Nat.le_of_ble_eq_true rfl) ⟨Nat.le_of_ble_eq_true rfl, Nat.le_of_ble_eq_true rfl⟩ rfl rfl ?_
  show G X 1 6 15 [(10, 0), (0, a_file), (0, a_index)] [(0, r2)] (s2, m)
  obtain ⟨e1, e2⟩ := some_2 hF
  rw [← e1, ← e2, gxc_0 (gRi (by omega))] at hE
  exact g_iret h 15 dX7_read_15 hE rfl rfl ⟨(Nat.le_of_ble_eq_true rfl), (Nat.le_of_ble_eq_true rfl)⟩
-- Pagewright.reclaim
def FX7_reclaim (a_pages : Int) (s : S2) : Option (Int × S2) :=
  rgx <| gd ((-2147483648) ≤ a_pages ∧ a_pages ≤ 2147483647) <| cb (FX7_demand (if (1 ≤ a_pages) ∧ (a_pages ≤ 24) then 1 else 0 : Int) s) fun r1 s1 => if gxc r1 ≠ 0 then some (r1, s1) else gl1 1000 (fun k1 (x_evicted1 : Int) (s2 : S2) => bn (fun (s3 : S2) => gd ((-2147483648) ≤ x_evicted1 + 1 ∧ x_evicted1 + 1 ≤ 2147483647) <| k1 (x_evicted1 + 1) s3) fun k2 => bn (fun (s4 : S2) => some (x_evicted1, s4)) fun k3 => if x_evicted1 < a_pages then cb (FX7_evictOne (-1) s2) fun r2 s5 => if r2 ≠ 0 then k2 s5 else k3 s5 else k3 s2) 0 s1
theorem rgX7_reclaim {a_pages : Int} {s s0 : S2} {r0 : Int} (hF : FX7_reclaim a_pages s = some (r0, s0)) : gxc r0 ≠ 0 ∨ (-2147483648) ≤ r0 ∧ r0 ≤ 2147483647 := (rgx_some hF).2
set_option maxRecDepth 100000 in
set_option maxHeartbeats 4000000 in
theorem ctX7_reclaim {l : Launch} {w : gW} {bs : Nat} (hl : l.stackTraces = false) {a_pages : Int} {s m s0 : S2} {r0 : Int} (hF : FX7_reclaim a_pages s = some (r0, s0)) : gMet l w bs yX7_reclaim cX7_reclaim 3 (some FieldType.int) 7 1 [(10, 0), (0, a_pages)] (s, m) (gxc r0) (some (0, r0)) (s0, m) := by
  unfold FX7_reclaim at hF
  obtain ⟨hF, hr⟩ := rgx_some hF
  obtain ⟨q_a_pages, hF⟩ := gd_some hF
  refine g_start hl (by decide) (Nat.le_of_ble_eq_true rfl) rfl fun X h hE => ?_
  have h : gOk X "Pagewright" cX7_reclaim 3 7 1 6 := h
  have hE : gEnd X l w bs 1 (some FieldType.int) (gxc r0) (some (0, r0)) (s0, m) := hE
  show G X 0 0 0 [(10, 0), (0, a_pages), (1, 0)] [] (s, m)
  refine g_iload_n h 0 dX7_reclaim_0 rfl ?_
  refine g_iconst h 1 dX7_reclaim_1 ?_
  refine g_bipush h 2 dX7_reclaim_2 (by decide) ?_
  refine g_callS h hE 4 dX7_reclaim_4 (cpX7_within (a_number := a_pages) (a_lowest := 1) (a_highest := 24) hl (by omega) (by omega) (by omega)) mwX7_within kw_410 rfl (Nat.le_of_ble_eq_true rfl) rfl (Nat.le_of_ble_eq_true rfl) ⟨Nat.le_of_ble_eq_true rfl, Nat.le_of_ble_eq_true rfl⟩ rfl rfl ?_
  show G X 0 0 7 [(10, 0), (0, a_pages), (1, 0)] [(0, (if (1 ≤ a_pages) ∧ (a_pages ≤ 24) then 1 else 0 : Int))] (s, m)
  obtain ⟨r1, s1, c1, hF⟩ := cb_some hF
  refine g_callSX h hE 7 dX7_reclaim_7 (ctX7_demand hl c1) mwX7_demand kw_413 rfl (Nat.le_of_ble_eq_true rfl) rfl (Nat.le_of_ble_eq_true rfl) ⟨Nat.le_of_ble_eq_true rfl, Nat.le_of_ble_eq_true rfl⟩ rfl rfl (fun x1 => ?_) (fun x1 => ?_)
  · have hF := ite_t x1 hF
    obtain ⟨e1, e2⟩ := some_2 hF
    exact ⟨by rw [e1], by rw [e2], (Nat.le_of_ble_eq_true rfl), (Nat.le_of_ble_eq_true rfl)⟩
  have hF := ite_f (fun q => q x1) hF
  show G X 1 6 10 [(10, 0), (0, a_pages), (1, 0)] [] (s1, m)
  refine g_iconst h 10 dX7_reclaim_10 ?_
  refine g_istore_n h 11 dX7_reclaim_11 (Nat.le_of_ble_eq_true rfl) rfl (L' := [(10, 0), (0, a_pages), (0, 0)]) rfl ?_
  obtain ⟨f1, ef1, hF⟩ := glx1 hF
  have J6 : ∀ (n1 : Nat) (x_evicted1 : Int) (s2 : S2), ((-2147483648) ≤ x_evicted1 ∧ x_evicted1 ≤ 2147483647) → gl1 n1 f1 x_evicted1 s2 = some (r0, s0) → G X 1 6 12 [(10, 0), (0, a_pages), (0, x_evicted1)] [] (s2, m) := by
    intro n1
    induction n1 with
    | zero => intro x_evicted1 s2 _ hF; exact (gl1_0 hF).elim
    | succ n1 ih1 =>
      intro x_evicted1 s2 q1 hF
      obtain ⟨k1, ek1, hF⟩ := glu1 hF ef1
      obtain ⟨k2, ek2, hF⟩ := bn_ex hF
      have J2 : ∀ (s3 : S2), k2 s3 = some (r0, s0) → G X 1 6 25 [(10, 0), (0, a_pages), (0, x_evicted1)] [] (s3, m) := by
        intro s3 hF
        rw [ek2] at hF
        refine g_iinc h 25 dX7_reclaim_25 rfl rfl (L' := [(10, 0), (0, a_pages), (0, x_evicted1 + 1)]) rfl ?_
        refine g_goto h 28 12 dX7_reclaim_28 (by decide) ?_
        obtain ⟨q2, hF⟩ := gd_some hF
        rw [ek1] at hF
        exact ih1 _ _ (by omega) hF
      obtain ⟨k3, ek3, hF⟩ := bn_ex hF
      have J3 : ∀ (s4 : S2), k3 s4 = some (r0, s0) → G X 1 6 31 [(10, 0), (0, a_pages), (0, x_evicted1)] [] (s4, m) := by
        intro s4 hF
        rw [ek3] at hF
        refine g_iload_n h 31 dX7_reclaim_31 rfl ?_
        obtain ⟨e1, e2⟩ := some_2 hF
        rw [← e1, ← e2, gxc_0 (gRi (by omega))] at hE
        exact g_iret h 32 dX7_reclaim_32 hE rfl rfl ⟨(Nat.le_of_ble_eq_true rfl), (Nat.le_of_ble_eq_true rfl)⟩
      have J4 : x_evicted1 < a_pages → G X 1 6 17 [(10, 0), (0, a_pages), (0, x_evicted1)] [] (s2, m) := by
        intro h2
        have hF := ite_t h2 hF
        refine g_aload_nq h 17 dX7_reclaim_17 rfl rfl ?_
        refine g_iconst h 18 dX7_reclaim_18 ?_
        obtain ⟨r2, s5, c2, hF⟩ := cb_some hF
        have t1 : 0 ≤ r2 ∧ r2 ≤ 1 := rgX7_evictOne c2
        refine g_callV h hE 19 dX7_reclaim_19 (ctX7_evictOne hl c2) mwX7_evictOne kw_717 (by decide) (by decide) rfl (Nat.le_of_ble_eq_true rfl) rfl (Nat.le_of_ble_eq_true rfl) ⟨Nat.le_of_ble_eq_true rfl, Nat.le_of_ble_eq_true rfl⟩ rfl rfl ?_
        show G X 1 6 22 [(10, 0), (0, a_pages), (0, x_evicted1)] [(0, r2)] (s5, m)
        refine g_if_eq h 22 31 (gRi (by omega)) dX7_reclaim_22 (by decide) (fun h3 => ?_) (fun h3 => ?_)
        · have hF := ite_f (fun q => q h3) hF
          exact J3 _ hF
        · have hF := ite_t h3 hF
          exact J2 _ hF
      have J5 : ¬ (x_evicted1 < a_pages) → G X 1 6 31 [(10, 0), (0, a_pages), (0, x_evicted1)] [] (s2, m) := by
        intro h4
        have hF := ite_f h4 hF
        exact J3 _ hF
      refine g_iload_n h 12 dX7_reclaim_12 rfl ?_
      refine g_iload_n h 13 dX7_reclaim_13 rfl ?_
      refine g_icmp_ge h 14 31 (gRi (by omega)) (gRi (by omega)) dX7_reclaim_14 (by decide) (fun h1 => ?_) (fun h1 => ?_)
      · exact J5 (Int.not_lt.mpr h1)
      · exact J4 h1
  exact J6 _ _ _ (by omega) hF
-- Pagewright.scan
def FX7_scan (a_addresses : Int) (s : S2) : Option (Int × S2) :=
  rgx <| gd ((-2147483648) ≤ a_addresses ∧ a_addresses ≤ 2147483647) <| cb (FX7_demand (if (1 ≤ a_addresses) ∧ (a_addresses ≤ 192) then 1 else 0 : Int) s) fun r1 s1 => if gxc r1 ≠ 0 then some (r1, s1) else cb (FX7_isSomeToMerge s1) fun r2 s2 => gl3 1000 (fun k1 (x_changed1 : Int) (x_gone1 : Int) (x_turn1 : Int) (s3 : S2) => if ((r2 ≠ 0) ∧ (x_gone1 < a_addresses)) ∧ (x_turn1 < 100000) then bn (fun (x_changed2 x_gone2 : Int) (s4 : S2) => bn (fun (s9 : S2) => k1 x_changed2 x_gone2 (x_turn1 + 1) s9) fun k4 => if 32 ≤ s4 43 0 then cb (FX7_passToNextSpace s4) fun r4 s10 => k4 s10 else k4 s4) fun k2 => if ((s3 42 0 < 6) ∧ (s3 43 0 < 32)) ∧ ((s3 35 (s3 42 0) ≠ 0) ∧ (s3 36 (s3 42 0) ≠ 0)) then bn (fun (v1 : Int) (s5 : S2) => gd (0 ≤ (s5 43 0) + 1 ∧ (s5 43 0) + 1 ≤ 32) <| bn (upd2 s5 43 0 ((s5 43 0) + 1)) fun s7 => gd ((-2147483648) ≤ x_changed1 + v1 ∧ x_changed1 + v1 ≤ 2147483647) <| k2 (x_changed1 + v1) (x_gone1 + 1) s7) fun k3 => cb (FX7_look (32 * (s3 42 0) + (s3 43 0)) s3) fun r3 s6 => if r3 ≠ 0 then k3 1 s6 else k3 0 s6 else bn (upd2 s3 43 0 32) fun s8 => k2 x_changed1 x_gone1 s8 else some (x_changed1, s3)) 0 0 0 s2
theorem rgX7_scan {a_addresses : Int} {s s0 : S2} {r0 : Int} (hF : FX7_scan a_addresses s = some (r0, s0)) : gxc r0 ≠ 0 ∨ (-2147483648) ≤ r0 ∧ r0 ≤ 2147483647 := (rgx_some hF).2
set_option maxRecDepth 100000 in
set_option maxHeartbeats 4000000 in
theorem ctX7_scan {l : Launch} {w : gW} {bs : Nat} (hl : l.stackTraces = false) {a_addresses : Int} {s m s0 : S2} {r0 : Int} (hF : FX7_scan a_addresses s = some (r0, s0)) : gMet l w bs yX7_scan cX7_scan 6 (some FieldType.int) 7 1 [(10, 0), (0, a_addresses)] (s, m) (gxc r0) (some (0, r0)) (s0, m) := by
  unfold FX7_scan at hF
  obtain ⟨hF, hr⟩ := rgx_some hF
  obtain ⟨q_a_addresses, hF⟩ := gd_some hF
  refine g_start hl (by decide) (Nat.le_of_ble_eq_true rfl) rfl fun X h hE => ?_
  have h : gOk X "Pagewright" cX7_scan 6 7 1 6 := h
  have hE : gEnd X l w bs 1 (some FieldType.int) (gxc r0) (some (0, r0)) (s0, m) := hE
  show G X 0 0 0 [(10, 0), (0, a_addresses), (1, 0), (1, 0), (1, 0), (1, 0)] [] (s, m)
  refine g_iload_n h 0 dX7_scan_0 rfl ?_
  refine g_iconst h 1 dX7_scan_1 ?_
  refine g_sipush h 2 dX7_scan_2 (by decide) ?_
  refine g_callS h hE 5 dX7_scan_5 (cpX7_within (a_number := a_addresses) (a_lowest := 1) (a_highest := 192) hl (by omega) (by omega) (by omega)) mwX7_within kw_410 rfl (Nat.le_of_ble_eq_true rfl) rfl (Nat.le_of_ble_eq_true rfl) ⟨Nat.le_of_ble_eq_true rfl, Nat.le_of_ble_eq_true rfl⟩ rfl rfl ?_
  show G X 0 0 8 [(10, 0), (0, a_addresses), (1, 0), (1, 0), (1, 0), (1, 0)] [(0, (if (1 ≤ a_addresses) ∧ (a_addresses ≤ 192) then 1 else 0 : Int))] (s, m)
  obtain ⟨r1, s1, c1, hF⟩ := cb_some hF
  refine g_callSX h hE 8 dX7_scan_8 (ctX7_demand hl c1) mwX7_demand kw_413 rfl (Nat.le_of_ble_eq_true rfl) rfl (Nat.le_of_ble_eq_true rfl) ⟨Nat.le_of_ble_eq_true rfl, Nat.le_of_ble_eq_true rfl⟩ rfl rfl (fun x1 => ?_) (fun x1 => ?_)
  · have hF := ite_t x1 hF
    obtain ⟨e1, e2⟩ := some_2 hF
    exact ⟨by rw [e1], by rw [e2], (Nat.le_of_ble_eq_true rfl), (Nat.le_of_ble_eq_true rfl)⟩
  have hF := ite_f (fun q => q x1) hF
  show G X 1 6 11 [(10, 0), (0, a_addresses), (1, 0), (1, 0), (1, 0), (1, 0)] [] (s1, m)
  refine g_iconst h 11 dX7_scan_11 ?_
  refine g_istore_n h 12 dX7_scan_12 (Nat.le_of_ble_eq_true rfl) rfl (L' := [(10, 0), (0, a_addresses), (0, 0), (1, 0), (1, 0), (1, 0)]) rfl ?_
  refine g_iconst h 13 dX7_scan_13 ?_
  refine g_istore_n h 14 dX7_scan_14 (Nat.le_of_ble_eq_true rfl) rfl (L' := [(10, 0), (0, a_addresses), (0, 0), (0, 0), (1, 0), (1, 0)]) rfl ?_
  refine g_aload_nq h 15 dX7_scan_15 rfl rfl ?_
  obtain ⟨r2, s2, c2, hF⟩ := cb_some hF
  have t1 : 0 ≤ r2 ∧ r2 ≤ 1 := rgX7_isSomeToMerge c2
  refine g_callV h hE 16 dX7_scan_16 (ctX7_isSomeToMerge hl c2) mwX7_isSomeToMerge kw_917 (by decide) (by decide) rfl (Nat.le_of_ble_eq_true rfl) rfl (Nat.le_of_ble_eq_true rfl) ⟨Nat.le_of_ble_eq_true rfl, Nat.le_of_ble_eq_true rfl⟩ rfl rfl ?_
  show G X 1 6 19 [(10, 0), (0, a_addresses), (0, 0), (0, 0), (1, 0), (1, 0)] [(0, r2)] (s2, m)
  refine g_istore h 19 dX7_scan_19 (Nat.le_of_ble_eq_true rfl) rfl (L' := [(10, 0), (0, a_addresses), (0, 0), (0, 0), (0, r2), (1, 0)]) rfl ?_
  refine g_iconst h 21 dX7_scan_21 ?_
  refine g_istore h 22 dX7_scan_22 (Nat.le_of_ble_eq_true rfl) rfl (L' := [(10, 0), (0, a_addresses), (0, 0), (0, 0), (0, r2), (0, 0)]) rfl ?_
  obtain ⟨f1, ef1, hF⟩ := glx3 hF
  have J11 : ∀ (n1 : Nat) (x_changed1 x_gone1 x_turn1 : Int) (s3 : S2), ((-2147483648) ≤ x_changed1 ∧ x_changed1 ≤ 2147483647) → ((-2147483648) ≤ x_gone1 ∧ x_gone1 ≤ 2147483647) → (0 ≤ x_turn1 ∧ x_turn1 ≤ 100000) → gl3 n1 f1 x_changed1 x_gone1 x_turn1 s3 = some (r0, s0) → G X 1 6 24 [(10, 0), (0, a_addresses), (0, x_changed1), (0, x_gone1), (0, r2), (0, x_turn1)] [] (s3, m) := by
    intro n1
    induction n1 with
    | zero => intro x_changed1 x_gone1 x_turn1 s3 _ _ _ hF; exact (gl3_0 hF).elim
    | succ n1 ih1 =>
      intro x_changed1 x_gone1 x_turn1 s3 q1 q2 q3 hF
      obtain ⟨k1, ek1, hF⟩ := glu3 hF ef1
      have J2 : ((r2 ≠ 0) ∧ (x_gone1 < a_addresses)) ∧ (x_turn1 < 100000) → G X 1 6 41 [(10, 0), (0, a_addresses), (0, x_changed1), (0, x_gone1), (0, r2), (0, x_turn1)] [] (s3, m) := by
        intro h4
        have hF := ite_t h4 hF
        obtain ⟨k2, ek2, hF⟩ := bn_ex hF
        have J4 : ∀ (x_changed2 x_gone2 : Int) (s4 : S2), ((-2147483648) ≤ x_changed2 ∧ x_changed2 ≤ 2147483647) → ((-2147483648) ≤ x_gone2 ∧ x_gone2 ≤ 2147483647) → k2 x_changed2 x_gone2 s4 = some (r0, s0) → G X 1 6 128 [(10, 0), (0, a_addresses), (0, x_changed2), (0, x_gone2), (0, r2), (0, x_turn1)] [] (s4, m) := by
          intro x_changed2 x_gone2 s4 q7 q8 hF
          rw [ek2] at hF
          obtain ⟨k4, ek4, hF⟩ := bn_ex hF
          have J8 : ∀ (s9 : S2), k4 s9 = some (r0, s0) → G X 1 6 141 [(10, 0), (0, a_addresses), (0, x_changed2), (0, x_gone2), (0, r2), (0, x_turn1)] [] (s9, m) := by
            intro s9 hF
            rw [ek4] at hF
            refine g_iinc h 141 dX7_scan_141 rfl rfl (L' := [(10, 0), (0, a_addresses), (0, x_changed2), (0, x_gone2), (0, r2), (0, x_turn1 + 1)]) rfl ?_
            refine g_goto h 144 24 dX7_scan_144 (by decide) ?_
            rw [ek1] at hF
            exact ih1 _ _ _ _ (by omega) (by omega) (by omega) hF
          refine G_typ fun hT_s4 => ?_
          have t8 : 0 ≤ s4 43 0 ∧ s4 43 0 ≤ 32 := hT_s4.1 43 0
          have J9 : 32 ≤ s4 43 0 → G X 1 6 137 [(10, 0), (0, a_addresses), (0, x_changed2), (0, x_gone2), (0, r2), (0, x_turn1)] [] (s4, m) := by
            intro h12
            have hF := ite_t h12 hF
            refine g_aload_nq h 137 dX7_scan_137 rfl rfl ?_
            obtain ⟨r4, s10, c4, hF⟩ := cb_some hF
            refine g_callV h hE 138 dX7_scan_138 (ctX7_passToNextSpace hl c4) mwX7_passToNextSpace kw_937 (by decide) (by decide) rfl (Nat.le_of_ble_eq_true rfl) rfl (Nat.le_of_ble_eq_true rfl) ⟨Nat.le_of_ble_eq_true rfl, Nat.le_of_ble_eq_true rfl⟩ rfl rfl ?_
            show G X 1 6 141 [(10, 0), (0, a_addresses), (0, x_changed2), (0, x_gone2), (0, r2), (0, x_turn1)] [] (s10, m)
            exact J8 _ hF
          have J10 : ¬ (32 ≤ s4 43 0) → G X 1 6 141 [(10, 0), (0, a_addresses), (0, x_changed2), (0, x_gone2), (0, r2), (0, x_turn1)] [] (s4, m) := by
            intro h13
            have hF := ite_f h13 hF
            exact J8 _ hF
          refine g_aload_nq h 128 dX7_scan_128 rfl rfl ?_
          refine gf_scanAddress h 129 dX7_scan_129 kw_373 ?_
          refine g_bipush h 132 dX7_scan_132 (by decide) ?_
          refine g_icmp_lt h 134 141 (gRi (by omega)) (gRi (by omega)) dX7_scan_134 (by decide) (fun h11 => ?_) (fun h11 => ?_)
          · exact J10 (Int.not_le.mpr h11)
          · exact J9 h11
        refine G_typ fun hT_s3 => ?_
        have t2 : 0 ≤ s3 42 0 ∧ s3 42 0 ≤ 6 := hT_s3.1 42 0
        have t3 : 0 ≤ s3 43 0 ∧ s3 43 0 ≤ 32 := hT_s3.1 43 0
        have t4 : 0 ≤ s3 35 (s3 42 0) ∧ s3 35 (s3 42 0) ≤ 1 := hT_s3.1 35 (s3 42 0)
        have t5 : 0 ≤ s3 36 (s3 42 0) ∧ s3 36 (s3 42 0) ≤ 1 := hT_s3.1 36 (s3 42 0)
        have J5 : ((s3 42 0 < 6) ∧ (s3 43 0 < 32)) ∧ ((s3 35 (s3 42 0) ≠ 0) ∧ (s3 36 (s3 42 0) ≠ 0)) → G X 1 6 74 [(10, 0), (0, a_addresses), (0, x_changed1), (0, x_gone1), (0, r2), (0, x_turn1)] [] (s3, m) := by
          intro h8
          have hF := ite_t h8 hF
          refine g_iload_n h 74 dX7_scan_74 rfl ?_
          obtain ⟨k3, ek3, hF⟩ := bn_ex hF
          have J7 : ∀ (v1 : Int) (s5 : S2), ((-2147483648) ≤ v1 ∧ v1 ≤ 2147483647) → k3 v1 s5 = some (r0, s0) → G X 1 6 104 [(10, 0), (0, a_addresses), (0, x_changed1), (0, x_gone1), (0, r2), (0, x_turn1)] [(0, v1), (0, x_changed1)] (s5, m) := by
            intro v1 s5 q4 hF
            rw [ek3] at hF
            refine g_iadd h 104 dX7_scan_104 ?_
            refine g_istore_n h 105 dX7_scan_105 (Nat.le_of_ble_eq_true rfl) rfl (L' := [(10, 0), (0, a_addresses), (0, x_changed1 + v1), (0, x_gone1), (0, r2), (0, x_turn1)]) rfl ?_
            refine g_iinc h 106 dX7_scan_106 rfl rfl (L' := [(10, 0), (0, a_addresses), (0, x_changed1 + v1), (0, x_gone1 + 1), (0, r2), (0, x_turn1)]) rfl ?_
            refine g_aload_nq h 109 dX7_scan_109 rfl rfl ?_
            refine G_typ fun hT_s5 => ?_
            have t7 : 0 ≤ s5 43 0 ∧ s5 43 0 ≤ 32 := hT_s5.1 43 0
            refine g_dup h 110 dX7_scan_110 (show (10 : Nat) ≠ 2 by decide) ?_
            refine gf_scanAddress h 111 dX7_scan_111 kw_373 ?_
            refine g_iconst h 114 dX7_scan_114 ?_
            refine g_iadd h 115 dX7_scan_115 ?_
            obtain ⟨q5, hF⟩ := gd_some hF
            obtain ⟨s7, es7, hF⟩ := bn_ex hF
            refine pf_scanAddress h 116 dX7_scan_116 kw_373 (by omega) ?_
            rw [← es7]
            refine g_goto h 119 128 dX7_scan_119 (by decide) ?_
            obtain ⟨q6, hF⟩ := gd_some hF
            exact J4 _ _ _ (by omega) (by omega) hF
          refine g_aload_nq h 75 dX7_scan_75 rfl rfl ?_
          refine g_aload_nq h 76 dX7_scan_76 rfl rfl ?_
          refine gf_spaces h 77 dX7_scan_77 kw_361 ?_
          refine g_aload_nq h 80 dX7_scan_80 rfl rfl ?_
          refine gf_scanSpace h 81 dX7_scan_81 kw_372 ?_
          refine al_spaces h 84 dX7_scan_84 (by omega) ?_
          refine gf_Space_entries h 85 dX7_scan_85 kw_254 (by omega) ?_
          refine g_aload_nq h 88 dX7_scan_88 rfl rfl ?_
          refine gf_scanAddress h 89 dX7_scan_89 kw_373 ?_
          refine al_Space_entries h 92 dX7_scan_92 (by omega) (by omega) ?_
          obtain ⟨r3, s6, c3, hF⟩ := cb_some hF
          have t6 : 0 ≤ r3 ∧ r3 ≤ 1 := rgX7_look c3
          refine g_callV h hE 93 dX7_scan_93 (ctX7_look hl c3) mwX7_look kw_925 (by decide) (by decide) rfl (Nat.le_of_ble_eq_true rfl) rfl (Nat.le_of_ble_eq_true rfl) ⟨Nat.le_of_ble_eq_true rfl, Nat.le_of_ble_eq_true rfl⟩ rfl rfl ?_
          show G X 1 6 96 [(10, 0), (0, a_addresses), (0, x_changed1), (0, x_gone1), (0, r2), (0, x_turn1)] [(0, r3), (0, x_changed1)] (s6, m)
          refine g_if_eq h 96 103 (gRi (by omega)) dX7_scan_96 (by decide) (fun h9 => ?_) (fun h9 => ?_)
          · have hF := ite_f (fun q => q h9) hF
            refine g_iconst h 103 dX7_scan_103 ?_
            exact J7 _ _ (by omega) hF
          · have hF := ite_t h9 hF
            refine g_iconst h 99 dX7_scan_99 ?_
            refine g_goto h 100 104 dX7_scan_100 (by decide) ?_
            exact J7 _ _ (by omega) hF
        have J6 : ¬ (((s3 42 0 < 6) ∧ (s3 43 0 < 32)) ∧ ((s3 35 (s3 42 0) ≠ 0) ∧ (s3 36 (s3 42 0) ≠ 0))) → G X 1 6 122 [(10, 0), (0, a_addresses), (0, x_changed1), (0, x_gone1), (0, r2), (0, x_turn1)] [] (s3, m) := by
          intro h10
          have hF := ite_f h10 hF
          refine g_aload_nq h 122 dX7_scan_122 rfl rfl ?_
          refine g_bipush h 123 dX7_scan_123 (by decide) ?_
          obtain ⟨s8, es8, hF⟩ := bn_ex hF
          refine pf_scanAddress h 125 dX7_scan_125 kw_373 (by omega) ?_
          rw [← es8]
          exact J4 _ _ _ (by omega) (by omega) hF
        refine g_aload_nq h 41 dX7_scan_41 rfl rfl ?_
        refine gf_scanSpace h 42 dX7_scan_42 kw_372 ?_
        refine g_bipush h 45 dX7_scan_45 (by decide) ?_
        refine g_icmp_ge h 47 122 (gRi (by omega)) (gRi (by omega)) dX7_scan_47 (by decide) (fun h5 => ?_) (fun h5 => ?_)
        · exact J6 (fun q => (fun q => (Int.not_lt.mpr h5) q.1) q.1)
        · refine g_aload_nq h 50 dX7_scan_50 rfl rfl ?_
          refine gf_scanAddress h 51 dX7_scan_51 kw_373 ?_
          refine g_bipush h 54 dX7_scan_54 (by decide) ?_
          refine g_icmp_ge h 56 122 (gRi (by omega)) (gRi (by omega)) dX7_scan_56 (by decide) (fun h6 => ?_) (fun h6 => ?_)
          · exact J6 (fun q => (fun q => (Int.not_lt.mpr h6) q.2) q.1)
          · refine g_aload_nq h 59 dX7_scan_59 rfl rfl ?_
            refine gf_spaces h 60 dX7_scan_60 kw_361 ?_
            refine g_aload_nq h 63 dX7_scan_63 rfl rfl ?_
            refine gf_scanSpace h 64 dX7_scan_64 kw_372 ?_
            refine al_spaces h 67 dX7_scan_67 (by omega) ?_
            refine g_callV h hE 68 dX7_scan_68 (cpX5_isScanned (a_this := s3 42 0) hl (by omega)) mwX5_isScanned kw_921 (by decide) (show _ ∧ _ < (6 : Int) by omega) rfl (Nat.le_of_ble_eq_true rfl) rfl (Nat.le_of_ble_eq_true rfl) ⟨Nat.le_of_ble_eq_true rfl, Nat.le_of_ble_eq_true rfl⟩ rfl rfl ?_
            show G X 1 6 71 [(10, 0), (0, a_addresses), (0, x_changed1), (0, x_gone1), (0, r2), (0, x_turn1)] [(0, (if (s3 35 (s3 42 0) ≠ 0) ∧ (s3 36 (s3 42 0) ≠ 0) then 1 else 0 : Int))] (s3, m)
            refine g_if_eq h 71 122 (gRi gR_ite) dX7_scan_71 (by decide) (fun h7 => ?_) (fun h7 => ?_)
            · exact J6 (fun q => (iz_f h7) q.2)
            · exact J5 ⟨⟨h5, h6⟩, (iz_t h7)⟩
      have J3 : ¬ (((r2 ≠ 0) ∧ (x_gone1 < a_addresses)) ∧ (x_turn1 < 100000)) → G X 1 6 147 [(10, 0), (0, a_addresses), (0, x_changed1), (0, x_gone1), (0, r2), (0, x_turn1)] [] (s3, m) := by
        intro h14
        have hF := ite_f h14 hF
        refine g_iload_n h 147 dX7_scan_147 rfl ?_
        obtain ⟨e1, e2⟩ := some_2 hF
        rw [← e1, ← e2, gxc_0 (gRi (by omega))] at hE
        exact g_iret h 148 dX7_scan_148 hE rfl rfl ⟨(Nat.le_of_ble_eq_true rfl), (Nat.le_of_ble_eq_true rfl)⟩
      refine g_iload h 24 dX7_scan_24 rfl ?_
      refine g_if_eq h 26 147 (gRi (by omega)) dX7_scan_26 (by decide) (fun h1 => ?_) (fun h1 => ?_)
      · exact J3 (fun q => (fun q => (fun q => q h1) q.1) q.1)
      · refine g_iload_n h 29 dX7_scan_29 rfl ?_
        refine g_iload_n h 30 dX7_scan_30 rfl ?_
        refine g_icmp_ge h 31 147 (gRi (by omega)) (gRi (by omega)) dX7_scan_31 (by decide) (fun h2 => ?_) (fun h2 => ?_)
        · exact J3 (fun q => (fun q => (Int.not_lt.mpr h2) q.2) q.1)
        · refine g_iload h 34 dX7_scan_34 rfl ?_
          refine g_ldc h 36 (n := 100000) dX7_scan_36 kw_712 (by decide) ?_
          refine g_icmp_ge h 38 147 (gRi (by omega)) (gRi (by omega)) dX7_scan_38 (by decide) (fun h3 => ?_) (fun h3 => ?_)
          · exact J3 (fun q => (Int.not_lt.mpr h3) q.2)
          · exact J2 ⟨⟨h1, h2⟩, h3⟩
  exact J11 _ _ _ _ _ (by omega) (by omega) (by omega) hF
-- Pagewright.space
def FX7_space (a_group : Int) (s : S2) : Option (Int × S2) :=
  rgx <| gd ((-2147483648) ≤ a_group ∧ a_group ≤ 2147483647) <| cb (FX7_demand (if (0 ≤ a_group) ∧ (a_group ≤ 2) then 1 else 0 : Int) s) fun r1 s1 => if gxc r1 ≠ 0 then some (r1, s1) else cb (FX7_permit (if s1 41 0 < 6 then 1 else 0 : Int) s1) fun r2 s2 => if gxc r2 ≠ 0 then some (r2, s2) else cb (FX7_begin a_group s2) fun r3 s3 => some (r3, s3)
theorem rgX7_space {a_group : Int} {s s0 : S2} {r0 : Int} (hF : FX7_space a_group s = some (r0, s0)) : gxc r0 ≠ 0 ∨ (-2147483648) ≤ r0 ∧ r0 ≤ 2147483647 := (rgx_some hF).2
set_option maxRecDepth 100000 in
set_option maxHeartbeats 4000000 in
theorem ctX7_space {l : Launch} {w : gW} {bs : Nat} (hl : l.stackTraces = false) {a_group : Int} {s m s0 : S2} {r0 : Int} (hF : FX7_space a_group s = some (r0, s0)) : gMet l w bs yX7_space cX7_space 2 (some FieldType.int) 7 2 [(10, 0), (0, a_group)] (s, m) (gxc r0) (some (0, r0)) (s0, m) := by
  unfold FX7_space at hF
  obtain ⟨hF, hr⟩ := rgx_some hF
  obtain ⟨q_a_group, hF⟩ := gd_some hF
  refine g_start hl (by decide) (Nat.le_of_ble_eq_true rfl) rfl fun X h hE => ?_
  have h : gOk X "Pagewright" cX7_space 2 7 2 12 := h
  have hE : gEnd X l w bs 2 (some FieldType.int) (gxc r0) (some (0, r0)) (s0, m) := hE
  show G X 0 0 0 [(10, 0), (0, a_group)] [] (s, m)
  refine g_iload_n h 0 dX7_space_0 rfl ?_
  refine g_iconst h 1 dX7_space_1 ?_
  refine g_iconst h 2 dX7_space_2 ?_
  refine g_callS h hE 3 dX7_space_3 (cpX7_within (a_number := a_group) (a_lowest := 0) (a_highest := 2) hl (by omega) (by omega) (by omega)) mwX7_within kw_410 rfl (Nat.le_of_ble_eq_true rfl) rfl (Nat.le_of_ble_eq_true rfl) ⟨Nat.le_of_ble_eq_true rfl, Nat.le_of_ble_eq_true rfl⟩ rfl rfl ?_
  show G X 0 0 6 [(10, 0), (0, a_group)] [(0, (if (0 ≤ a_group) ∧ (a_group ≤ 2) then 1 else 0 : Int))] (s, m)
  obtain ⟨r1, s1, c1, hF⟩ := cb_some hF
  refine g_callSX h hE 6 dX7_space_6 (ctX7_demand hl c1) mwX7_demand kw_413 rfl (Nat.le_of_ble_eq_true rfl) rfl (Nat.le_of_ble_eq_true rfl) ⟨Nat.le_of_ble_eq_true rfl, Nat.le_of_ble_eq_true rfl⟩ rfl rfl (fun x1 => ?_) (fun x1 => ?_)
  · have hF := ite_t x1 hF
    obtain ⟨e1, e2⟩ := some_2 hF
    exact ⟨by rw [e1], by rw [e2], (Nat.le_of_ble_eq_true rfl), (Nat.le_of_ble_eq_true rfl)⟩
  have hF := ite_f (fun q => q x1) hF
  show G X 1 6 9 [(10, 0), (0, a_group)] [] (s1, m)
  refine G_typ fun hT_s1 => ?_
  have t1 : 0 ≤ s1 41 0 ∧ s1 41 0 ≤ 6 := hT_s1.1 41 0
  suffices J1 : ∀ v1 : Int, v1 = (if s1 41 0 < 6 then 1 else 0 : Int) → G X 1 6 23 [(10, 0), (0, a_group)] [(0, v1)] (s1, m) by
    have J2 : s1 41 0 < 6 → G X 1 6 18 [(10, 0), (0, a_group)] [] (s1, m) := by
      intro h2
      refine g_iconst h 18 dX7_space_18 ?_
      refine g_goto h 19 23 dX7_space_19 (by decide) ?_
      exact J1 _ (if_pos h2).symm
    have J3 : ¬ (s1 41 0 < 6) → G X 1 6 22 [(10, 0), (0, a_group)] [] (s1, m) := by
      intro h3
      refine g_iconst h 22 dX7_space_22 ?_
      exact J1 _ (if_neg h3).symm
    refine g_aload_nq h 9 dX7_space_9 rfl rfl ?_
    refine gf_made h 10 dX7_space_10 kw_371 ?_
    refine g_bipush h 13 dX7_space_13 (by decide) ?_
    refine g_icmp_ge h 15 22 (gRi (by omega)) (gRi (by omega)) dX7_space_15 (by decide) (fun h1 => ?_) (fun h1 => ?_)
    · exact J3 (Int.not_lt.mpr h1)
    · exact J2 h1
  intro v1 e1
  subst e1
  obtain ⟨r2, s2, c2, hF⟩ := cb_some hF
  refine g_callSX h hE 23 dX7_space_23 (ctX7_permit hl c2) mwX7_permit kw_484 rfl (Nat.le_of_ble_eq_true rfl) rfl (Nat.le_of_ble_eq_true rfl) ⟨Nat.le_of_ble_eq_true rfl, Nat.le_of_ble_eq_true rfl⟩ rfl rfl (fun x2 => ?_) (fun x2 => ?_)
  · have hF := ite_t x2 hF
    obtain ⟨e1, e2⟩ := some_2 hF
    exact ⟨by rw [e1], by rw [e2], (Nat.le_of_ble_eq_true rfl), (Nat.le_of_ble_eq_true rfl)⟩
  have hF := ite_f (fun q => q x2) hF
  show G X 2 12 26 [(10, 0), (0, a_group)] [] (s2, m)
  refine g_aload_nq h 26 dX7_space_26 rfl rfl ?_
  refine g_iload_n h 27 dX7_space_27 rfl ?_
  obtain ⟨r3, s3, c3, hF⟩ := cb_some hF
  have t2 : 0 ≤ r3 ∧ r3 ≤ 5 := rgX7_begin c3
  refine g_callV h hE 28 dX7_space_28 (ctX7_begin hl c3) mwX7_begin kw_503 (by decide) (by decide) rfl (Nat.le_of_ble_eq_true rfl) rfl (Nat.le_of_ble_eq_true rfl) ⟨Nat.le_of_ble_eq_true rfl, Nat.le_of_ble_eq_true rfl⟩ rfl rfl ?_
  show G X 2 12 31 [(10, 0), (0, a_group)] [(8, r3)] (s3, m)
  refine gf_Space_number h 31 dX7_space_31 kw_252 (by omega) ?_
  obtain ⟨e1, e2⟩ := some_2 hF
  rw [← e1, ← e2, gxc_0 (gRi (by omega))] at hE
  exact g_iret h 34 dX7_space_34 hE rfl rfl ⟨(Nat.le_of_ble_eq_true rfl), (Nat.le_of_ble_eq_true rfl)⟩
-- Pagewright.store
def FX7_store (a_processor a_space a_address a_value : Int) (s : S2) : Option (Int × S2) :=
  rgx <| gd ((-2147483648) ≤ a_processor ∧ a_processor ≤ 2147483647) <| gd ((-2147483648) ≤ a_space ∧ a_space ≤ 2147483647) <| gd ((-2147483648) ≤ a_address ∧ a_address ≤ 2147483647) <| gd ((-2147483648) ≤ a_value ∧ a_value ≤ 2147483647) <| cb (FX7_cacheOf a_processor s) fun r1 s1 => if gxc r1 ≠ 0 then some (r1, s1) else cb (FX7_known a_space s1) fun r2 s2 => if gxc r2 ≠ 0 then some (r2, s2) else cb (FX7_demand (if ((0 ≤ a_address) ∧ (a_address ≤ 31)) ∧ ((0 ≤ a_value) ∧ (a_value ≤ 99999)) then 1 else 0 : Int) s2) fun r3 s3 => if gxc r3 ≠ 0 then some (r3, s3) else cb (FX7_permit (s3 35 r2) s3) fun r4 s4 => if gxc r4 ≠ 0 then some (r4, s4) else cb (FX7_access r1 r2 a_address a_value s4) fun r5 s5 => some (r5, s5)
theorem rgX7_store {a_processor a_space a_address a_value : Int} {s s0 : S2} {r0 : Int} (hF : FX7_store a_processor a_space a_address a_value s = some (r0, s0)) : gxc r0 ≠ 0 ∨ (-2147483648) ≤ r0 ∧ r0 ≤ 2147483647 := (rgx_some hF).2
set_option maxRecDepth 100000 in
set_option maxHeartbeats 4000000 in
theorem ctX7_store {l : Launch} {w : gW} {bs : Nat} (hl : l.stackTraces = false) {a_processor a_space a_address a_value : Int} {s m s0 : S2} {r0 : Int} (hF : FX7_store a_processor a_space a_address a_value s = some (r0, s0)) : gMet l w bs yX7_store cX7_store 7 (some FieldType.int) 7 4 [(10, 0), (0, a_processor), (0, a_space), (0, a_address), (0, a_value)] (s, m) (gxc r0) (some (0, r0)) (s0, m) := by
  unfold FX7_store at hF
  obtain ⟨hF, hr⟩ := rgx_some hF
  obtain ⟨q_a_processor, hF⟩ := gd_some hF
  obtain ⟨q_a_space, hF⟩ := gd_some hF
  obtain ⟨q_a_address, hF⟩ := gd_some hF
  obtain ⟨q_a_value, hF⟩ := gd_some hF
  refine g_start hl (by decide) (Nat.le_of_ble_eq_true rfl) rfl fun X h hE => ?_
  have h : gOk X "Pagewright" cX7_store 7 7 4 24 := h
  have hE : gEnd X l w bs 4 (some FieldType.int) (gxc r0) (some (0, r0)) (s0, m) := hE
  show G X 0 0 0 [(10, 0), (0, a_processor), (0, a_space), (0, a_address), (0, a_value), (1, 0), (1, 0)] [] (s, m)
  refine g_aload_nq h 0 dX7_store_0 rfl rfl ?_
  refine g_iload_n h 1 dX7_store_1 rfl ?_
  obtain ⟨r1, s1, c1, hF⟩ := cb_some hF
  refine g_callVX h hE 2 dX7_store_2 (ctX7_cacheOf hl c1) mwX7_cacheOf kw_674 (by decide) (by decide) rfl (Nat.le_of_ble_eq_true rfl) rfl (Nat.le_of_ble_eq_true rfl) ⟨Nat.le_of_ble_eq_true rfl, Nat.le_of_ble_eq_true rfl⟩ rfl rfl (fun x1 => ?_) (fun x1 => ?_)
  · have hF := ite_t x1 hF
    obtain ⟨e1, e2⟩ := some_2 hF
    exact ⟨by rw [e1], by rw [e2], (Nat.le_of_ble_eq_true rfl), (Nat.le_of_ble_eq_true rfl)⟩
  have hF := ite_f (fun q => q x1) hF
  have t1 : 0 ≤ r1 ∧ r1 ≤ 1 := (rgX7_cacheOf c1).resolve_left (fun q => q x1)
  show G X 1 6 5 [(10, 0), (0, a_processor), (0, a_space), (0, a_address), (0, a_value), (1, 0), (1, 0)] [(3, r1)] (s1, m)
  refine g_astore h 5 dX7_store_5 (Nat.le_of_ble_eq_true rfl) rfl (L' := [(10, 0), (0, a_processor), (0, a_space), (0, a_address), (0, a_value), (3, r1), (1, 0)]) rfl ?_
  refine g_aload_nq h 7 dX7_store_7 rfl rfl ?_
  refine g_iload_n h 8 dX7_store_8 rfl ?_
  obtain ⟨r2, s2, c2, hF⟩ := cb_some hF
  refine g_callVX h hE 9 dX7_store_9 (ctX7_known hl c2) mwX7_known kw_515 (by decide) (by decide) rfl (Nat.le_of_ble_eq_true rfl) rfl (Nat.le_of_ble_eq_true rfl) ⟨Nat.le_of_ble_eq_true rfl, Nat.le_of_ble_eq_true rfl⟩ rfl rfl (fun x2 => ?_) (fun x2 => ?_)
  · have hF := ite_t x2 hF
    obtain ⟨e1, e2⟩ := some_2 hF
    exact ⟨by rw [e1], by rw [e2], (Nat.le_of_ble_eq_true rfl), (Nat.le_of_ble_eq_true rfl)⟩
  have hF := ite_f (fun q => q x2) hF
  have t2 : 0 ≤ r2 ∧ r2 ≤ 5 := (rgX7_known c2).resolve_left (fun q => q x2)
  show G X 2 12 12 [(10, 0), (0, a_processor), (0, a_space), (0, a_address), (0, a_value), (3, r1), (1, 0)] [(8, r2)] (s2, m)
  refine g_astore h 12 dX7_store_12 (Nat.le_of_ble_eq_true rfl) rfl (L' := [(10, 0), (0, a_processor), (0, a_space), (0, a_address), (0, a_value), (3, r1), (8, r2)]) rfl ?_
  suffices J1 : ∀ v1 : Int, v1 = (if ((0 ≤ a_address) ∧ (a_address ≤ 31)) ∧ ((0 ≤ a_value) ∧ (a_value ≤ 99999)) then 1 else 0 : Int) → G X 2 12 40 [(10, 0), (0, a_processor), (0, a_space), (0, a_address), (0, a_value), (3, r1), (8, r2)] [(0, v1)] (s2, m) by
    have J2 : ((0 ≤ a_address) ∧ (a_address ≤ 31)) ∧ ((0 ≤ a_value) ∧ (a_value ≤ 99999)) → G X 2 12 35 [(10, 0), (0, a_processor), (0, a_space), (0, a_address), (0, a_value), (3, r1), (8, r2)] [] (s2, m) := by
      intro h3
      refine g_iconst h 35 dX7_store_35 ?_
      refine g_goto h 36 40 dX7_store_36 (by decide) ?_
      exact J1 _ (if_pos h3).symm
    have J3 : ¬ (((0 ≤ a_address) ∧ (a_address ≤ 31)) ∧ ((0 ≤ a_value) ∧ (a_value ≤ 99999))) → G X 2 12 39 [(10, 0), (0, a_processor), (0, a_space), (0, a_address), (0, a_value), (3, r1), (8, r2)] [] (s2, m) := by
      intro h4
      refine g_iconst h 39 dX7_store_39 ?_
      exact J1 _ (if_neg h4).symm
    refine g_iload_n h 14 dX7_store_14 rfl ?_
    refine g_iconst h 15 dX7_store_15 ?_
    refine g_bipush h 16 dX7_store_16 (by decide) ?_
    refine g_callS h hE 18 dX7_store_18 (cpX7_within (a_number := a_address) (a_lowest := 0) (a_highest := 31) hl (by omega) (by omega) (by omega)) mwX7_within kw_410 rfl (Nat.le_of_ble_eq_true rfl) rfl (Nat.le_of_ble_eq_true rfl) ⟨Nat.le_of_ble_eq_true rfl, Nat.le_of_ble_eq_true rfl⟩ rfl rfl ?_
    show G X 2 12 21 [(10, 0), (0, a_processor), (0, a_space), (0, a_address), (0, a_value), (3, r1), (8, r2)] [(0, (if (0 ≤ a_address) ∧ (a_address ≤ 31) then 1 else 0 : Int))] (s2, m)
    refine g_if_eq h 21 39 (gRi gR_ite) dX7_store_21 (by decide) (fun h1 => ?_) (fun h1 => ?_)
    · exact J3 (fun q => (iz_f h1) q.1)
    · refine g_iload h 24 dX7_store_24 rfl ?_
      refine g_iconst h 26 dX7_store_26 ?_
      refine g_ldc h 27 (n := 99999) dX7_store_27 kw_826 (by decide) ?_
      refine g_callS h hE 29 dX7_store_29 (cpX7_within (a_number := a_value) (a_lowest := 0) (a_highest := 99999) hl (by omega) (by omega) (by omega)) mwX7_within kw_410 rfl (Nat.le_of_ble_eq_true rfl) rfl (Nat.le_of_ble_eq_true rfl) ⟨Nat.le_of_ble_eq_true rfl, Nat.le_of_ble_eq_true rfl⟩ rfl rfl ?_
      show G X 2 12 32 [(10, 0), (0, a_processor), (0, a_space), (0, a_address), (0, a_value), (3, r1), (8, r2)] [(0, (if (0 ≤ a_value) ∧ (a_value ≤ 99999) then 1 else 0 : Int))] (s2, m)
      refine g_if_eq h 32 39 (gRi gR_ite) dX7_store_32 (by decide) (fun h2 => ?_) (fun h2 => ?_)
      · exact J3 (fun q => (iz_f h2) q.2)
      · exact J2 ⟨(iz_t h1), (iz_t h2)⟩
  intro v1 e1
  subst e1
  obtain ⟨r3, s3, c3, hF⟩ := cb_some hF
  refine g_callSX h hE 40 dX7_store_40 (ctX7_demand hl c3) mwX7_demand kw_413 rfl (Nat.le_of_ble_eq_true rfl) rfl (Nat.le_of_ble_eq_true rfl) ⟨Nat.le_of_ble_eq_true rfl, Nat.le_of_ble_eq_true rfl⟩ rfl rfl (fun x3 => ?_) (fun x3 => ?_)
  · have hF := ite_t x3 hF
    obtain ⟨e1, e2⟩ := some_2 hF
    exact ⟨by rw [e1], by rw [e2], (Nat.le_of_ble_eq_true rfl), (Nat.le_of_ble_eq_true rfl)⟩
  have hF := ite_f (fun q => q x3) hF
  show G X 3 18 43 [(10, 0), (0, a_processor), (0, a_space), (0, a_address), (0, a_value), (3, r1), (8, r2)] [] (s3, m)
  refine G_typ fun hT_s3 => ?_
  have t3 : 0 ≤ s3 35 r2 ∧ s3 35 r2 ≤ 1 := hT_s3.1 35 r2
  refine g_aloadq h 43 dX7_store_43 rfl rfl ?_
  refine gf_Space_living h 45 dX7_store_45 kw_259 (by omega) ?_
  obtain ⟨r4, s4, c4, hF⟩ := cb_some hF
  refine g_callSX h hE 48 dX7_store_48 (ctX7_permit hl c4) mwX7_permit kw_484 rfl (Nat.le_of_ble_eq_true rfl) rfl (Nat.le_of_ble_eq_true rfl) ⟨Nat.le_of_ble_eq_true rfl, Nat.le_of_ble_eq_true rfl⟩ rfl rfl (fun x4 => ?_) (fun x4 => ?_)
  · have hF := ite_t x4 hF
    obtain ⟨e1, e2⟩ := some_2 hF
    exact ⟨by rw [e1], by rw [e2], (Nat.le_of_ble_eq_true rfl), (Nat.le_of_ble_eq_true rfl)⟩
  have hF := ite_f (fun q => q x4) hF
  show G X 4 24 51 [(10, 0), (0, a_processor), (0, a_space), (0, a_address), (0, a_value), (3, r1), (8, r2)] [] (s4, m)
  refine g_aload_nq h 51 dX7_store_51 rfl rfl ?_
  refine g_aloadq h 52 dX7_store_52 rfl rfl ?_
  refine g_aloadq h 54 dX7_store_54 rfl rfl ?_
  refine g_iload_n h 56 dX7_store_56 rfl ?_
  refine g_iload h 57 dX7_store_57 rfl ?_
  obtain ⟨r5, s5, c5, hF⟩ := cb_some hF
  have t4 : (-2147483648) ≤ r5 ∧ r5 ≤ 2147483647 := rgX7_access c5
  refine g_callV h hE 59 dX7_store_59 (ctX7_access hl c5) mwX7_access kw_679 (by decide) (by decide) rfl (Nat.le_of_ble_eq_true rfl) rfl (Nat.le_of_ble_eq_true rfl) ⟨Nat.le_of_ble_eq_true rfl, Nat.le_of_ble_eq_true rfl⟩ rfl rfl ?_
  show G X 4 24 62 [(10, 0), (0, a_processor), (0, a_space), (0, a_address), (0, a_value), (3, r1), (8, r2)] [(0, r5)] (s5, m)
  obtain ⟨e1, e2⟩ := some_2 hF
  rw [← e1, ← e2, gxc_0 (gRi (by omega))] at hE
  exact g_iret h 62 dX7_store_62 hE rfl rfl ⟨(Nat.le_of_ble_eq_true rfl), (Nat.le_of_ble_eq_true rfl)⟩
-- Pagewright.sync
def FX7_sync (a_file : Int) (s : S2) : Option (Int × S2) :=
  rgx <| gd ((-2147483648) ≤ a_file ∧ a_file ≤ 2147483647) <| cb (FX7_demand (if (0 ≤ a_file) ∧ (a_file ≤ 2) then 1 else 0 : Int) s) fun r1 s1 => if gxc r1 ≠ 0 then some (r1, s1) else gl2 1000 (fun k1 (x_dirty1 : Int) (x_i_page1 : Int) (s2 : S2) => if x_i_page1 < 24 then bn (fun (x_dirty2 : Int) (s3 : S2) => k1 x_dirty2 (x_i_page1 + 1) s3) fun k2 => if ((s2 15 x_i_page1 = 2) ∧ (s2 24 x_i_page1 = a_file)) ∧ (s2 23 x_i_page1 ≠ 0) then cb (FX7_writeBack x_i_page1 s2) fun r2 s4 => cb (FX7_forbidStoresInto x_i_page1 s4) fun r3 s5 => gd ((-2147483648) ≤ x_dirty1 + 1 ∧ x_dirty1 + 1 ≤ 2147483647) <| k2 (x_dirty1 + 1) s5 else k2 x_dirty1 s2 else some (x_dirty1, s2)) 0 0 s1
theorem rgX7_sync {a_file : Int} {s s0 : S2} {r0 : Int} (hF : FX7_sync a_file s = some (r0, s0)) : gxc r0 ≠ 0 ∨ (-2147483648) ≤ r0 ∧ r0 ≤ 2147483647 := (rgx_some hF).2
set_option maxRecDepth 100000 in
set_option maxHeartbeats 4000000 in
theorem ctX7_sync {l : Launch} {w : gW} {bs : Nat} (hl : l.stackTraces = false) {a_file : Int} {s m s0 : S2} {r0 : Int} (hF : FX7_sync a_file s = some (r0, s0)) : gMet l w bs yX7_sync cX7_sync 7 (some FieldType.int) 7 1 [(10, 0), (0, a_file)] (s, m) (gxc r0) (some (0, r0)) (s0, m) := by
  unfold FX7_sync at hF
  obtain ⟨hF, hr⟩ := rgx_some hF
  obtain ⟨q_a_file, hF⟩ := gd_some hF
  refine g_start hl (by decide) (Nat.le_of_ble_eq_true rfl) rfl fun X h hE => ?_
  have h : gOk X "Pagewright" cX7_sync 7 7 1 6 := h
  have hE : gEnd X l w bs 1 (some FieldType.int) (gxc r0) (some (0, r0)) (s0, m) := hE
  show G X 0 0 0 [(10, 0), (0, a_file), (1, 0), (1, 0), (1, 0), (1, 0), (1, 0)] [] (s, m)
  refine g_iload_n h 0 dX7_sync_0 rfl ?_
  refine g_iconst h 1 dX7_sync_1 ?_
  refine g_iconst h 2 dX7_sync_2 ?_
  refine g_callS h hE 3 dX7_sync_3 (cpX7_within (a_number := a_file) (a_lowest := 0) (a_highest := 2) hl (by omega) (by omega) (by omega)) mwX7_within kw_410 rfl (Nat.le_of_ble_eq_true rfl) rfl (Nat.le_of_ble_eq_true rfl) ⟨Nat.le_of_ble_eq_true rfl, Nat.le_of_ble_eq_true rfl⟩ rfl rfl ?_
  show G X 0 0 6 [(10, 0), (0, a_file), (1, 0), (1, 0), (1, 0), (1, 0), (1, 0)] [(0, (if (0 ≤ a_file) ∧ (a_file ≤ 2) then 1 else 0 : Int))] (s, m)
  obtain ⟨r1, s1, c1, hF⟩ := cb_some hF
  refine g_callSX h hE 6 dX7_sync_6 (ctX7_demand hl c1) mwX7_demand kw_413 rfl (Nat.le_of_ble_eq_true rfl) rfl (Nat.le_of_ble_eq_true rfl) ⟨Nat.le_of_ble_eq_true rfl, Nat.le_of_ble_eq_true rfl⟩ rfl rfl (fun x1 => ?_) (fun x1 => ?_)
  · have hF := ite_t x1 hF
    obtain ⟨e1, e2⟩ := some_2 hF
    exact ⟨by rw [e1], by rw [e2], (Nat.le_of_ble_eq_true rfl), (Nat.le_of_ble_eq_true rfl)⟩
  have hF := ite_f (fun q => q x1) hF
  show G X 1 6 9 [(10, 0), (0, a_file), (1, 0), (1, 0), (1, 0), (1, 0), (1, 0)] [] (s1, m)
  refine g_iconst h 9 dX7_sync_9 ?_
  refine g_istore_n h 10 dX7_sync_10 (Nat.le_of_ble_eq_true rfl) rfl (L' := [(10, 0), (0, a_file), (0, 0), (1, 0), (1, 0), (1, 0), (1, 0)]) rfl ?_
  refine g_aload_nq h 11 dX7_sync_11 rfl rfl ?_
  refine gf_pages h 12 dX7_sync_12 kw_362 ?_
  refine g_astore_n h 15 dX7_sync_15 (Nat.le_of_ble_eq_true rfl) rfl (L' := [(10, 0), (0, a_file), (0, 0), (13, 0), (1, 0), (1, 0), (1, 0)]) rfl ?_
  refine g_aload_nq h 16 dX7_sync_16 rfl rfl ?_
  refine an_pages h 17 dX7_sync_17 ?_
  refine g_istore h 18 dX7_sync_18 (Nat.le_of_ble_eq_true rfl) rfl (L' := [(10, 0), (0, a_file), (0, 0), (13, 0), (0, 24), (1, 0), (1, 0)]) rfl ?_
  refine g_iconst h 20 dX7_sync_20 ?_
  refine g_istore h 21 dX7_sync_21 (Nat.le_of_ble_eq_true rfl) rfl (L' := [(10, 0), (0, a_file), (0, 0), (13, 0), (0, 24), (0, 0), (1, 0)]) rfl ?_
  obtain ⟨f1, ef1, hF⟩ := glx2 hF
  have J7 : ∀ (n1 : Nat) (x_dirty1 x_i_page1 : Int) (s2 : S2), ((-2147483648) ≤ x_dirty1 ∧ x_dirty1 ≤ 2147483647) → (0 ≤ x_i_page1 ∧ x_i_page1 ≤ 24) → gl2 n1 f1 x_dirty1 x_i_page1 s2 = some (r0, s0) → G X 1 6 23 [(10, 0), (0, a_file), (0, x_dirty1), (13, 0), (0, 24), (0, x_i_page1), (1, 0)] [] (s2, m) := by
    intro n1
    induction n1 with
    | zero => intro x_dirty1 x_i_page1 s2 _ _ hF; exact (gl2_0 hF).elim
    | succ n1 ih1 =>
      intro x_dirty1 x_i_page1 s2 q1 q2 hF
      obtain ⟨k1, ek1, hF⟩ := glu2 hF ef1
      have J2 : x_i_page1 < 24 → G X 1 6 30 [(10, 0), (0, a_file), (0, x_dirty1), (13, 0), (0, 24), (0, x_i_page1), (1, 0)] [] (s2, m) := by
        intro h2
        have hF := ite_t h2 hF
        refine g_aload_nq h 30 dX7_sync_30 rfl rfl ?_
        refine g_iload h 31 dX7_sync_31 rfl ?_
        refine al_pages h 33 dX7_sync_33 (by omega) ?_
        refine g_astore h 34 dX7_sync_34 (Nat.le_of_ble_eq_true rfl) rfl (L' := [(10, 0), (0, a_file), (0, x_dirty1), (13, 0), (0, 24), (0, x_i_page1), (5, x_i_page1)]) rfl ?_
        obtain ⟨k2, ek2, hF⟩ := bn_ex hF
        have J4 : ∀ (x_dirty2 : Int) (s3 : S2), ((-2147483648) ≤ x_dirty2 ∧ x_dirty2 ≤ 2147483647) → k2 x_dirty2 s3 = some (r0, s0) → G X 1 6 77 [(10, 0), (0, a_file), (0, x_dirty2), (13, 0), (0, 24), (0, x_i_page1), (5, x_i_page1)] [] (s3, m) := by
          intro x_dirty2 s3 q4 hF
          rw [ek2] at hF
          refine g_iinc h 77 dX7_sync_77 rfl rfl (L' := [(10, 0), (0, a_file), (0, x_dirty2), (13, 0), (0, 24), (0, x_i_page1 + 1), (5, x_i_page1)]) rfl ?_
          refine g_goto h 80 23 dX7_sync_80 (by decide) ?_
          refine G_weak (L' := [(10, 0), (0, a_file), (0, x_dirty2), (13, 0), (0, 24), (0, x_i_page1 + 1), (1, 0)]) ⟨Or.inr rfl, Or.inr rfl, Or.inr rfl, Or.inr rfl, Or.inr rfl, Or.inr rfl, Or.inl rfl, trivial⟩ ?_
          rw [ek1] at hF
          exact ih1 _ _ _ (by omega) (by omega) hF
        refine G_typ fun hT_s2 => ?_
        have t1 : 0 ≤ s2 15 x_i_page1 ∧ s2 15 x_i_page1 ≤ 2 := hT_s2.1 15 x_i_page1
        have t2 : 0 ≤ s2 24 x_i_page1 ∧ s2 24 x_i_page1 ≤ 2 := hT_s2.1 24 x_i_page1
        have t3 : 0 ≤ s2 23 x_i_page1 ∧ s2 23 x_i_page1 ≤ 1 := hT_s2.1 23 x_i_page1
        have J5 : ((s2 15 x_i_page1 = 2) ∧ (s2 24 x_i_page1 = a_file)) ∧ (s2 23 x_i_page1 ≠ 0) → G X 1 6 62 [(10, 0), (0, a_file), (0, x_dirty1), (13, 0), (0, 24), (0, x_i_page1), (5, x_i_page1)] [] (s2, m) := by
          intro h6
          have hF := ite_t h6 hF
          refine g_iinc h 62 dX7_sync_62 rfl rfl (L' := [(10, 0), (0, a_file), (0, x_dirty1 + 1), (13, 0), (0, 24), (0, x_i_page1), (5, x_i_page1)]) rfl ?_
          refine g_aload_nq h 65 dX7_sync_65 rfl rfl ?_
          refine g_aloadq h 66 dX7_sync_66 rfl rfl ?_
          obtain ⟨r2, s4, c2, hF⟩ := cb_some hF
          refine g_callV h hE 68 dX7_sync_68 (ctX7_writeBack hl c2) mwX7_writeBack kw_737 (by decide) (by decide) rfl (Nat.le_of_ble_eq_true rfl) rfl (Nat.le_of_ble_eq_true rfl) ⟨Nat.le_of_ble_eq_true rfl, Nat.le_of_ble_eq_true rfl⟩ rfl rfl ?_
          show G X 1 6 71 [(10, 0), (0, a_file), (0, x_dirty1 + 1), (13, 0), (0, 24), (0, x_i_page1), (5, x_i_page1)] [] (s4, m)
          refine g_aload_nq h 71 dX7_sync_71 rfl rfl ?_
          refine g_aloadq h 72 dX7_sync_72 rfl rfl ?_
          obtain ⟨r3, s5, c3, hF⟩ := cb_some hF
          refine g_callV h hE 74 dX7_sync_74 (ctX7_forbidStoresInto hl c3) mwX7_forbidStoresInto kw_855 (by decide) (by decide) rfl (Nat.le_of_ble_eq_true rfl) rfl (Nat.le_of_ble_eq_true rfl) ⟨Nat.le_of_ble_eq_true rfl, Nat.le_of_ble_eq_true rfl⟩ rfl rfl ?_
          show G X 1 6 77 [(10, 0), (0, a_file), (0, x_dirty1 + 1), (13, 0), (0, 24), (0, x_i_page1), (5, x_i_page1)] [] (s5, m)
          obtain ⟨q3, hF⟩ := gd_some hF
          exact J4 _ _ (by omega) hF
        have J6 : ¬ (((s2 15 x_i_page1 = 2) ∧ (s2 24 x_i_page1 = a_file)) ∧ (s2 23 x_i_page1 ≠ 0)) → G X 1 6 77 [(10, 0), (0, a_file), (0, x_dirty1), (13, 0), (0, 24), (0, x_i_page1), (5, x_i_page1)] [] (s2, m) := by
          intro h7
          have hF := ite_f h7 hF
          exact J4 _ _ (by omega) hF
        refine g_aloadq h 36 dX7_sync_36 rfl rfl ?_
        refine gf_Page_kind h 38 dX7_sync_38 kw_284 (by omega) ?_
        refine g_iconst h 41 dX7_sync_41 ?_
        refine g_icmp_ne h 42 77 (gRi (by omega)) (gRi (by omega)) dX7_sync_42 (by decide) (fun h3 => ?_) (fun h3 => ?_)
        · exact J6 (fun q => (fun q => h3 q.1) q.1)
        · refine g_aloadq h 45 dX7_sync_45 rfl rfl ?_
          refine gf_Page_file h 47 dX7_sync_47 kw_301 (by omega) ?_
          refine g_iload_n h 50 dX7_sync_50 rfl ?_
          refine g_icmp_ne h 51 77 (gRi (by omega)) (gRi (by omega)) dX7_sync_51 (by decide) (fun h4 => ?_) (fun h4 => ?_)
          · exact J6 (fun q => (fun q => h4 q.2) q.1)
          · refine g_aloadq h 54 dX7_sync_54 rfl rfl ?_
            refine gf_Page_dirty h 56 dX7_sync_56 kw_299 (by omega) ?_
            refine g_if_eq h 59 77 (gRi (by omega)) dX7_sync_59 (by decide) (fun h5 => ?_) (fun h5 => ?_)
            · exact J6 (fun q => (fun q => q h5) q.2)
            · exact J5 ⟨⟨h3, h4⟩, h5⟩
      have J3 : ¬ (x_i_page1 < 24) → G X 1 6 83 [(10, 0), (0, a_file), (0, x_dirty1), (13, 0), (0, 24), (0, x_i_page1), (1, 0)] [] (s2, m) := by
        intro h8
        have hF := ite_f h8 hF
        refine g_iload_n h 83 dX7_sync_83 rfl ?_
        obtain ⟨e1, e2⟩ := some_2 hF
        rw [← e1, ← e2, gxc_0 (gRi (by omega))] at hE
        exact g_iret h 84 dX7_sync_84 hE rfl rfl ⟨(Nat.le_of_ble_eq_true rfl), (Nat.le_of_ble_eq_true rfl)⟩
      refine g_iload h 23 dX7_sync_23 rfl ?_
      refine g_iload h 25 dX7_sync_25 rfl ?_
      refine g_icmp_ge h 27 83 (gRi (by omega)) (gRi (by omega)) dX7_sync_27 (by decide) (fun h1 => ?_) (fun h1 => ?_)
      · exact J3 (Int.not_lt.mpr h1)
      · exact J2 h1
  exact J7 _ _ _ _ (by omega) (by omega) hF
-- Pagewright.unmap
def FX7_unmap (a_space a_from a_count : Int) (s : S2) : Option (Int × S2) :=
  rgx <| gd ((-2147483648) ≤ a_space ∧ a_space ≤ 2147483647) <| gd ((-2147483648) ≤ a_from ∧ a_from ≤ 2147483647) <| gd ((-2147483648) ≤ a_count ∧ a_count ≤ 2147483647) <| cb (FX7_known a_space s) fun r1 s1 => if gxc r1 ≠ 0 then some (r1, s1) else cb (FX7_demand (if ((0 ≤ a_from) ∧ (a_from ≤ 31)) ∧ ((1 ≤ a_count) ∧ (a_count ≤ 32 - a_from)) then 1 else 0 : Int) s1) fun r2 s2 => if gxc r2 ≠ 0 then some (r2, s2) else cb (FX7_permit (s2 35 r1) s2) fun r3 s3 => if gxc r3 ≠ 0 then some (r3, s3) else cb (FX5_mapped r1 a_from a_count s3) fun r4 s4 => gl1 1000 (fun k1 (x_i1 : Int) (s5 : S2) => gd ((-2147483648) ≤ x_i1 ∧ x_i1 ≤ 2147483647) <| gd ((-2147483648) ≤ a_from + a_count ∧ a_from + a_count ≤ 2147483647) <| if x_i1 < a_from + a_count then gd (0 ≤ x_i1 ∧ x_i1 ≤ 31) <| cb (FX7_remove (32 * r1 + x_i1) s5) fun r5 s6 => k1 (x_i1 + 1) s6 else some (r4, s5)) a_from s4
theorem rgX7_unmap {a_space a_from a_count : Int} {s s0 : S2} {r0 : Int} (hF : FX7_unmap a_space a_from a_count s = some (r0, s0)) : gxc r0 ≠ 0 ∨ (-2147483648) ≤ r0 ∧ r0 ≤ 2147483647 := (rgx_some hF).2
set_option maxRecDepth 100000 in
set_option maxHeartbeats 4000000 in
theorem ctX7_unmap {l : Launch} {w : gW} {bs : Nat} (hl : l.stackTraces = false) {a_space a_from a_count : Int} {s m s0 : S2} {r0 : Int} (hF : FX7_unmap a_space a_from a_count s = some (r0, s0)) : gMet l w bs yX7_unmap cX7_unmap 7 (some FieldType.int) 7 3 [(10, 0), (0, a_space), (0, a_from), (0, a_count)] (s, m) (gxc r0) (some (0, r0)) (s0, m) := by
  unfold FX7_unmap at hF
  obtain ⟨hF, hr⟩ := rgx_some hF
  obtain ⟨q_a_space, hF⟩ := gd_some hF
  obtain ⟨q_a_from, hF⟩ := gd_some hF
  obtain ⟨q_a_count, hF⟩ := gd_some hF
  refine g_start hl (by decide) (Nat.le_of_ble_eq_true rfl) rfl fun X h hE => ?_
  have h : gOk X "Pagewright" cX7_unmap 7 7 3 18 := h
  have hE : gEnd X l w bs 3 (some FieldType.int) (gxc r0) (some (0, r0)) (s0, m) := hE
  show G X 0 0 0 [(10, 0), (0, a_space), (0, a_from), (0, a_count), (1, 0), (1, 0), (1, 0)] [] (s, m)
  refine g_aload_nq h 0 dX7_unmap_0 rfl rfl ?_
  refine g_iload_n h 1 dX7_unmap_1 rfl ?_
  obtain ⟨r1, s1, c1, hF⟩ := cb_some hF
  refine g_callVX h hE 2 dX7_unmap_2 (ctX7_known hl c1) mwX7_known kw_515 (by decide) (by decide) rfl (Nat.le_of_ble_eq_true rfl) rfl (Nat.le_of_ble_eq_true rfl) ⟨Nat.le_of_ble_eq_true rfl, Nat.le_of_ble_eq_true rfl⟩ rfl rfl (fun x1 => ?_) (fun x1 => ?_)
  · have hF := ite_t x1 hF
    obtain ⟨e1, e2⟩ := some_2 hF
    exact ⟨by rw [e1], by rw [e2], (Nat.le_of_ble_eq_true rfl), (Nat.le_of_ble_eq_true rfl)⟩
  have hF := ite_f (fun q => q x1) hF
  have t1 : 0 ≤ r1 ∧ r1 ≤ 5 := (rgX7_known c1).resolve_left (fun q => q x1)
  show G X 1 6 5 [(10, 0), (0, a_space), (0, a_from), (0, a_count), (1, 0), (1, 0), (1, 0)] [(8, r1)] (s1, m)
  refine g_astore h 5 dX7_unmap_5 (Nat.le_of_ble_eq_true rfl) rfl (L' := [(10, 0), (0, a_space), (0, a_from), (0, a_count), (8, r1), (1, 0), (1, 0)]) rfl ?_
  refine g_iload_n h 7 dX7_unmap_7 rfl ?_
  refine g_iload_n h 8 dX7_unmap_8 rfl ?_
  refine g_callS h hE 9 dX7_unmap_9 (cpX7_isStretch (a_from := a_from) (a_count := a_count) hl (by omega) (by omega)) mwX7_isStretch kw_535 rfl (Nat.le_of_ble_eq_true rfl) rfl (Nat.le_of_ble_eq_true rfl) ⟨Nat.le_of_ble_eq_true rfl, Nat.le_of_ble_eq_true rfl⟩ rfl rfl ?_
  show G X 1 6 12 [(10, 0), (0, a_space), (0, a_from), (0, a_count), (8, r1), (1, 0), (1, 0)] [(0, (if ((0 ≤ a_from) ∧ (a_from ≤ 31)) ∧ ((1 ≤ a_count) ∧ (a_count ≤ 32 - a_from)) then 1 else 0 : Int))] (s1, m)
  obtain ⟨r2, s2, c2, hF⟩ := cb_some hF
  refine g_callSX h hE 12 dX7_unmap_12 (ctX7_demand hl c2) mwX7_demand kw_413 rfl (Nat.le_of_ble_eq_true rfl) rfl (Nat.le_of_ble_eq_true rfl) ⟨Nat.le_of_ble_eq_true rfl, Nat.le_of_ble_eq_true rfl⟩ rfl rfl (fun x2 => ?_) (fun x2 => ?_)
  · have hF := ite_t x2 hF
    obtain ⟨e1, e2⟩ := some_2 hF
    exact ⟨by rw [e1], by rw [e2], (Nat.le_of_ble_eq_true rfl), (Nat.le_of_ble_eq_true rfl)⟩
  have hF := ite_f (fun q => q x2) hF
  show G X 2 12 15 [(10, 0), (0, a_space), (0, a_from), (0, a_count), (8, r1), (1, 0), (1, 0)] [] (s2, m)
  refine G_typ fun hT_s2 => ?_
  have t2 : 0 ≤ s2 35 r1 ∧ s2 35 r1 ≤ 1 := hT_s2.1 35 r1
  refine g_aloadq h 15 dX7_unmap_15 rfl rfl ?_
  refine gf_Space_living h 17 dX7_unmap_17 kw_259 (by omega) ?_
  obtain ⟨r3, s3, c3, hF⟩ := cb_some hF
  refine g_callSX h hE 20 dX7_unmap_20 (ctX7_permit hl c3) mwX7_permit kw_484 rfl (Nat.le_of_ble_eq_true rfl) rfl (Nat.le_of_ble_eq_true rfl) ⟨Nat.le_of_ble_eq_true rfl, Nat.le_of_ble_eq_true rfl⟩ rfl rfl (fun x3 => ?_) (fun x3 => ?_)
  · have hF := ite_t x3 hF
    obtain ⟨e1, e2⟩ := some_2 hF
    exact ⟨by rw [e1], by rw [e2], (Nat.le_of_ble_eq_true rfl), (Nat.le_of_ble_eq_true rfl)⟩
  have hF := ite_f (fun q => q x3) hF
  show G X 3 18 23 [(10, 0), (0, a_space), (0, a_from), (0, a_count), (8, r1), (1, 0), (1, 0)] [] (s3, m)
  refine g_aloadq h 23 dX7_unmap_23 rfl rfl ?_
  refine g_iload_n h 25 dX7_unmap_25 rfl ?_
  refine g_iload_n h 26 dX7_unmap_26 rfl ?_
  obtain ⟨r4, s4, c4, hF⟩ := cb_some hF
  have t3 : 0 ≤ r4 ∧ r4 ≤ 32 := rgX5_mapped c4
  refine g_callV h hE 27 dX7_unmap_27 (ctX5_mapped hl c4) mwX5_mapped kw_538 (by decide) (show _ ∧ _ < (6 : Int) by omega) rfl (Nat.le_of_ble_eq_true rfl) rfl (Nat.le_of_ble_eq_true rfl) ⟨Nat.le_of_ble_eq_true rfl, Nat.le_of_ble_eq_true rfl⟩ rfl rfl ?_
  show G X 3 18 30 [(10, 0), (0, a_space), (0, a_from), (0, a_count), (8, r1), (1, 0), (1, 0)] [(0, r4)] (s4, m)
  refine g_istore h 30 dX7_unmap_30 (Nat.le_of_ble_eq_true rfl) rfl (L' := [(10, 0), (0, a_space), (0, a_from), (0, a_count), (8, r1), (0, r4), (1, 0)]) rfl ?_
  refine g_iload_n h 32 dX7_unmap_32 rfl ?_
  refine g_istore h 33 dX7_unmap_33 (Nat.le_of_ble_eq_true rfl) rfl (L' := [(10, 0), (0, a_space), (0, a_from), (0, a_count), (8, r1), (0, r4), (0, a_from)]) rfl ?_
  obtain ⟨f1, ef1, hF⟩ := glx1 hF
  have J4 : ∀ (n1 : Nat) (x_i1 : Int) (s5 : S2), ((-2147483648) ≤ x_i1 ∧ x_i1 ≤ 4294967294) → gl1 n1 f1 x_i1 s5 = some (r0, s0) → G X 3 18 35 [(10, 0), (0, a_space), (0, a_from), (0, a_count), (8, r1), (0, r4), (0, x_i1)] [] (s5, m) := by
    intro n1
    induction n1 with
    | zero => intro x_i1 s5 _ hF; exact (gl1_0 hF).elim
    | succ n1 ih1 =>
      intro x_i1 s5 q1 hF
      obtain ⟨k1, ek1, hF⟩ := glu1 hF ef1
      obtain ⟨q2, hF⟩ := gd_some hF
      obtain ⟨q3, hF⟩ := gd_some hF
      have J2 : x_i1 < a_from + a_count → G X 3 18 43 [(10, 0), (0, a_space), (0, a_from), (0, a_count), (8, r1), (0, r4), (0, x_i1)] [] (s5, m) := by
        intro h2
        have hF := ite_t h2 hF
        refine g_aload_nq h 43 dX7_unmap_43 rfl rfl ?_
        obtain ⟨q4, hF⟩ := gd_some hF
        refine g_aloadq h 44 dX7_unmap_44 rfl rfl ?_
        refine gf_Space_entries h 46 dX7_unmap_46 kw_254 (by omega) ?_
        refine g_iload h 49 dX7_unmap_49 rfl ?_
        refine al_Space_entries h 51 dX7_unmap_51 (by omega) (by omega) ?_
        obtain ⟨r5, s6, c5, hF⟩ := cb_some hF
        refine g_callV h hE 52 dX7_unmap_52 (ctX7_remove hl c5) mwX7_remove kw_561 (by decide) (by decide) rfl (Nat.le_of_ble_eq_true rfl) rfl (Nat.le_of_ble_eq_true rfl) ⟨Nat.le_of_ble_eq_true rfl, Nat.le_of_ble_eq_true rfl⟩ rfl rfl ?_
        show G X 3 18 55 [(10, 0), (0, a_space), (0, a_from), (0, a_count), (8, r1), (0, r4), (0, x_i1)] [] (s6, m)
        refine g_iinc h 55 dX7_unmap_55 rfl rfl (L' := [(10, 0), (0, a_space), (0, a_from), (0, a_count), (8, r1), (0, r4), (0, x_i1 + 1)]) rfl ?_
        refine g_goto h 58 35 dX7_unmap_58 (by decide) ?_
        rw [ek1] at hF
        exact ih1 _ _ (by omega) hF
      have J3 : ¬ (x_i1 < a_from + a_count) → G X 3 18 61 [(10, 0), (0, a_space), (0, a_from), (0, a_count), (8, r1), (0, r4), (0, x_i1)] [] (s5, m) := by
        intro h3
        have hF := ite_f h3 hF
        refine g_iload h 61 dX7_unmap_61 rfl ?_
        obtain ⟨e1, e2⟩ := some_2 hF
        rw [← e1, ← e2, gxc_0 (gRi (by omega))] at hE
        exact g_iret h 63 dX7_unmap_63 hE rfl rfl ⟨(Nat.le_of_ble_eq_true rfl), (Nat.le_of_ble_eq_true rfl)⟩
      refine g_iload h 35 dX7_unmap_35 rfl ?_
      refine g_iload_n h 37 dX7_unmap_37 rfl ?_
      refine g_iload_n h 38 dX7_unmap_38 rfl ?_
      refine g_iadd h 39 dX7_unmap_39 ?_
      refine g_icmp_ge h 40 61 (gRi (by omega)) (gRi (by omega)) dX7_unmap_40 (by decide) (fun h1 => ?_) (fun h1 => ?_)
      · exact J3 (Int.not_lt.mpr h1)
      · exact J2 h1
  exact J4 _ _ _ (by omega) hF
-- Pagewright.write
def FX7_write (a_file a_index a_value : Int) (s : S2) : Option (Int × S2) :=
  rgx <| gd ((-2147483648) ≤ a_file ∧ a_file ≤ 2147483647) <| gd ((-2147483648) ≤ a_index ∧ a_index ≤ 2147483647) <| gd ((-2147483648) ≤ a_value ∧ a_value ≤ 2147483647) <| cb (FX7_demand (if (((0 ≤ a_file) ∧ (a_file ≤ 2)) ∧ ((0 ≤ a_index) ∧ (a_index ≤ 7))) ∧ ((0 ≤ a_value) ∧ (a_value ≤ 99999)) then 1 else 0 : Int) s) fun r1 s1 => if gxc r1 ≠ 0 then some (r1, s1) else cb (FX7_accessFile a_file a_index a_value s1) fun r2 s2 => some (r2, s2)
theorem rgX7_write {a_file a_index a_value : Int} {s s0 : S2} {r0 : Int} (hF : FX7_write a_file a_index a_value s = some (r0, s0)) : gxc r0 ≠ 0 ∨ (-2147483648) ≤ r0 ∧ r0 ≤ 2147483647 := (rgx_some hF).2
set_option maxRecDepth 100000 in
set_option maxHeartbeats 4000000 in
theorem ctX7_write {l : Launch} {w : gW} {bs : Nat} (hl : l.stackTraces = false) {a_file a_index a_value : Int} {s m s0 : S2} {r0 : Int} (hF : FX7_write a_file a_index a_value s = some (r0, s0)) : gMet l w bs yX7_write cX7_write 4 (some FieldType.int) 7 1 [(10, 0), (0, a_file), (0, a_index), (0, a_value)] (s, m) (gxc r0) (some (0, r0)) (s0, m) := by
  unfold FX7_write at hF
  obtain ⟨hF, hr⟩ := rgx_some hF
  obtain ⟨q_a_file, hF⟩ := gd_some hF
  obtain ⟨q_a_index, hF⟩ := gd_some hF
  obtain ⟨q_a_value, hF⟩ := gd_some hF
  refine g_start hl (by decide) (Nat.le_of_ble_eq_true rfl) rfl fun X h hE => ?_
  have h : gOk X "Pagewright" cX7_write 4 7 1 6 := h
  have hE : gEnd X l w bs 1 (some FieldType.int) (gxc r0) (some (0, r0)) (s0, m) := hE
  show G X 0 0 0 [(10, 0), (0, a_file), (0, a_index), (0, a_value)] [] (s, m)
  suffices J1 : ∀ v1 : Int, v1 = (if (((0 ≤ a_file) ∧ (a_file ≤ 2)) ∧ ((0 ≤ a_index) ∧ (a_index ≤ 7))) ∧ ((0 ≤ a_value) ∧ (a_value ≤ 99999)) then 1 else 0 : Int) → G X 0 0 23 [(10, 0), (0, a_file), (0, a_index), (0, a_value)] [(0, v1)] (s, m) by
    have J2 : (((0 ≤ a_file) ∧ (a_file ≤ 2)) ∧ ((0 ≤ a_index) ∧ (a_index ≤ 7))) ∧ ((0 ≤ a_value) ∧ (a_value ≤ 99999)) → G X 0 0 18 [(10, 0), (0, a_file), (0, a_index), (0, a_value)] [] (s, m) := by
      intro h3
      refine g_iconst h 18 dX7_write_18 ?_
      refine g_goto h 19 23 dX7_write_19 (by decide) ?_
      exact J1 _ (if_pos h3).symm
    have J3 : ¬ ((((0 ≤ a_file) ∧ (a_file ≤ 2)) ∧ ((0 ≤ a_index) ∧ (a_index ≤ 7))) ∧ ((0 ≤ a_value) ∧ (a_value ≤ 99999))) → G X 0 0 22 [(10, 0), (0, a_file), (0, a_index), (0, a_value)] [] (s, m) := by
      intro h4
      refine g_iconst h 22 dX7_write_22 ?_
      exact J1 _ (if_neg h4).symm
    refine g_iload_n h 0 dX7_write_0 rfl ?_
    refine g_iload_n h 1 dX7_write_1 rfl ?_
    refine g_callS h hE 2 dX7_write_2 (cpX7_isInFile (a_file := a_file) (a_index := a_index) hl (by omega) (by omega)) mwX7_isInFile kw_834 rfl (Nat.le_of_ble_eq_true rfl) rfl (Nat.le_of_ble_eq_true rfl) ⟨Nat.le_of_ble_eq_true rfl, Nat.le_of_ble_eq_true rfl⟩ rfl rfl ?_
    show G X 0 0 5 [(10, 0), (0, a_file), (0, a_index), (0, a_value)] [(0, (if ((0 ≤ a_file) ∧ (a_file ≤ 2)) ∧ ((0 ≤ a_index) ∧ (a_index ≤ 7)) then 1 else 0 : Int))] (s, m)
    refine g_if_eq h 5 22 (gRi gR_ite) dX7_write_5 (by decide) (fun h1 => ?_) (fun h1 => ?_)
    · exact J3 (fun q => (iz_f h1) q.1)
    · refine g_iload_n h 8 dX7_write_8 rfl ?_
      refine g_iconst h 9 dX7_write_9 ?_
      refine g_ldc h 10 (n := 99999) dX7_write_10 kw_826 (by decide) ?_
      refine g_callS h hE 12 dX7_write_12 (cpX7_within (a_number := a_value) (a_lowest := 0) (a_highest := 99999) hl (by omega) (by omega) (by omega)) mwX7_within kw_410 rfl (Nat.le_of_ble_eq_true rfl) rfl (Nat.le_of_ble_eq_true rfl) ⟨Nat.le_of_ble_eq_true rfl, Nat.le_of_ble_eq_true rfl⟩ rfl rfl ?_
      show G X 0 0 15 [(10, 0), (0, a_file), (0, a_index), (0, a_value)] [(0, (if (0 ≤ a_value) ∧ (a_value ≤ 99999) then 1 else 0 : Int))] (s, m)
      refine g_if_eq h 15 22 (gRi gR_ite) dX7_write_15 (by decide) (fun h2 => ?_) (fun h2 => ?_)
      · exact J3 (fun q => (iz_f h2) q.2)
      · exact J2 ⟨(iz_t h1), (iz_t h2)⟩
  intro v1 e1
  subst e1
  obtain ⟨r1, s1, c1, hF⟩ := cb_some hF
  refine g_callSX h hE 23 dX7_write_23 (ctX7_demand hl c1) mwX7_demand kw_413 rfl (Nat.le_of_ble_eq_true rfl) rfl (Nat.le_of_ble_eq_true rfl) ⟨Nat.le_of_ble_eq_true rfl, Nat.le_of_ble_eq_true rfl⟩ rfl rfl (fun x1 => ?_) (fun x1 => ?_)
  · have hF := ite_t x1 hF
    obtain ⟨e1, e2⟩ := some_2 hF
    exact ⟨by rw [e1], by rw [e2], (Nat.le_of_ble_eq_true rfl), (Nat.le_of_ble_eq_true rfl)⟩
  have hF := ite_f (fun q => q x1) hF
  show G X 1 6 26 [(10, 0), (0, a_file), (0, a_index), (0, a_value)] [] (s1, m)
  refine g_aload_nq h 26 dX7_write_26 rfl rfl ?_
  refine g_iload_n h 27 dX7_write_27 rfl ?_
  refine g_iload_n h 28 dX7_write_28 rfl ?_
  refine g_iload_n h 29 dX7_write_29 rfl ?_
  obtain ⟨r2, s2, c2, hF⟩ := cb_some hF
  have t1 : (-2147483648) ≤ r2 ∧ r2 ≤ 2147483647 := rgX7_accessFile c2
  refine g_callV h hE 30 dX7_write_30 (ctX7_accessFile hl c2) mwX7_accessFile kw_837 (by decide) (by decide) rfl (Nat.le_of_ble_eq_true rfl) rfl (Nat.le_of_ble_eq_true rfl) ⟨Nat.le_of_ble_eq_true rfl, Nat.le_of_ble_eq_true rfl⟩ rfl rfl ?_
  show G X 1 6 33 [(10, 0), (0, a_file), (0, a_index), (0, a_value)] [(0, r2)] (s2, m)
  obtain ⟨e1, e2⟩ := some_2 hF
  rw [← e1, ← e2, gxc_0 (gRi (by omega))] at hE
  exact g_iret h 33 dX7_write_33 hE rfl rfl ⟨(Nat.le_of_ble_eq_true rfl), (Nat.le_of_ble_eq_true rfl)⟩
