set_option maxRecDepth 100000 in
set_option maxHeartbeats 4000000 in
theorem cw_space {l : Launch} {w : gW} {bs : Nat} (hl : l.stackTraces = false) {a_group r : Int} {s m s1 : S2} (hF : FX7_space a_group s = some (r, s1)) (hx : gxc r = 0 ∨ gxc r = 2 ∨ gxc r = 3) : gMetH l w bs yL_space cL_space 4 (some .int) [(0, 9, 12, 13), (0, 9, 15, 15)] 8 2 [(10, 0), (0, a_group), (60, 0)] (s, m) (some (0, (if gxc r = 0 then 0 else if gxc r = 2 then 1 else 2 : Int))) ((if gxc r = 0 then upd2 s1 51 0 r else s1), m) := by
  refine g_startH hl (by decide) (Nat.le_of_ble_eq_true rfl) rfl fun X h hE => ?_
  have h : gOk X "PagewrightLaw" cL_space 4 8 2 12 := h
  have hE : gEndH X l w bs 2 (some .int) [(0, 9, 12, 13), (0, 9, 15, 15)] (some (0, (if gxc r = 0 then 0 else if gxc r = 2 then 1 else 2 : Int))) ((if gxc r = 0 then upd2 s1 51 0 r else s1), m) := hE
  show G X 0 0 0 [(10, 0), (0, a_group), (60, 0), (1, 0)] [] (s, m)
  refine g_aload_nq h 0 dL_space_0 rfl rfl ?_
  refine g_iconst h 1 dL_space_1 ?_
  refine g_aload_nq h 2 dL_space_2 rfl rfl ?_
  refine g_iload_n h 3 dL_space_3 rfl ?_
  refine g_callVH h hE 4 dL_space_4 (ctX7_space hl hF) mwX7_space kw_406 (by decide) (by decide) rfl (Nat.le_of_ble_eq_true rfl) rfl (Nat.le_of_ble_eq_true rfl) ⟨(Nat.le_of_ble_eq_true rfl), (Nat.le_of_ble_eq_true rfl)⟩ rfl rfl (fun hx0 => ?_) (fun hx0 => ?_)
  · rcases hx with hx | hx | hx
    · exact absurd hx hx0
    · refine g_catch h hE 4 _ 2 hx [] ⟨0, 9, 12, 13⟩ [⟨0, 9, 15, 15⟩] rfl (fun z hz => by
      simp at hz) (by decide) (by decide) kw_404 (by decide) (Or.inl ⟨3, rfl, rfl, dL_space_12⟩) (Nat.le_of_ble_eq_true rfl) rfl (L' := [(10, 0), (0, a_group), (60, 0), (1, 0)]) rfl ?_
      refine g_iconst h 13 dL_space_13 ?_
      rw [show (if gxc r = 0 then 0 else if gxc r = 2 then 1 else 2 : Int) = 1 by rw [hx]; rfl] at hE
      rw [show (if gxc r = 0 then upd2 s1 51 0 r else s1) = s1 by rw [if_neg hx0]] at hE
      exact g_iretH h 14 dL_space_14 hE rfl ⟨(Nat.le_of_ble_eq_true rfl), (Nat.le_of_ble_eq_true rfl)⟩
    · refine g_catch h hE 4 _ 3 hx [⟨0, 9, 12, 13⟩] ⟨0, 9, 15, 15⟩ [] rfl (fun z hz => by
      simp only [List.mem_cons, List.not_mem_nil, or_false] at hz
      rcases hz with rfl
      · exact ⟨by decide, "java/lang/IllegalArgumentException", kw_404, by decide⟩) (by decide) (by decide) kw_405 (by decide) (Or.inl ⟨3, rfl, rfl, dL_space_15⟩) (Nat.le_of_ble_eq_true rfl) rfl (L' := [(10, 0), (0, a_group), (60, 0), (1, 0)]) rfl ?_
      refine g_iconst h 16 dL_space_16 ?_
      rw [show (if gxc r = 0 then 0 else if gxc r = 2 then 1 else 2 : Int) = 2 by rw [hx]; rfl] at hE
      rw [show (if gxc r = 0 then upd2 s1 51 0 r else s1) = s1 by rw [if_neg hx0]] at hE
      exact g_iretH h 17 dL_space_17 hE rfl ⟨(Nat.le_of_ble_eq_true rfl), (Nat.le_of_ble_eq_true rfl)⟩
  · rw [show (if gxc r = 0 then 0 else if gxc r = 2 then 1 else 2 : Int) = 0 by rw [if_pos hx0]] at hE
    rw [show (if gxc r = 0 then upd2 s1 51 0 r else s1) = upd2 s1 51 0 r by rw [if_pos hx0]] at hE
    have hr := (rgX7_space hF).resolve_left (fun q => q hx0)
    show G X 2 12 7 [(10, 0), (0, a_group), (60, 0), (1, 0)] [(0, r), (0, 0), (60, 0)] (s1, m)
    refine g_i2l h 7 dL_space_7 (gRi hr) ?_
    refine as_out h 8 dL_space_8 (by decide) ?_
    refine g_goto h 9 18 dL_space_9 (by decide) ?_
    refine g_iconst h 18 dL_space_18 ?_
    exact g_iretH h 19 dL_space_19 hE rfl ⟨(Nat.le_of_ble_eq_true rfl), (Nat.le_of_ble_eq_true rfl)⟩
set_option maxRecDepth 100000 in
set_option maxHeartbeats 4000000 in
theorem cw_map {l : Launch} {w : gW} {bs : Nat} (hl : l.stackTraces = false) {a_space a_from a_count a_rights a_file a_index a_shared a_grows r : Int} {s m s1 : S2} (hF : FX7_map a_space a_from a_count a_rights a_file a_index a_shared a_grows s = some (r, s1)) (hx : gxc r = 0 ∨ gxc r = 1 ∨ gxc r = 2 ∨ gxc r = 3) : gMetH l w bs yL_map cL_map 11 (some .int) [(0, 22, 25, 21), (0, 22, 29, 13), (0, 22, 33, 15)] 8 4 [(10, 0), (0, a_space), (0, a_from), (0, a_count), (0, a_rights), (0, a_file), (0, a_index), (0, a_shared), (0, a_grows), (60, 0)] (s, m) (some (0, (if gxc r = 0 then 0 else if gxc r = 1 then 1 else if gxc r = 2 then 2 else 3 : Int))) ((if gxc r = 0 then upd2 s1 51 0 r else s1), m) := by
  refine g_startH hl (by decide) (Nat.le_of_ble_eq_true rfl) rfl fun X h hE => ?_
  have h : gOk X "PagewrightLaw" cL_map 11 8 4 24 := h
  have hE : gEndH X l w bs 4 (some .int) [(0, 22, 25, 21), (0, 22, 29, 13), (0, 22, 33, 15)] (some (0, (if gxc r = 0 then 0 else if gxc r = 1 then 1 else if gxc r = 2 then 2 else 3 : Int))) ((if gxc r = 0 then upd2 s1 51 0 r else s1), m) := hE
  show G X 0 0 0 [(10, 0), (0, a_space), (0, a_from), (0, a_count), (0, a_rights), (0, a_file), (0, a_index), (0, a_shared), (0, a_grows), (60, 0), (1, 0)] [] (s, m)
  refine g_aloadq h 0 dL_map_0 rfl rfl ?_
  refine g_iconst h 2 dL_map_2 ?_
  refine g_aload_nq h 3 dL_map_3 rfl rfl ?_
  refine g_iload_n h 4 dL_map_4 rfl ?_
  refine g_iload_n h 5 dL_map_5 rfl ?_
  refine g_iload_n h 6 dL_map_6 rfl ?_
  refine g_iload h 7 dL_map_7 rfl ?_
  refine g_iload h 9 dL_map_9 rfl ?_
  refine g_iload h 11 dL_map_11 rfl ?_
  refine g_iload h 13 dL_map_13 rfl ?_
  refine g_iload h 15 dL_map_15 rfl ?_
  refine g_callVH h hE 17 dL_map_17 (ctX7_map hl hF) mwX7_map kw_511 (by decide) (by decide) rfl (Nat.le_of_ble_eq_true rfl) rfl (Nat.le_of_ble_eq_true rfl) ⟨(Nat.le_of_ble_eq_true rfl), (Nat.le_of_ble_eq_true rfl)⟩ rfl rfl (fun hx0 => ?_) (fun hx0 => ?_)
  · rcases hx with hx | hx | hx | hx
    · exact absurd hx hx0
    · refine g_catch h hE 17 _ 1 hx [] ⟨0, 22, 25, 21⟩ [⟨0, 22, 29, 13⟩, ⟨0, 22, 33, 15⟩] rfl (fun z hz => by
      simp at hz) (by decide) (by decide) kw_510 (by decide) (Or.inr ⟨rfl, dL_map_25⟩) (Nat.le_of_ble_eq_true rfl) rfl (L' := [(10, 0), (0, a_space), (0, a_from), (0, a_count), (0, a_rights), (0, a_file), (0, a_index), (0, a_shared), (0, a_grows), (60, 0), (1, 0)]) rfl ?_
      refine g_iconst h 27 dL_map_27 ?_
      rw [show (if gxc r = 0 then 0 else if gxc r = 1 then 1 else if gxc r = 2 then 2 else 3 : Int) = 1 by rw [hx]; rfl] at hE
      rw [show (if gxc r = 0 then upd2 s1 51 0 r else s1) = s1 by rw [if_neg hx0]] at hE
      exact g_iretH h 28 dL_map_28 hE rfl ⟨(Nat.le_of_ble_eq_true rfl), (Nat.le_of_ble_eq_true rfl)⟩
    · refine g_catch h hE 17 _ 2 hx [⟨0, 22, 25, 21⟩] ⟨0, 22, 29, 13⟩ [⟨0, 22, 33, 15⟩] rfl (fun z hz => by
      simp only [List.mem_cons, List.not_mem_nil, or_false] at hz
      rcases hz with rfl
      · exact ⟨by decide, "java/lang/IndexOutOfBoundsException", kw_510, by decide⟩) (by decide) (by decide) kw_404 (by decide) (Or.inr ⟨rfl, dL_map_29⟩) (Nat.le_of_ble_eq_true rfl) rfl (L' := [(10, 0), (0, a_space), (0, a_from), (0, a_count), (0, a_rights), (0, a_file), (0, a_index), (0, a_shared), (0, a_grows), (60, 0), (1, 0)]) rfl ?_
      refine g_iconst h 31 dL_map_31 ?_
      rw [show (if gxc r = 0 then 0 else if gxc r = 1 then 1 else if gxc r = 2 then 2 else 3 : Int) = 2 by rw [hx]; rfl] at hE
      rw [show (if gxc r = 0 then upd2 s1 51 0 r else s1) = s1 by rw [if_neg hx0]] at hE
      exact g_iretH h 32 dL_map_32 hE rfl ⟨(Nat.le_of_ble_eq_true rfl), (Nat.le_of_ble_eq_true rfl)⟩
    · refine g_catch h hE 17 _ 3 hx [⟨0, 22, 25, 21⟩, ⟨0, 22, 29, 13⟩] ⟨0, 22, 33, 15⟩ [] rfl (fun z hz => by
      simp only [List.mem_cons, List.not_mem_nil, or_false] at hz
      rcases hz with rfl | rfl
      · exact ⟨by decide, "java/lang/IndexOutOfBoundsException", kw_510, by decide⟩
      · exact ⟨by decide, "java/lang/IllegalArgumentException", kw_404, by decide⟩) (by decide) (by decide) kw_405 (by decide) (Or.inr ⟨rfl, dL_map_33⟩) (Nat.le_of_ble_eq_true rfl) rfl (L' := [(10, 0), (0, a_space), (0, a_from), (0, a_count), (0, a_rights), (0, a_file), (0, a_index), (0, a_shared), (0, a_grows), (60, 0), (1, 0)]) rfl ?_
      refine g_iconst h 35 dL_map_35 ?_
      rw [show (if gxc r = 0 then 0 else if gxc r = 1 then 1 else if gxc r = 2 then 2 else 3 : Int) = 3 by rw [hx]; rfl] at hE
      rw [show (if gxc r = 0 then upd2 s1 51 0 r else s1) = s1 by rw [if_neg hx0]] at hE
      exact g_iretH h 36 dL_map_36 hE rfl ⟨(Nat.le_of_ble_eq_true rfl), (Nat.le_of_ble_eq_true rfl)⟩
  · rw [show (if gxc r = 0 then 0 else if gxc r = 1 then 1 else if gxc r = 2 then 2 else 3 : Int) = 0 by rw [if_pos hx0]] at hE
    rw [show (if gxc r = 0 then upd2 s1 51 0 r else s1) = upd2 s1 51 0 r by rw [if_pos hx0]] at hE
    have hr := (rgX7_map hF).resolve_left (fun q => q hx0)
    show G X 4 24 20 [(10, 0), (0, a_space), (0, a_from), (0, a_count), (0, a_rights), (0, a_file), (0, a_index), (0, a_shared), (0, a_grows), (60, 0), (1, 0)] [(0, r), (0, 0), (60, 0)] (s1, m)
    refine g_i2l h 20 dL_map_20 (gRi hr) ?_
    refine as_out h 21 dL_map_21 (by decide) ?_
    refine g_goto h 22 37 dL_map_22 (by decide) ?_
    refine g_iconst h 37 dL_map_37 ?_
    exact g_iretH h 38 dL_map_38 hE rfl ⟨(Nat.le_of_ble_eq_true rfl), (Nat.le_of_ble_eq_true rfl)⟩
set_option maxRecDepth 100000 in
set_option maxHeartbeats 4000000 in
theorem cw_unmap {l : Launch} {w : gW} {bs : Nat} (hl : l.stackTraces = false) {a_space a_from a_count r : Int} {s m s1 : S2} (hF : FX7_unmap a_space a_from a_count s = some (r, s1)) (hx : gxc r = 0 ∨ gxc r = 1 ∨ gxc r = 2 ∨ gxc r = 3) : gMetH l w bs yL_unmap cL_unmap 6 (some .int) [(0, 12, 15, 21), (0, 12, 19, 13), (0, 12, 23, 15)] 8 3 [(10, 0), (0, a_space), (0, a_from), (0, a_count), (60, 0)] (s, m) (some (0, (if gxc r = 0 then 0 else if gxc r = 1 then 1 else if gxc r = 2 then 2 else 3 : Int))) ((if gxc r = 0 then upd2 s1 51 0 r else s1), m) := by
  refine g_startH hl (by decide) (Nat.le_of_ble_eq_true rfl) rfl fun X h hE => ?_
  have h : gOk X "PagewrightLaw" cL_unmap 6 8 3 18 := h
  have hE : gEndH X l w bs 3 (some .int) [(0, 12, 15, 21), (0, 12, 19, 13), (0, 12, 23, 15)] (some (0, (if gxc r = 0 then 0 else if gxc r = 1 then 1 else if gxc r = 2 then 2 else 3 : Int))) ((if gxc r = 0 then upd2 s1 51 0 r else s1), m) := hE
  show G X 0 0 0 [(10, 0), (0, a_space), (0, a_from), (0, a_count), (60, 0), (1, 0)] [] (s, m)
  refine g_aloadq h 0 dL_unmap_0 rfl rfl ?_
  refine g_iconst h 2 dL_unmap_2 ?_
  refine g_aload_nq h 3 dL_unmap_3 rfl rfl ?_
  refine g_iload_n h 4 dL_unmap_4 rfl ?_
  refine g_iload_n h 5 dL_unmap_5 rfl ?_
  refine g_iload_n h 6 dL_unmap_6 rfl ?_
  refine g_callVH h hE 7 dL_unmap_7 (ctX7_unmap hl hF) mwX7_unmap kw_557 (by decide) (by decide) rfl (Nat.le_of_ble_eq_true rfl) rfl (Nat.le_of_ble_eq_true rfl) ⟨(Nat.le_of_ble_eq_true rfl), (Nat.le_of_ble_eq_true rfl)⟩ rfl rfl (fun hx0 => ?_) (fun hx0 => ?_)
  · rcases hx with hx | hx | hx | hx
    · exact absurd hx hx0
    · refine g_catch h hE 7 _ 1 hx [] ⟨0, 12, 15, 21⟩ [⟨0, 12, 19, 13⟩, ⟨0, 12, 23, 15⟩] rfl (fun z hz => by
      simp at hz) (by decide) (by decide) kw_510 (by decide) (Or.inr ⟨rfl, dL_unmap_15⟩) (Nat.le_of_ble_eq_true rfl) rfl (L' := [(10, 0), (0, a_space), (0, a_from), (0, a_count), (60, 0), (1, 0)]) rfl ?_
      refine g_iconst h 17 dL_unmap_17 ?_
      rw [show (if gxc r = 0 then 0 else if gxc r = 1 then 1 else if gxc r = 2 then 2 else 3 : Int) = 1 by rw [hx]; rfl] at hE
      rw [show (if gxc r = 0 then upd2 s1 51 0 r else s1) = s1 by rw [if_neg hx0]] at hE
      exact g_iretH h 18 dL_unmap_18 hE rfl ⟨(Nat.le_of_ble_eq_true rfl), (Nat.le_of_ble_eq_true rfl)⟩
    · refine g_catch h hE 7 _ 2 hx [⟨0, 12, 15, 21⟩] ⟨0, 12, 19, 13⟩ [⟨0, 12, 23, 15⟩] rfl (fun z hz => by
      simp only [List.mem_cons, List.not_mem_nil, or_false] at hz
      rcases hz with rfl
      · exact ⟨by decide, "java/lang/IndexOutOfBoundsException", kw_510, by decide⟩) (by decide) (by decide) kw_404 (by decide) (Or.inr ⟨rfl, dL_unmap_19⟩) (Nat.le_of_ble_eq_true rfl) rfl (L' := [(10, 0), (0, a_space), (0, a_from), (0, a_count), (60, 0), (1, 0)]) rfl ?_
      refine g_iconst h 21 dL_unmap_21 ?_
      rw [show (if gxc r = 0 then 0 else if gxc r = 1 then 1 else if gxc r = 2 then 2 else 3 : Int) = 2 by rw [hx]; rfl] at hE
      rw [show (if gxc r = 0 then upd2 s1 51 0 r else s1) = s1 by rw [if_neg hx0]] at hE
      exact g_iretH h 22 dL_unmap_22 hE rfl ⟨(Nat.le_of_ble_eq_true rfl), (Nat.le_of_ble_eq_true rfl)⟩
    · refine g_catch h hE 7 _ 3 hx [⟨0, 12, 15, 21⟩, ⟨0, 12, 19, 13⟩] ⟨0, 12, 23, 15⟩ [] rfl (fun z hz => by
      simp only [List.mem_cons, List.not_mem_nil, or_false] at hz
      rcases hz with rfl | rfl
      · exact ⟨by decide, "java/lang/IndexOutOfBoundsException", kw_510, by decide⟩
      · exact ⟨by decide, "java/lang/IllegalArgumentException", kw_404, by decide⟩) (by decide) (by decide) kw_405 (by decide) (Or.inr ⟨rfl, dL_unmap_23⟩) (Nat.le_of_ble_eq_true rfl) rfl (L' := [(10, 0), (0, a_space), (0, a_from), (0, a_count), (60, 0), (1, 0)]) rfl ?_
      refine g_iconst h 25 dL_unmap_25 ?_
      rw [show (if gxc r = 0 then 0 else if gxc r = 1 then 1 else if gxc r = 2 then 2 else 3 : Int) = 3 by rw [hx]; rfl] at hE
      rw [show (if gxc r = 0 then upd2 s1 51 0 r else s1) = s1 by rw [if_neg hx0]] at hE
      exact g_iretH h 26 dL_unmap_26 hE rfl ⟨(Nat.le_of_ble_eq_true rfl), (Nat.le_of_ble_eq_true rfl)⟩
  · rw [show (if gxc r = 0 then 0 else if gxc r = 1 then 1 else if gxc r = 2 then 2 else 3 : Int) = 0 by rw [if_pos hx0]] at hE
    rw [show (if gxc r = 0 then upd2 s1 51 0 r else s1) = upd2 s1 51 0 r by rw [if_pos hx0]] at hE
    have hr := (rgX7_unmap hF).resolve_left (fun q => q hx0)
    show G X 3 18 10 [(10, 0), (0, a_space), (0, a_from), (0, a_count), (60, 0), (1, 0)] [(0, r), (0, 0), (60, 0)] (s1, m)
    refine g_i2l h 10 dL_unmap_10 (gRi hr) ?_
    refine as_out h 11 dL_unmap_11 (by decide) ?_
    refine g_goto h 12 27 dL_unmap_12 (by decide) ?_
    refine g_iconst h 27 dL_unmap_27 ?_
    exact g_iretH h 28 dL_unmap_28 hE rfl ⟨(Nat.le_of_ble_eq_true rfl), (Nat.le_of_ble_eq_true rfl)⟩
set_option maxRecDepth 100000 in
set_option maxHeartbeats 4000000 in
theorem cw_protect {l : Launch} {w : gW} {bs : Nat} (hl : l.stackTraces = false) {a_space a_from a_count a_rights r : Int} {s m s1 : S2} (hF : FX7_protect a_space a_from a_count a_rights s = some (r, s1)) (hx : gxc r = 0 ∨ gxc r = 1 ∨ gxc r = 2 ∨ gxc r = 3) : gMetH l w bs yL_protect cL_protect 7 (some .int) [(0, 14, 17, 21), (0, 14, 21, 13), (0, 14, 25, 15)] 8 3 [(10, 0), (0, a_space), (0, a_from), (0, a_count), (0, a_rights), (60, 0)] (s, m) (some (0, (if gxc r = 0 then 0 else if gxc r = 1 then 1 else if gxc r = 2 then 2 else 3 : Int))) ((if gxc r = 0 then upd2 s1 51 0 r else s1), m) := by
  refine g_startH hl (by decide) (Nat.le_of_ble_eq_true rfl) rfl fun X h hE => ?_
  have h : gOk X "PagewrightLaw" cL_protect 7 8 3 18 := h
  have hE : gEndH X l w bs 3 (some .int) [(0, 14, 17, 21), (0, 14, 21, 13), (0, 14, 25, 15)] (some (0, (if gxc r = 0 then 0 else if gxc r = 1 then 1 else if gxc r = 2 then 2 else 3 : Int))) ((if gxc r = 0 then upd2 s1 51 0 r else s1), m) := hE
  show G X 0 0 0 [(10, 0), (0, a_space), (0, a_from), (0, a_count), (0, a_rights), (60, 0), (1, 0)] [] (s, m)
  refine g_aloadq h 0 dL_protect_0 rfl rfl ?_
  refine g_iconst h 2 dL_protect_2 ?_
  refine g_aload_nq h 3 dL_protect_3 rfl rfl ?_
  refine g_iload_n h 4 dL_protect_4 rfl ?_
  refine g_iload_n h 5 dL_protect_5 rfl ?_
  refine g_iload_n h 6 dL_protect_6 rfl ?_
  refine g_iload h 7 dL_protect_7 rfl ?_
  refine g_callVH h hE 9 dL_protect_9 (ctX7_protect hl hF) mwX7_protect kw_593 (by decide) (by decide) rfl (Nat.le_of_ble_eq_true rfl) rfl (Nat.le_of_ble_eq_true rfl) ⟨(Nat.le_of_ble_eq_true rfl), (Nat.le_of_ble_eq_true rfl)⟩ rfl rfl (fun hx0 => ?_) (fun hx0 => ?_)
  · rcases hx with hx | hx | hx | hx
    · exact absurd hx hx0
    · refine g_catch h hE 9 _ 1 hx [] ⟨0, 14, 17, 21⟩ [⟨0, 14, 21, 13⟩, ⟨0, 14, 25, 15⟩] rfl (fun z hz => by
      simp at hz) (by decide) (by decide) kw_510 (by decide) (Or.inr ⟨rfl, dL_protect_17⟩) (Nat.le_of_ble_eq_true rfl) rfl (L' := [(10, 0), (0, a_space), (0, a_from), (0, a_count), (0, a_rights), (60, 0), (1, 0)]) rfl ?_
      refine g_iconst h 19 dL_protect_19 ?_
      rw [show (if gxc r = 0 then 0 else if gxc r = 1 then 1 else if gxc r = 2 then 2 else 3 : Int) = 1 by rw [hx]; rfl] at hE
      rw [show (if gxc r = 0 then upd2 s1 51 0 r else s1) = s1 by rw [if_neg hx0]] at hE
      exact g_iretH h 20 dL_protect_20 hE rfl ⟨(Nat.le_of_ble_eq_true rfl), (Nat.le_of_ble_eq_true rfl)⟩
    · refine g_catch h hE 9 _ 2 hx [⟨0, 14, 17, 21⟩] ⟨0, 14, 21, 13⟩ [⟨0, 14, 25, 15⟩] rfl (fun z hz => by
      simp only [List.mem_cons, List.not_mem_nil, or_false] at hz
      rcases hz with rfl
      · exact ⟨by decide, "java/lang/IndexOutOfBoundsException", kw_510, by decide⟩) (by decide) (by decide) kw_404 (by decide) (Or.inr ⟨rfl, dL_protect_21⟩) (Nat.le_of_ble_eq_true rfl) rfl (L' := [(10, 0), (0, a_space), (0, a_from), (0, a_count), (0, a_rights), (60, 0), (1, 0)]) rfl ?_
      refine g_iconst h 23 dL_protect_23 ?_
      rw [show (if gxc r = 0 then 0 else if gxc r = 1 then 1 else if gxc r = 2 then 2 else 3 : Int) = 2 by rw [hx]; rfl] at hE
      rw [show (if gxc r = 0 then upd2 s1 51 0 r else s1) = s1 by rw [if_neg hx0]] at hE
      exact g_iretH h 24 dL_protect_24 hE rfl ⟨(Nat.le_of_ble_eq_true rfl), (Nat.le_of_ble_eq_true rfl)⟩
    · refine g_catch h hE 9 _ 3 hx [⟨0, 14, 17, 21⟩, ⟨0, 14, 21, 13⟩] ⟨0, 14, 25, 15⟩ [] rfl (fun z hz => by
      simp only [List.mem_cons, List.not_mem_nil, or_false] at hz
      rcases hz with rfl | rfl
      · exact ⟨by decide, "java/lang/IndexOutOfBoundsException", kw_510, by decide⟩
      · exact ⟨by decide, "java/lang/IllegalArgumentException", kw_404, by decide⟩) (by decide) (by decide) kw_405 (by decide) (Or.inr ⟨rfl, dL_protect_25⟩) (Nat.le_of_ble_eq_true rfl) rfl (L' := [(10, 0), (0, a_space), (0, a_from), (0, a_count), (0, a_rights), (60, 0), (1, 0)]) rfl ?_
      refine g_iconst h 27 dL_protect_27 ?_
      rw [show (if gxc r = 0 then 0 else if gxc r = 1 then 1 else if gxc r = 2 then 2 else 3 : Int) = 3 by rw [hx]; rfl] at hE
      rw [show (if gxc r = 0 then upd2 s1 51 0 r else s1) = s1 by rw [if_neg hx0]] at hE
      exact g_iretH h 28 dL_protect_28 hE rfl ⟨(Nat.le_of_ble_eq_true rfl), (Nat.le_of_ble_eq_true rfl)⟩
  · rw [show (if gxc r = 0 then 0 else if gxc r = 1 then 1 else if gxc r = 2 then 2 else 3 : Int) = 0 by rw [if_pos hx0]] at hE
    rw [show (if gxc r = 0 then upd2 s1 51 0 r else s1) = upd2 s1 51 0 r by rw [if_pos hx0]] at hE
    have hr := (rgX7_protect hF).resolve_left (fun q => q hx0)
    show G X 3 18 12 [(10, 0), (0, a_space), (0, a_from), (0, a_count), (0, a_rights), (60, 0), (1, 0)] [(0, r), (0, 0), (60, 0)] (s1, m)
    refine g_i2l h 12 dL_protect_12 (gRi hr) ?_
    refine as_out h 13 dL_protect_13 (by decide) ?_
    refine g_goto h 14 29 dL_protect_14 (by decide) ?_
    refine g_iconst h 29 dL_protect_29 ?_
    exact g_iretH h 30 dL_protect_30 hE rfl ⟨(Nat.le_of_ble_eq_true rfl), (Nat.le_of_ble_eq_true rfl)⟩
set_option maxRecDepth 100000 in
set_option maxHeartbeats 4000000 in
theorem cw_move {l : Launch} {w : gW} {bs : Nat} (hl : l.stackTraces = false) {a_space a_from a_count a_to r : Int} {s m s1 : S2} (hF : FX7_move a_space a_from a_count a_to s = some (r, s1)) (hx : gxc r = 0 ∨ gxc r = 1 ∨ gxc r = 2 ∨ gxc r = 3) : gMetH l w bs yL_move cL_move 7 (some .int) [(0, 14, 17, 21), (0, 14, 21, 13), (0, 14, 25, 15)] 8 3 [(10, 0), (0, a_space), (0, a_from), (0, a_count), (0, a_to), (60, 0)] (s, m) (some (0, (if gxc r = 0 then 0 else if gxc r = 1 then 1 else if gxc r = 2 then 2 else 3 : Int))) ((if gxc r = 0 then upd2 s1 51 0 r else s1), m) := by
  refine g_startH hl (by decide) (Nat.le_of_ble_eq_true rfl) rfl fun X h hE => ?_
  have h : gOk X "PagewrightLaw" cL_move 7 8 3 18 := h
  have hE : gEndH X l w bs 3 (some .int) [(0, 14, 17, 21), (0, 14, 21, 13), (0, 14, 25, 15)] (some (0, (if gxc r = 0 then 0 else if gxc r = 1 then 1 else if gxc r = 2 then 2 else 3 : Int))) ((if gxc r = 0 then upd2 s1 51 0 r else s1), m) := hE
  show G X 0 0 0 [(10, 0), (0, a_space), (0, a_from), (0, a_count), (0, a_to), (60, 0), (1, 0)] [] (s, m)
  refine g_aloadq h 0 dL_move_0 rfl rfl ?_
  refine g_iconst h 2 dL_move_2 ?_
  refine g_aload_nq h 3 dL_move_3 rfl rfl ?_
  refine g_iload_n h 4 dL_move_4 rfl ?_
  refine g_iload_n h 5 dL_move_5 rfl ?_
  refine g_iload_n h 6 dL_move_6 rfl ?_
  refine g_iload h 7 dL_move_7 rfl ?_
  refine g_callVH h hE 9 dL_move_9 (ctX7_move hl hF) mwX7_move kw_605 (by decide) (by decide) rfl (Nat.le_of_ble_eq_true rfl) rfl (Nat.le_of_ble_eq_true rfl) ⟨(Nat.le_of_ble_eq_true rfl), (Nat.le_of_ble_eq_true rfl)⟩ rfl rfl (fun hx0 => ?_) (fun hx0 => ?_)
  · rcases hx with hx | hx | hx | hx
    · exact absurd hx hx0
    · refine g_catch h hE 9 _ 1 hx [] ⟨0, 14, 17, 21⟩ [⟨0, 14, 21, 13⟩, ⟨0, 14, 25, 15⟩] rfl (fun z hz => by
      simp at hz) (by decide) (by decide) kw_510 (by decide) (Or.inr ⟨rfl, dL_move_17⟩) (Nat.le_of_ble_eq_true rfl) rfl (L' := [(10, 0), (0, a_space), (0, a_from), (0, a_count), (0, a_to), (60, 0), (1, 0)]) rfl ?_
      refine g_iconst h 19 dL_move_19 ?_
      rw [show (if gxc r = 0 then 0 else if gxc r = 1 then 1 else if gxc r = 2 then 2 else 3 : Int) = 1 by rw [hx]; rfl] at hE
      rw [show (if gxc r = 0 then upd2 s1 51 0 r else s1) = s1 by rw [if_neg hx0]] at hE
      exact g_iretH h 20 dL_move_20 hE rfl ⟨(Nat.le_of_ble_eq_true rfl), (Nat.le_of_ble_eq_true rfl)⟩
    · refine g_catch h hE 9 _ 2 hx [⟨0, 14, 17, 21⟩] ⟨0, 14, 21, 13⟩ [⟨0, 14, 25, 15⟩] rfl (fun z hz => by
      simp only [List.mem_cons, List.not_mem_nil, or_false] at hz
      rcases hz with rfl
      · exact ⟨by decide, "java/lang/IndexOutOfBoundsException", kw_510, by decide⟩) (by decide) (by decide) kw_404 (by decide) (Or.inr ⟨rfl, dL_move_21⟩) (Nat.le_of_ble_eq_true rfl) rfl (L' := [(10, 0), (0, a_space), (0, a_from), (0, a_count), (0, a_to), (60, 0), (1, 0)]) rfl ?_
      refine g_iconst h 23 dL_move_23 ?_
      rw [show (if gxc r = 0 then 0 else if gxc r = 1 then 1 else if gxc r = 2 then 2 else 3 : Int) = 2 by rw [hx]; rfl] at hE
      rw [show (if gxc r = 0 then upd2 s1 51 0 r else s1) = s1 by rw [if_neg hx0]] at hE
      exact g_iretH h 24 dL_move_24 hE rfl ⟨(Nat.le_of_ble_eq_true rfl), (Nat.le_of_ble_eq_true rfl)⟩
    · refine g_catch h hE 9 _ 3 hx [⟨0, 14, 17, 21⟩, ⟨0, 14, 21, 13⟩] ⟨0, 14, 25, 15⟩ [] rfl (fun z hz => by
      simp only [List.mem_cons, List.not_mem_nil, or_false] at hz
      rcases hz with rfl | rfl
      · exact ⟨by decide, "java/lang/IndexOutOfBoundsException", kw_510, by decide⟩
      · exact ⟨by decide, "java/lang/IllegalArgumentException", kw_404, by decide⟩) (by decide) (by decide) kw_405 (by decide) (Or.inr ⟨rfl, dL_move_25⟩) (Nat.le_of_ble_eq_true rfl) rfl (L' := [(10, 0), (0, a_space), (0, a_from), (0, a_count), (0, a_to), (60, 0), (1, 0)]) rfl ?_
      refine g_iconst h 27 dL_move_27 ?_
      rw [show (if gxc r = 0 then 0 else if gxc r = 1 then 1 else if gxc r = 2 then 2 else 3 : Int) = 3 by rw [hx]; rfl] at hE
      rw [show (if gxc r = 0 then upd2 s1 51 0 r else s1) = s1 by rw [if_neg hx0]] at hE
      exact g_iretH h 28 dL_move_28 hE rfl ⟨(Nat.le_of_ble_eq_true rfl), (Nat.le_of_ble_eq_true rfl)⟩
  · rw [show (if gxc r = 0 then 0 else if gxc r = 1 then 1 else if gxc r = 2 then 2 else 3 : Int) = 0 by rw [if_pos hx0]] at hE
    rw [show (if gxc r = 0 then upd2 s1 51 0 r else s1) = upd2 s1 51 0 r by rw [if_pos hx0]] at hE
    have hr := (rgX7_move hF).resolve_left (fun q => q hx0)
    show G X 3 18 12 [(10, 0), (0, a_space), (0, a_from), (0, a_count), (0, a_to), (60, 0), (1, 0)] [(0, r), (0, 0), (60, 0)] (s1, m)
    refine g_i2l h 12 dL_move_12 (gRi hr) ?_
    refine as_out h 13 dL_move_13 (by decide) ?_
    refine g_goto h 14 29 dL_move_14 (by decide) ?_
    refine g_iconst h 29 dL_move_29 ?_
    exact g_iretH h 30 dL_move_30 hE rfl ⟨(Nat.le_of_ble_eq_true rfl), (Nat.le_of_ble_eq_true rfl)⟩
set_option maxRecDepth 100000 in
set_option maxHeartbeats 4000000 in
theorem cw_fork {l : Launch} {w : gW} {bs : Nat} (hl : l.stackTraces = false) {a_space r : Int} {s m s1 : S2} (hF : FX7_fork a_space s = some (r, s1)) (hx : gxc r = 0 ∨ gxc r = 1 ∨ gxc r = 3) : gMetH l w bs yL_fork cL_fork 4 (some .int) [(0, 9, 12, 21), (0, 9, 15, 15)] 8 2 [(10, 0), (0, a_space), (60, 0)] (s, m) (some (0, (if gxc r = 0 then 0 else if gxc r = 1 then 1 else 2 : Int))) ((if gxc r = 0 then upd2 s1 51 0 r else s1), m) := by
  refine g_startH hl (by decide) (Nat.le_of_ble_eq_true rfl) rfl fun X h hE => ?_
  have h : gOk X "PagewrightLaw" cL_fork 4 8 2 12 := h
  have hE : gEndH X l w bs 2 (some .int) [(0, 9, 12, 21), (0, 9, 15, 15)] (some (0, (if gxc r = 0 then 0 else if gxc r = 1 then 1 else 2 : Int))) ((if gxc r = 0 then upd2 s1 51 0 r else s1), m) := hE
  show G X 0 0 0 [(10, 0), (0, a_space), (60, 0), (1, 0)] [] (s, m)
  refine g_aload_nq h 0 dL_fork_0 rfl rfl ?_
  refine g_iconst h 1 dL_fork_1 ?_
  refine g_aload_nq h 2 dL_fork_2 rfl rfl ?_
  refine g_iload_n h 3 dL_fork_3 rfl ?_
  refine g_callVH h hE 4 dL_fork_4 (ctX7_fork hl hF) mwX7_fork kw_618 (by decide) (by decide) rfl (Nat.le_of_ble_eq_true rfl) rfl (Nat.le_of_ble_eq_true rfl) ⟨(Nat.le_of_ble_eq_true rfl), (Nat.le_of_ble_eq_true rfl)⟩ rfl rfl (fun hx0 => ?_) (fun hx0 => ?_)
  · rcases hx with hx | hx | hx
    · exact absurd hx hx0
    · refine g_catch h hE 4 _ 1 hx [] ⟨0, 9, 12, 21⟩ [⟨0, 9, 15, 15⟩] rfl (fun z hz => by
      simp at hz) (by decide) (by decide) kw_510 (by decide) (Or.inl ⟨3, rfl, rfl, dL_fork_12⟩) (Nat.le_of_ble_eq_true rfl) rfl (L' := [(10, 0), (0, a_space), (60, 0), (1, 0)]) rfl ?_
      refine g_iconst h 13 dL_fork_13 ?_
      rw [show (if gxc r = 0 then 0 else if gxc r = 1 then 1 else 2 : Int) = 1 by rw [hx]; rfl] at hE
      rw [show (if gxc r = 0 then upd2 s1 51 0 r else s1) = s1 by rw [if_neg hx0]] at hE
      exact g_iretH h 14 dL_fork_14 hE rfl ⟨(Nat.le_of_ble_eq_true rfl), (Nat.le_of_ble_eq_true rfl)⟩
    · refine g_catch h hE 4 _ 3 hx [⟨0, 9, 12, 21⟩] ⟨0, 9, 15, 15⟩ [] rfl (fun z hz => by
      simp only [List.mem_cons, List.not_mem_nil, or_false] at hz
      rcases hz with rfl
      · exact ⟨by decide, "java/lang/IndexOutOfBoundsException", kw_510, by decide⟩) (by decide) (by decide) kw_405 (by decide) (Or.inl ⟨3, rfl, rfl, dL_fork_15⟩) (Nat.le_of_ble_eq_true rfl) rfl (L' := [(10, 0), (0, a_space), (60, 0), (1, 0)]) rfl ?_
      refine g_iconst h 16 dL_fork_16 ?_
      rw [show (if gxc r = 0 then 0 else if gxc r = 1 then 1 else 2 : Int) = 2 by rw [hx]; rfl] at hE
      rw [show (if gxc r = 0 then upd2 s1 51 0 r else s1) = s1 by rw [if_neg hx0]] at hE
      exact g_iretH h 17 dL_fork_17 hE rfl ⟨(Nat.le_of_ble_eq_true rfl), (Nat.le_of_ble_eq_true rfl)⟩
  · rw [show (if gxc r = 0 then 0 else if gxc r = 1 then 1 else 2 : Int) = 0 by rw [if_pos hx0]] at hE
    rw [show (if gxc r = 0 then upd2 s1 51 0 r else s1) = upd2 s1 51 0 r by rw [if_pos hx0]] at hE
    have hr := (rgX7_fork hF).resolve_left (fun q => q hx0)
    show G X 2 12 7 [(10, 0), (0, a_space), (60, 0), (1, 0)] [(0, r), (0, 0), (60, 0)] (s1, m)
    refine g_i2l h 7 dL_fork_7 (gRi hr) ?_
    refine as_out h 8 dL_fork_8 (by decide) ?_
    refine g_goto h 9 18 dL_fork_9 (by decide) ?_
    refine g_iconst h 18 dL_fork_18 ?_
    exact g_iretH h 19 dL_fork_19 hE rfl ⟨(Nat.le_of_ble_eq_true rfl), (Nat.le_of_ble_eq_true rfl)⟩
set_option maxRecDepth 100000 in
set_option maxHeartbeats 4000000 in
theorem cw_end {l : Launch} {w : gW} {bs : Nat} (hl : l.stackTraces = false) {a_space r : Int} {s m s1 : S2} (hF : FX7_end a_space s = some (r, s1)) (hx : gxc r = 0 ∨ gxc r = 1 ∨ gxc r = 3) : gMetH l w bs yL_end cL_end 4 (some .int) [(0, 9, 12, 21), (0, 9, 15, 15)] 8 2 [(10, 0), (0, a_space), (60, 0)] (s, m) (some (0, (if gxc r = 0 then 0 else if gxc r = 1 then 1 else 2 : Int))) ((if gxc r = 0 then upd2 s1 51 0 r else s1), m) := by
  refine g_startH hl (by decide) (Nat.le_of_ble_eq_true rfl) rfl fun X h hE => ?_
  have h : gOk X "PagewrightLaw" cL_end 4 8 2 12 := h
  have hE : gEndH X l w bs 2 (some .int) [(0, 9, 12, 21), (0, 9, 15, 15)] (some (0, (if gxc r = 0 then 0 else if gxc r = 1 then 1 else 2 : Int))) ((if gxc r = 0 then upd2 s1 51 0 r else s1), m) := hE
  show G X 0 0 0 [(10, 0), (0, a_space), (60, 0), (1, 0)] [] (s, m)
  refine g_aload_nq h 0 dL_end_0 rfl rfl ?_
  refine g_iconst h 1 dL_end_1 ?_
  refine g_aload_nq h 2 dL_end_2 rfl rfl ?_
  refine g_iload_n h 3 dL_end_3 rfl ?_
  refine g_callVH h hE 4 dL_end_4 (ctX7_end hl hF) mwX7_end kw_629 (by decide) (by decide) rfl (Nat.le_of_ble_eq_true rfl) rfl (Nat.le_of_ble_eq_true rfl) ⟨(Nat.le_of_ble_eq_true rfl), (Nat.le_of_ble_eq_true rfl)⟩ rfl rfl (fun hx0 => ?_) (fun hx0 => ?_)
  · rcases hx with hx | hx | hx
    · exact absurd hx hx0
    · refine g_catch h hE 4 _ 1 hx [] ⟨0, 9, 12, 21⟩ [⟨0, 9, 15, 15⟩] rfl (fun z hz => by
      simp at hz) (by decide) (by decide) kw_510 (by decide) (Or.inl ⟨3, rfl, rfl, dL_end_12⟩) (Nat.le_of_ble_eq_true rfl) rfl (L' := [(10, 0), (0, a_space), (60, 0), (1, 0)]) rfl ?_
      refine g_iconst h 13 dL_end_13 ?_
      rw [show (if gxc r = 0 then 0 else if gxc r = 1 then 1 else 2 : Int) = 1 by rw [hx]; rfl] at hE
      rw [show (if gxc r = 0 then upd2 s1 51 0 r else s1) = s1 by rw [if_neg hx0]] at hE
      exact g_iretH h 14 dL_end_14 hE rfl ⟨(Nat.le_of_ble_eq_true rfl), (Nat.le_of_ble_eq_true rfl)⟩
    · refine g_catch h hE 4 _ 3 hx [⟨0, 9, 12, 21⟩] ⟨0, 9, 15, 15⟩ [] rfl (fun z hz => by
      simp only [List.mem_cons, List.not_mem_nil, or_false] at hz
      rcases hz with rfl
      · exact ⟨by decide, "java/lang/IndexOutOfBoundsException", kw_510, by decide⟩) (by decide) (by decide) kw_405 (by decide) (Or.inl ⟨3, rfl, rfl, dL_end_15⟩) (Nat.le_of_ble_eq_true rfl) rfl (L' := [(10, 0), (0, a_space), (60, 0), (1, 0)]) rfl ?_
      refine g_iconst h 16 dL_end_16 ?_
      rw [show (if gxc r = 0 then 0 else if gxc r = 1 then 1 else 2 : Int) = 2 by rw [hx]; rfl] at hE
      rw [show (if gxc r = 0 then upd2 s1 51 0 r else s1) = s1 by rw [if_neg hx0]] at hE
      exact g_iretH h 17 dL_end_17 hE rfl ⟨(Nat.le_of_ble_eq_true rfl), (Nat.le_of_ble_eq_true rfl)⟩
  · rw [show (if gxc r = 0 then 0 else if gxc r = 1 then 1 else 2 : Int) = 0 by rw [if_pos hx0]] at hE
    rw [show (if gxc r = 0 then upd2 s1 51 0 r else s1) = upd2 s1 51 0 r by rw [if_pos hx0]] at hE
    have hr := (rgX7_end hF).resolve_left (fun q => q hx0)
    show G X 2 12 7 [(10, 0), (0, a_space), (60, 0), (1, 0)] [(0, r), (0, 0), (60, 0)] (s1, m)
    refine g_i2l h 7 dL_end_7 (gRi hr) ?_
    refine as_out h 8 dL_end_8 (by decide) ?_
    refine g_goto h 9 18 dL_end_9 (by decide) ?_
    refine g_iconst h 18 dL_end_18 ?_
    exact g_iretH h 19 dL_end_19 hE rfl ⟨(Nat.le_of_ble_eq_true rfl), (Nat.le_of_ble_eq_true rfl)⟩
set_option maxRecDepth 100000 in
set_option maxHeartbeats 4000000 in
theorem cw_adjust {l : Launch} {w : gW} {bs : Nat} (hl : l.stackTraces = false) {a_space a_by r : Int} {s m s1 : S2} (hF : FX7_adjust a_space a_by s = some (r, s1)) (hx : gxc r = 0 ∨ gxc r = 1 ∨ gxc r = 2) : gMetH l w bs yL_adjust cL_adjust 5 (some .int) [(0, 10, 13, 21), (0, 10, 17, 13)] 8 2 [(10, 0), (0, a_space), (0, a_by), (60, 0)] (s, m) (some (0, (if gxc r = 0 then 0 else if gxc r = 1 then 1 else 2 : Int))) ((if gxc r = 0 then upd2 s1 51 0 r else s1), m) := by
  refine g_startH hl (by decide) (Nat.le_of_ble_eq_true rfl) rfl fun X h hE => ?_
  have h : gOk X "PagewrightLaw" cL_adjust 5 8 2 12 := h
  have hE : gEndH X l w bs 2 (some .int) [(0, 10, 13, 21), (0, 10, 17, 13)] (some (0, (if gxc r = 0 then 0 else if gxc r = 1 then 1 else 2 : Int))) ((if gxc r = 0 then upd2 s1 51 0 r else s1), m) := hE
  show G X 0 0 0 [(10, 0), (0, a_space), (0, a_by), (60, 0), (1, 0)] [] (s, m)
  refine g_aload_nq h 0 dL_adjust_0 rfl rfl ?_
  refine g_iconst h 1 dL_adjust_1 ?_
  refine g_aload_nq h 2 dL_adjust_2 rfl rfl ?_
  refine g_iload_n h 3 dL_adjust_3 rfl ?_
  refine g_iload_n h 4 dL_adjust_4 rfl ?_
  refine g_callVH h hE 5 dL_adjust_5 (ctX7_adjust hl hF) mwX7_adjust kw_644 (by decide) (by decide) rfl (Nat.le_of_ble_eq_true rfl) rfl (Nat.le_of_ble_eq_true rfl) ⟨(Nat.le_of_ble_eq_true rfl), (Nat.le_of_ble_eq_true rfl)⟩ rfl rfl (fun hx0 => ?_) (fun hx0 => ?_)
  · rcases hx with hx | hx | hx
    · exact absurd hx hx0
    · refine g_catch h hE 5 _ 1 hx [] ⟨0, 10, 13, 21⟩ [⟨0, 10, 17, 13⟩] rfl (fun z hz => by
      simp at hz) (by decide) (by decide) kw_510 (by decide) (Or.inr ⟨rfl, dL_adjust_13⟩) (Nat.le_of_ble_eq_true rfl) rfl (L' := [(10, 0), (0, a_space), (0, a_by), (60, 0), (1, 0)]) rfl ?_
      refine g_iconst h 15 dL_adjust_15 ?_
      rw [show (if gxc r = 0 then 0 else if gxc r = 1 then 1 else 2 : Int) = 1 by rw [hx]; rfl] at hE
      rw [show (if gxc r = 0 then upd2 s1 51 0 r else s1) = s1 by rw [if_neg hx0]] at hE
      exact g_iretH h 16 dL_adjust_16 hE rfl ⟨(Nat.le_of_ble_eq_true rfl), (Nat.le_of_ble_eq_true rfl)⟩
    · refine g_catch h hE 5 _ 2 hx [⟨0, 10, 13, 21⟩] ⟨0, 10, 17, 13⟩ [] rfl (fun z hz => by
      simp only [List.mem_cons, List.not_mem_nil, or_false] at hz
      rcases hz with rfl
      · exact ⟨by decide, "java/lang/IndexOutOfBoundsException", kw_510, by decide⟩) (by decide) (by decide) kw_404 (by decide) (Or.inr ⟨rfl, dL_adjust_17⟩) (Nat.le_of_ble_eq_true rfl) rfl (L' := [(10, 0), (0, a_space), (0, a_by), (60, 0), (1, 0)]) rfl ?_
      refine g_iconst h 19 dL_adjust_19 ?_
      rw [show (if gxc r = 0 then 0 else if gxc r = 1 then 1 else 2 : Int) = 2 by rw [hx]; rfl] at hE
      rw [show (if gxc r = 0 then upd2 s1 51 0 r else s1) = s1 by rw [if_neg hx0]] at hE
      exact g_iretH h 20 dL_adjust_20 hE rfl ⟨(Nat.le_of_ble_eq_true rfl), (Nat.le_of_ble_eq_true rfl)⟩
  · rw [show (if gxc r = 0 then 0 else if gxc r = 1 then 1 else 2 : Int) = 0 by rw [if_pos hx0]] at hE
    rw [show (if gxc r = 0 then upd2 s1 51 0 r else s1) = upd2 s1 51 0 r by rw [if_pos hx0]] at hE
    have hr := (rgX7_adjust hF).resolve_left (fun q => q hx0)
    show G X 2 12 8 [(10, 0), (0, a_space), (0, a_by), (60, 0), (1, 0)] [(0, r), (0, 0), (60, 0)] (s1, m)
    refine g_i2l h 8 dL_adjust_8 (gRi hr) ?_
    refine as_out h 9 dL_adjust_9 (by decide) ?_
    refine g_goto h 10 21 dL_adjust_10 (by decide) ?_
    refine g_iconst h 21 dL_adjust_21 ?_
    exact g_iretH h 22 dL_adjust_22 hE rfl ⟨(Nat.le_of_ble_eq_true rfl), (Nat.le_of_ble_eq_true rfl)⟩
set_option maxRecDepth 100000 in
set_option maxHeartbeats 4000000 in
theorem cw_limit {l : Launch} {w : gW} {bs : Nat} (hl : l.stackTraces = false) {a_group a_pages r : Int} {s m s1 : S2} (hF : FX7_limit a_group a_pages s = some (r, s1)) (hx : gxc r = 0 ∨ gxc r = 2) : gMetH l w bs yL_limit cL_limit 5 (some .int) [(0, 10, 13, 13)] 8 1 [(10, 0), (0, a_group), (0, a_pages), (60, 0)] (s, m) (some (0, (if gxc r = 0 then 0 else 1 : Int))) ((if gxc r = 0 then upd2 s1 51 0 r else s1), m) := by
  refine g_startH hl (by decide) (Nat.le_of_ble_eq_true rfl) rfl fun X h hE => ?_
  have h : gOk X "PagewrightLaw" cL_limit 5 8 1 6 := h
  have hE : gEndH X l w bs 1 (some .int) [(0, 10, 13, 13)] (some (0, (if gxc r = 0 then 0 else 1 : Int))) ((if gxc r = 0 then upd2 s1 51 0 r else s1), m) := hE
  show G X 0 0 0 [(10, 0), (0, a_group), (0, a_pages), (60, 0), (1, 0)] [] (s, m)
  refine g_aload_nq h 0 dL_limit_0 rfl rfl ?_
  refine g_iconst h 1 dL_limit_1 ?_
  refine g_aload_nq h 2 dL_limit_2 rfl rfl ?_
  refine g_iload_n h 3 dL_limit_3 rfl ?_
  refine g_iload_n h 4 dL_limit_4 rfl ?_
  refine g_callVH h hE 5 dL_limit_5 (ctX7_limit hl hF) mwX7_limit kw_651 (by decide) (by decide) rfl (Nat.le_of_ble_eq_true rfl) rfl (Nat.le_of_ble_eq_true rfl) ⟨(Nat.le_of_ble_eq_true rfl), (Nat.le_of_ble_eq_true rfl)⟩ rfl rfl (fun hx0 => ?_) (fun hx0 => ?_)
  · rcases hx with hx | hx
    · exact absurd hx hx0
    · refine g_catch h hE 5 _ 2 hx [] ⟨0, 10, 13, 13⟩ [] rfl (fun z hz => by
      simp at hz) (by decide) (by decide) kw_404 (by decide) (Or.inr ⟨rfl, dL_limit_13⟩) (Nat.le_of_ble_eq_true rfl) rfl (L' := [(10, 0), (0, a_group), (0, a_pages), (60, 0), (1, 0)]) rfl ?_
      refine g_iconst h 15 dL_limit_15 ?_
      rw [show (if gxc r = 0 then 0 else 1 : Int) = 1 by rw [hx]; rfl] at hE
      rw [show (if gxc r = 0 then upd2 s1 51 0 r else s1) = s1 by rw [if_neg hx0]] at hE
      exact g_iretH h 16 dL_limit_16 hE rfl ⟨(Nat.le_of_ble_eq_true rfl), (Nat.le_of_ble_eq_true rfl)⟩
  · rw [show (if gxc r = 0 then 0 else 1 : Int) = 0 by rw [if_pos hx0]] at hE
    rw [show (if gxc r = 0 then upd2 s1 51 0 r else s1) = upd2 s1 51 0 r by rw [if_pos hx0]] at hE
    have hr := (rgX7_limit hF).resolve_left (fun q => q hx0)
    show G X 1 6 8 [(10, 0), (0, a_group), (0, a_pages), (60, 0), (1, 0)] [(0, r), (0, 0), (60, 0)] (s1, m)
    refine g_i2l h 8 dL_limit_8 (gRi hr) ?_
    refine as_out h 9 dL_limit_9 (by decide) ?_
    refine g_goto h 10 17 dL_limit_10 (by decide) ?_
    refine g_iconst h 17 dL_limit_17 ?_
    exact g_iretH h 18 dL_limit_18 hE rfl ⟨(Nat.le_of_ble_eq_true rfl), (Nat.le_of_ble_eq_true rfl)⟩
set_option maxRecDepth 100000 in
set_option maxHeartbeats 4000000 in
theorem cw_load {l : Launch} {w : gW} {bs : Nat} (hl : l.stackTraces = false) {a_processor a_space a_address r : Int} {s m s1 : S2} (hF : FX7_load a_processor a_space a_address s = some (r, s1)) (hx : gxc r = 0 ∨ gxc r = 1 ∨ gxc r = 2 ∨ gxc r = 3) : gMetH l w bs yL_load cL_load 6 (some .int) [(0, 12, 15, 21), (0, 12, 19, 13), (0, 12, 23, 15)] 8 4 [(10, 0), (0, a_processor), (0, a_space), (0, a_address), (60, 0)] (s, m) (some (0, (if gxc r = 0 then 0 else if gxc r = 1 then 1 else if gxc r = 2 then 2 else 3 : Int))) ((if gxc r = 0 then upd2 s1 51 0 r else s1), m) := by
  refine g_startH hl (by decide) (Nat.le_of_ble_eq_true rfl) rfl fun X h hE => ?_
  have h : gOk X "PagewrightLaw" cL_load 6 8 4 24 := h
  have hE : gEndH X l w bs 4 (some .int) [(0, 12, 15, 21), (0, 12, 19, 13), (0, 12, 23, 15)] (some (0, (if gxc r = 0 then 0 else if gxc r = 1 then 1 else if gxc r = 2 then 2 else 3 : Int))) ((if gxc r = 0 then upd2 s1 51 0 r else s1), m) := hE
  show G X 0 0 0 [(10, 0), (0, a_processor), (0, a_space), (0, a_address), (60, 0), (1, 0)] [] (s, m)
  refine g_aloadq h 0 dL_load_0 rfl rfl ?_
  refine g_iconst h 2 dL_load_2 ?_
  refine g_aload_nq h 3 dL_load_3 rfl rfl ?_
  refine g_iload_n h 4 dL_load_4 rfl ?_
  refine g_iload_n h 5 dL_load_5 rfl ?_
  refine g_iload_n h 6 dL_load_6 rfl ?_
  refine g_callVH h hE 7 dL_load_7 (ctX7_load hl hF) mwX7_load kw_670 (by decide) (by decide) rfl (Nat.le_of_ble_eq_true rfl) rfl (Nat.le_of_ble_eq_true rfl) ⟨(Nat.le_of_ble_eq_true rfl), (Nat.le_of_ble_eq_true rfl)⟩ rfl rfl (fun hx0 => ?_) (fun hx0 => ?_)
  · rcases hx with hx | hx | hx | hx
    · exact absurd hx hx0
    · refine g_catch h hE 7 _ 1 hx [] ⟨0, 12, 15, 21⟩ [⟨0, 12, 19, 13⟩, ⟨0, 12, 23, 15⟩] rfl (fun z hz => by
      simp at hz) (by decide) (by decide) kw_510 (by decide) (Or.inr ⟨rfl, dL_load_15⟩) (Nat.le_of_ble_eq_true rfl) rfl (L' := [(10, 0), (0, a_processor), (0, a_space), (0, a_address), (60, 0), (1, 0)]) rfl ?_
      refine g_iconst h 17 dL_load_17 ?_
      rw [show (if gxc r = 0 then 0 else if gxc r = 1 then 1 else if gxc r = 2 then 2 else 3 : Int) = 1 by rw [hx]; rfl] at hE
      rw [show (if gxc r = 0 then upd2 s1 51 0 r else s1) = s1 by rw [if_neg hx0]] at hE
      exact g_iretH h 18 dL_load_18 hE rfl ⟨(Nat.le_of_ble_eq_true rfl), (Nat.le_of_ble_eq_true rfl)⟩
    · refine g_catch h hE 7 _ 2 hx [⟨0, 12, 15, 21⟩] ⟨0, 12, 19, 13⟩ [⟨0, 12, 23, 15⟩] rfl (fun z hz => by
      simp only [List.mem_cons, List.not_mem_nil, or_false] at hz
      rcases hz with rfl
      · exact ⟨by decide, "java/lang/IndexOutOfBoundsException", kw_510, by decide⟩) (by decide) (by decide) kw_404 (by decide) (Or.inr ⟨rfl, dL_load_19⟩) (Nat.le_of_ble_eq_true rfl) rfl (L' := [(10, 0), (0, a_processor), (0, a_space), (0, a_address), (60, 0), (1, 0)]) rfl ?_
      refine g_iconst h 21 dL_load_21 ?_
      rw [show (if gxc r = 0 then 0 else if gxc r = 1 then 1 else if gxc r = 2 then 2 else 3 : Int) = 2 by rw [hx]; rfl] at hE
      rw [show (if gxc r = 0 then upd2 s1 51 0 r else s1) = s1 by rw [if_neg hx0]] at hE
      exact g_iretH h 22 dL_load_22 hE rfl ⟨(Nat.le_of_ble_eq_true rfl), (Nat.le_of_ble_eq_true rfl)⟩
    · refine g_catch h hE 7 _ 3 hx [⟨0, 12, 15, 21⟩, ⟨0, 12, 19, 13⟩] ⟨0, 12, 23, 15⟩ [] rfl (fun z hz => by
      simp only [List.mem_cons, List.not_mem_nil, or_false] at hz
      rcases hz with rfl | rfl
      · exact ⟨by decide, "java/lang/IndexOutOfBoundsException", kw_510, by decide⟩
      · exact ⟨by decide, "java/lang/IllegalArgumentException", kw_404, by decide⟩) (by decide) (by decide) kw_405 (by decide) (Or.inr ⟨rfl, dL_load_23⟩) (Nat.le_of_ble_eq_true rfl) rfl (L' := [(10, 0), (0, a_processor), (0, a_space), (0, a_address), (60, 0), (1, 0)]) rfl ?_
      refine g_iconst h 25 dL_load_25 ?_
      rw [show (if gxc r = 0 then 0 else if gxc r = 1 then 1 else if gxc r = 2 then 2 else 3 : Int) = 3 by rw [hx]; rfl] at hE
      rw [show (if gxc r = 0 then upd2 s1 51 0 r else s1) = s1 by rw [if_neg hx0]] at hE
      exact g_iretH h 26 dL_load_26 hE rfl ⟨(Nat.le_of_ble_eq_true rfl), (Nat.le_of_ble_eq_true rfl)⟩
  · rw [show (if gxc r = 0 then 0 else if gxc r = 1 then 1 else if gxc r = 2 then 2 else 3 : Int) = 0 by rw [if_pos hx0]] at hE
    rw [show (if gxc r = 0 then upd2 s1 51 0 r else s1) = upd2 s1 51 0 r by rw [if_pos hx0]] at hE
    have hr := (rgX7_load hF).resolve_left (fun q => q hx0)
    show G X 4 24 10 [(10, 0), (0, a_processor), (0, a_space), (0, a_address), (60, 0), (1, 0)] [(0, r), (0, 0), (60, 0)] (s1, m)
    refine g_i2l h 10 dL_load_10 (gRi hr) ?_
    refine as_out h 11 dL_load_11 (by decide) ?_
    refine g_goto h 12 27 dL_load_12 (by decide) ?_
    refine g_iconst h 27 dL_load_27 ?_
    exact g_iretH h 28 dL_load_28 hE rfl ⟨(Nat.le_of_ble_eq_true rfl), (Nat.le_of_ble_eq_true rfl)⟩
set_option maxRecDepth 100000 in
set_option maxHeartbeats 4000000 in
theorem cw_store {l : Launch} {w : gW} {bs : Nat} (hl : l.stackTraces = false) {a_processor a_space a_address a_value r : Int} {s m s1 : S2} (hF : FX7_store a_processor a_space a_address a_value s = some (r, s1)) (hx : gxc r = 0 ∨ gxc r = 1 ∨ gxc r = 2 ∨ gxc r = 3) : gMetH l w bs yL_store cL_store 7 (some .int) [(0, 14, 17, 21), (0, 14, 21, 13), (0, 14, 25, 15)] 8 4 [(10, 0), (0, a_processor), (0, a_space), (0, a_address), (0, a_value), (60, 0)] (s, m) (some (0, (if gxc r = 0 then 0 else if gxc r = 1 then 1 else if gxc r = 2 then 2 else 3 : Int))) ((if gxc r = 0 then upd2 s1 51 0 r else s1), m) := by
  refine g_startH hl (by decide) (Nat.le_of_ble_eq_true rfl) rfl fun X h hE => ?_
  have h : gOk X "PagewrightLaw" cL_store 7 8 4 24 := h
  have hE : gEndH X l w bs 4 (some .int) [(0, 14, 17, 21), (0, 14, 21, 13), (0, 14, 25, 15)] (some (0, (if gxc r = 0 then 0 else if gxc r = 1 then 1 else if gxc r = 2 then 2 else 3 : Int))) ((if gxc r = 0 then upd2 s1 51 0 r else s1), m) := hE
  show G X 0 0 0 [(10, 0), (0, a_processor), (0, a_space), (0, a_address), (0, a_value), (60, 0), (1, 0)] [] (s, m)
  refine g_aloadq h 0 dL_store_0 rfl rfl ?_
  refine g_iconst h 2 dL_store_2 ?_
  refine g_aload_nq h 3 dL_store_3 rfl rfl ?_
  refine g_iload_n h 4 dL_store_4 rfl ?_
  refine g_iload_n h 5 dL_store_5 rfl ?_
  refine g_iload_n h 6 dL_store_6 rfl ?_
  refine g_iload h 7 dL_store_7 rfl ?_
  refine g_callVH h hE 9 dL_store_9 (ctX7_store hl hF) mwX7_store kw_822 (by decide) (by decide) rfl (Nat.le_of_ble_eq_true rfl) rfl (Nat.le_of_ble_eq_true rfl) ⟨(Nat.le_of_ble_eq_true rfl), (Nat.le_of_ble_eq_true rfl)⟩ rfl rfl (fun hx0 => ?_) (fun hx0 => ?_)
  · rcases hx with hx | hx | hx | hx
    · exact absurd hx hx0
    · refine g_catch h hE 9 _ 1 hx [] ⟨0, 14, 17, 21⟩ [⟨0, 14, 21, 13⟩, ⟨0, 14, 25, 15⟩] rfl (fun z hz => by
      simp at hz) (by decide) (by decide) kw_510 (by decide) (Or.inr ⟨rfl, dL_store_17⟩) (Nat.le_of_ble_eq_true rfl) rfl (L' := [(10, 0), (0, a_processor), (0, a_space), (0, a_address), (0, a_value), (60, 0), (1, 0)]) rfl ?_
      refine g_iconst h 19 dL_store_19 ?_
      rw [show (if gxc r = 0 then 0 else if gxc r = 1 then 1 else if gxc r = 2 then 2 else 3 : Int) = 1 by rw [hx]; rfl] at hE
      rw [show (if gxc r = 0 then upd2 s1 51 0 r else s1) = s1 by rw [if_neg hx0]] at hE
      exact g_iretH h 20 dL_store_20 hE rfl ⟨(Nat.le_of_ble_eq_true rfl), (Nat.le_of_ble_eq_true rfl)⟩
    · refine g_catch h hE 9 _ 2 hx [⟨0, 14, 17, 21⟩] ⟨0, 14, 21, 13⟩ [⟨0, 14, 25, 15⟩] rfl (fun z hz => by
      simp only [List.mem_cons, List.not_mem_nil, or_false] at hz
      rcases hz with rfl
      · exact ⟨by decide, "java/lang/IndexOutOfBoundsException", kw_510, by decide⟩) (by decide) (by decide) kw_404 (by decide) (Or.inr ⟨rfl, dL_store_21⟩) (Nat.le_of_ble_eq_true rfl) rfl (L' := [(10, 0), (0, a_processor), (0, a_space), (0, a_address), (0, a_value), (60, 0), (1, 0)]) rfl ?_
      refine g_iconst h 23 dL_store_23 ?_
      rw [show (if gxc r = 0 then 0 else if gxc r = 1 then 1 else if gxc r = 2 then 2 else 3 : Int) = 2 by rw [hx]; rfl] at hE
      rw [show (if gxc r = 0 then upd2 s1 51 0 r else s1) = s1 by rw [if_neg hx0]] at hE
      exact g_iretH h 24 dL_store_24 hE rfl ⟨(Nat.le_of_ble_eq_true rfl), (Nat.le_of_ble_eq_true rfl)⟩
    · refine g_catch h hE 9 _ 3 hx [⟨0, 14, 17, 21⟩, ⟨0, 14, 21, 13⟩] ⟨0, 14, 25, 15⟩ [] rfl (fun z hz => by
      simp only [List.mem_cons, List.not_mem_nil, or_false] at hz
      rcases hz with rfl | rfl
      · exact ⟨by decide, "java/lang/IndexOutOfBoundsException", kw_510, by decide⟩
      · exact ⟨by decide, "java/lang/IllegalArgumentException", kw_404, by decide⟩) (by decide) (by decide) kw_405 (by decide) (Or.inr ⟨rfl, dL_store_25⟩) (Nat.le_of_ble_eq_true rfl) rfl (L' := [(10, 0), (0, a_processor), (0, a_space), (0, a_address), (0, a_value), (60, 0), (1, 0)]) rfl ?_
      refine g_iconst h 27 dL_store_27 ?_
      rw [show (if gxc r = 0 then 0 else if gxc r = 1 then 1 else if gxc r = 2 then 2 else 3 : Int) = 3 by rw [hx]; rfl] at hE
      rw [show (if gxc r = 0 then upd2 s1 51 0 r else s1) = s1 by rw [if_neg hx0]] at hE
      exact g_iretH h 28 dL_store_28 hE rfl ⟨(Nat.le_of_ble_eq_true rfl), (Nat.le_of_ble_eq_true rfl)⟩
  · rw [show (if gxc r = 0 then 0 else if gxc r = 1 then 1 else if gxc r = 2 then 2 else 3 : Int) = 0 by rw [if_pos hx0]] at hE
    rw [show (if gxc r = 0 then upd2 s1 51 0 r else s1) = upd2 s1 51 0 r by rw [if_pos hx0]] at hE
    have hr := (rgX7_store hF).resolve_left (fun q => q hx0)
    show G X 4 24 12 [(10, 0), (0, a_processor), (0, a_space), (0, a_address), (0, a_value), (60, 0), (1, 0)] [(0, r), (0, 0), (60, 0)] (s1, m)
    refine g_i2l h 12 dL_store_12 (gRi hr) ?_
    refine as_out h 13 dL_store_13 (by decide) ?_
    refine g_goto h 14 29 dL_store_14 (by decide) ?_
    refine g_iconst h 29 dL_store_29 ?_
    exact g_iretH h 30 dL_store_30 hE rfl ⟨(Nat.le_of_ble_eq_true rfl), (Nat.le_of_ble_eq_true rfl)⟩
set_option maxRecDepth 100000 in
set_option maxHeartbeats 4000000 in
theorem cw_read {l : Launch} {w : gW} {bs : Nat} (hl : l.stackTraces = false) {a_file a_index r : Int} {s m s1 : S2} (hF : FX7_read a_file a_index s = some (r, s1)) (hx : gxc r = 0 ∨ gxc r = 2) : gMetH l w bs yL_read cL_read 5 (some .int) [(0, 10, 13, 13)] 8 1 [(10, 0), (0, a_file), (0, a_index), (60, 0)] (s, m) (some (0, (if gxc r = 0 then 0 else 1 : Int))) ((if gxc r = 0 then upd2 s1 51 0 r else s1), m) := by
  refine g_startH hl (by decide) (Nat.le_of_ble_eq_true rfl) rfl fun X h hE => ?_
  have h : gOk X "PagewrightLaw" cL_read 5 8 1 6 := h
  have hE : gEndH X l w bs 1 (some .int) [(0, 10, 13, 13)] (some (0, (if gxc r = 0 then 0 else 1 : Int))) ((if gxc r = 0 then upd2 s1 51 0 r else s1), m) := hE
  show G X 0 0 0 [(10, 0), (0, a_file), (0, a_index), (60, 0), (1, 0)] [] (s, m)
  refine g_aload_nq h 0 dL_read_0 rfl rfl ?_
  refine g_iconst h 1 dL_read_1 ?_
  refine g_aload_nq h 2 dL_read_2 rfl rfl ?_
  refine g_iload_n h 3 dL_read_3 rfl ?_
  refine g_iload_n h 4 dL_read_4 rfl ?_
  refine g_callVH h hE 5 dL_read_5 (ctX7_read hl hF) mwX7_read kw_830 (by decide) (by decide) rfl (Nat.le_of_ble_eq_true rfl) rfl (Nat.le_of_ble_eq_true rfl) ⟨(Nat.le_of_ble_eq_true rfl), (Nat.le_of_ble_eq_true rfl)⟩ rfl rfl (fun hx0 => ?_) (fun hx0 => ?_)
  · rcases hx with hx | hx
    · exact absurd hx hx0
    · refine g_catch h hE 5 _ 2 hx [] ⟨0, 10, 13, 13⟩ [] rfl (fun z hz => by
      simp at hz) (by decide) (by decide) kw_404 (by decide) (Or.inr ⟨rfl, dL_read_13⟩) (Nat.le_of_ble_eq_true rfl) rfl (L' := [(10, 0), (0, a_file), (0, a_index), (60, 0), (1, 0)]) rfl ?_
      refine g_iconst h 15 dL_read_15 ?_
      rw [show (if gxc r = 0 then 0 else 1 : Int) = 1 by rw [hx]; rfl] at hE
      rw [show (if gxc r = 0 then upd2 s1 51 0 r else s1) = s1 by rw [if_neg hx0]] at hE
      exact g_iretH h 16 dL_read_16 hE rfl ⟨(Nat.le_of_ble_eq_true rfl), (Nat.le_of_ble_eq_true rfl)⟩
  · rw [show (if gxc r = 0 then 0 else 1 : Int) = 0 by rw [if_pos hx0]] at hE
    rw [show (if gxc r = 0 then upd2 s1 51 0 r else s1) = upd2 s1 51 0 r by rw [if_pos hx0]] at hE
    have hr := (rgX7_read hF).resolve_left (fun q => q hx0)
    show G X 1 6 8 [(10, 0), (0, a_file), (0, a_index), (60, 0), (1, 0)] [(0, r), (0, 0), (60, 0)] (s1, m)
    refine g_i2l h 8 dL_read_8 (gRi hr) ?_
    refine as_out h 9 dL_read_9 (by decide) ?_
    refine g_goto h 10 17 dL_read_10 (by decide) ?_
    refine g_iconst h 17 dL_read_17 ?_
    exact g_iretH h 18 dL_read_18 hE rfl ⟨(Nat.le_of_ble_eq_true rfl), (Nat.le_of_ble_eq_true rfl)⟩
set_option maxRecDepth 100000 in
set_option maxHeartbeats 4000000 in
theorem cw_write {l : Launch} {w : gW} {bs : Nat} (hl : l.stackTraces = false) {a_file a_index a_value r : Int} {s m s1 : S2} (hF : FX7_write a_file a_index a_value s = some (r, s1)) (hx : gxc r = 0 ∨ gxc r = 2) : gMetH l w bs yL_write cL_write 6 (some .int) [(0, 12, 15, 13)] 8 1 [(10, 0), (0, a_file), (0, a_index), (0, a_value), (60, 0)] (s, m) (some (0, (if gxc r = 0 then 0 else 1 : Int))) ((if gxc r = 0 then upd2 s1 51 0 r else s1), m) := by
  refine g_startH hl (by decide) (Nat.le_of_ble_eq_true rfl) rfl fun X h hE => ?_
  have h : gOk X "PagewrightLaw" cL_write 6 8 1 6 := h
  have hE : gEndH X l w bs 1 (some .int) [(0, 12, 15, 13)] (some (0, (if gxc r = 0 then 0 else 1 : Int))) ((if gxc r = 0 then upd2 s1 51 0 r else s1), m) := hE
  show G X 0 0 0 [(10, 0), (0, a_file), (0, a_index), (0, a_value), (60, 0), (1, 0)] [] (s, m)
  refine g_aloadq h 0 dL_write_0 rfl rfl ?_
  refine g_iconst h 2 dL_write_2 ?_
  refine g_aload_nq h 3 dL_write_3 rfl rfl ?_
  refine g_iload_n h 4 dL_write_4 rfl ?_
  refine g_iload_n h 5 dL_write_5 rfl ?_
  refine g_iload_n h 6 dL_write_6 rfl ?_
  refine g_callVH h hE 7 dL_write_7 (ctX7_write hl hF) mwX7_write kw_844 (by decide) (by decide) rfl (Nat.le_of_ble_eq_true rfl) rfl (Nat.le_of_ble_eq_true rfl) ⟨(Nat.le_of_ble_eq_true rfl), (Nat.le_of_ble_eq_true rfl)⟩ rfl rfl (fun hx0 => ?_) (fun hx0 => ?_)
  · rcases hx with hx | hx
    · exact absurd hx hx0
    · refine g_catch h hE 7 _ 2 hx [] ⟨0, 12, 15, 13⟩ [] rfl (fun z hz => by
      simp at hz) (by decide) (by decide) kw_404 (by decide) (Or.inr ⟨rfl, dL_write_15⟩) (Nat.le_of_ble_eq_true rfl) rfl (L' := [(10, 0), (0, a_file), (0, a_index), (0, a_value), (60, 0), (1, 0)]) rfl ?_
      refine g_iconst h 17 dL_write_17 ?_
      rw [show (if gxc r = 0 then 0 else 1 : Int) = 1 by rw [hx]; rfl] at hE
      rw [show (if gxc r = 0 then upd2 s1 51 0 r else s1) = s1 by rw [if_neg hx0]] at hE
      exact g_iretH h 18 dL_write_18 hE rfl ⟨(Nat.le_of_ble_eq_true rfl), (Nat.le_of_ble_eq_true rfl)⟩
  · rw [show (if gxc r = 0 then 0 else 1 : Int) = 0 by rw [if_pos hx0]] at hE
    rw [show (if gxc r = 0 then upd2 s1 51 0 r else s1) = upd2 s1 51 0 r by rw [if_pos hx0]] at hE
    have hr := (rgX7_write hF).resolve_left (fun q => q hx0)
    show G X 1 6 10 [(10, 0), (0, a_file), (0, a_index), (0, a_value), (60, 0), (1, 0)] [(0, r), (0, 0), (60, 0)] (s1, m)
    refine g_i2l h 10 dL_write_10 (gRi hr) ?_
    refine as_out h 11 dL_write_11 (by decide) ?_
    refine g_goto h 12 19 dL_write_12 (by decide) ?_
    refine g_iconst h 19 dL_write_19 ?_
    exact g_iretH h 20 dL_write_20 hE rfl ⟨(Nat.le_of_ble_eq_true rfl), (Nat.le_of_ble_eq_true rfl)⟩
set_option maxRecDepth 100000 in
set_option maxHeartbeats 4000000 in
theorem cw_sync {l : Launch} {w : gW} {bs : Nat} (hl : l.stackTraces = false) {a_file r : Int} {s m s1 : S2} (hF : FX7_sync a_file s = some (r, s1)) (hx : gxc r = 0 ∨ gxc r = 2) : gMetH l w bs yL_sync cL_sync 4 (some .int) [(0, 9, 12, 13)] 8 1 [(10, 0), (0, a_file), (60, 0)] (s, m) (some (0, (if gxc r = 0 then 0 else 1 : Int))) ((if gxc r = 0 then upd2 s1 51 0 r else s1), m) := by
  refine g_startH hl (by decide) (Nat.le_of_ble_eq_true rfl) rfl fun X h hE => ?_
  have h : gOk X "PagewrightLaw" cL_sync 4 8 1 6 := h
  have hE : gEndH X l w bs 1 (some .int) [(0, 9, 12, 13)] (some (0, (if gxc r = 0 then 0 else 1 : Int))) ((if gxc r = 0 then upd2 s1 51 0 r else s1), m) := hE
  show G X 0 0 0 [(10, 0), (0, a_file), (60, 0), (1, 0)] [] (s, m)
  refine g_aload_nq h 0 dL_sync_0 rfl rfl ?_
  refine g_iconst h 1 dL_sync_1 ?_
  refine g_aload_nq h 2 dL_sync_2 rfl rfl ?_
  refine g_iload_n h 3 dL_sync_3 rfl ?_
  refine g_callVH h hE 4 dL_sync_4 (ctX7_sync hl hF) mwX7_sync kw_851 (by decide) (by decide) rfl (Nat.le_of_ble_eq_true rfl) rfl (Nat.le_of_ble_eq_true rfl) ⟨(Nat.le_of_ble_eq_true rfl), (Nat.le_of_ble_eq_true rfl)⟩ rfl rfl (fun hx0 => ?_) (fun hx0 => ?_)
  · rcases hx with hx | hx
    · exact absurd hx hx0
    · refine g_catch h hE 4 _ 2 hx [] ⟨0, 9, 12, 13⟩ [] rfl (fun z hz => by
      simp at hz) (by decide) (by decide) kw_404 (by decide) (Or.inl ⟨3, rfl, rfl, dL_sync_12⟩) (Nat.le_of_ble_eq_true rfl) rfl (L' := [(10, 0), (0, a_file), (60, 0), (1, 0)]) rfl ?_
      refine g_iconst h 13 dL_sync_13 ?_
      rw [show (if gxc r = 0 then 0 else 1 : Int) = 1 by rw [hx]; rfl] at hE
      rw [show (if gxc r = 0 then upd2 s1 51 0 r else s1) = s1 by rw [if_neg hx0]] at hE
      exact g_iretH h 14 dL_sync_14 hE rfl ⟨(Nat.le_of_ble_eq_true rfl), (Nat.le_of_ble_eq_true rfl)⟩
  · rw [show (if gxc r = 0 then 0 else 1 : Int) = 0 by rw [if_pos hx0]] at hE
    rw [show (if gxc r = 0 then upd2 s1 51 0 r else s1) = upd2 s1 51 0 r by rw [if_pos hx0]] at hE
    have hr := (rgX7_sync hF).resolve_left (fun q => q hx0)
    show G X 1 6 7 [(10, 0), (0, a_file), (60, 0), (1, 0)] [(0, r), (0, 0), (60, 0)] (s1, m)
    refine g_i2l h 7 dL_sync_7 (gRi hr) ?_
    refine as_out h 8 dL_sync_8 (by decide) ?_
    refine g_goto h 9 15 dL_sync_9 (by decide) ?_
    refine g_iconst h 15 dL_sync_15 ?_
    exact g_iretH h 16 dL_sync_16 hE rfl ⟨(Nat.le_of_ble_eq_true rfl), (Nat.le_of_ble_eq_true rfl)⟩
set_option maxRecDepth 100000 in
set_option maxHeartbeats 4000000 in
theorem cw_disk {l : Launch} {w : gW} {bs : Nat} (hl : l.stackTraces = false) {a_file a_index r : Int} {s m s1 : S2} (hF : FX7_disk a_file a_index s = some (r, s1)) (hx : gxc r = 0 ∨ gxc r = 2) : gMetH l w bs yL_disk cL_disk 5 (some .int) [(0, 10, 13, 13)] 8 1 [(10, 0), (0, a_file), (0, a_index), (60, 0)] (s, m) (some (0, (if gxc r = 0 then 0 else 1 : Int))) ((if gxc r = 0 then upd2 s1 51 0 r else s1), m) := by
  refine g_startH hl (by decide) (Nat.le_of_ble_eq_true rfl) rfl fun X h hE => ?_
  have h : gOk X "PagewrightLaw" cL_disk 5 8 1 6 := h
  have hE : gEndH X l w bs 1 (some .int) [(0, 10, 13, 13)] (some (0, (if gxc r = 0 then 0 else 1 : Int))) ((if gxc r = 0 then upd2 s1 51 0 r else s1), m) := hE
  show G X 0 0 0 [(10, 0), (0, a_file), (0, a_index), (60, 0), (1, 0)] [] (s, m)
  refine g_aload_nq h 0 dL_disk_0 rfl rfl ?_
  refine g_iconst h 1 dL_disk_1 ?_
  refine g_aload_nq h 2 dL_disk_2 rfl rfl ?_
  refine g_iload_n h 3 dL_disk_3 rfl ?_
  refine g_iload_n h 4 dL_disk_4 rfl ?_
  refine g_callVH h hE 5 dL_disk_5 (ctX7_disk hl hF) mwX7_disk kw_862 (by decide) (by decide) rfl (Nat.le_of_ble_eq_true rfl) rfl (Nat.le_of_ble_eq_true rfl) ⟨(Nat.le_of_ble_eq_true rfl), (Nat.le_of_ble_eq_true rfl)⟩ rfl rfl (fun hx0 => ?_) (fun hx0 => ?_)
  · rcases hx with hx | hx
    · exact absurd hx hx0
    · refine g_catch h hE 5 _ 2 hx [] ⟨0, 10, 13, 13⟩ [] rfl (fun z hz => by
      simp at hz) (by decide) (by decide) kw_404 (by decide) (Or.inr ⟨rfl, dL_disk_13⟩) (Nat.le_of_ble_eq_true rfl) rfl (L' := [(10, 0), (0, a_file), (0, a_index), (60, 0), (1, 0)]) rfl ?_
      refine g_iconst h 15 dL_disk_15 ?_
      rw [show (if gxc r = 0 then 0 else 1 : Int) = 1 by rw [hx]; rfl] at hE
      rw [show (if gxc r = 0 then upd2 s1 51 0 r else s1) = s1 by rw [if_neg hx0]] at hE
      exact g_iretH h 16 dL_disk_16 hE rfl ⟨(Nat.le_of_ble_eq_true rfl), (Nat.le_of_ble_eq_true rfl)⟩
  · rw [show (if gxc r = 0 then 0 else 1 : Int) = 0 by rw [if_pos hx0]] at hE
    rw [show (if gxc r = 0 then upd2 s1 51 0 r else s1) = upd2 s1 51 0 r by rw [if_pos hx0]] at hE
    have hr := (rgX7_disk hF).resolve_left (fun q => q hx0)
    show G X 1 6 8 [(10, 0), (0, a_file), (0, a_index), (60, 0), (1, 0)] [(0, r), (0, 0), (60, 0)] (s1, m)
    refine g_i2l h 8 dL_disk_8 (gRi hr) ?_
    refine as_out h 9 dL_disk_9 (by decide) ?_
    refine g_goto h 10 17 dL_disk_10 (by decide) ?_
    refine g_iconst h 17 dL_disk_17 ?_
    exact g_iretH h 18 dL_disk_18 hE rfl ⟨(Nat.le_of_ble_eq_true rfl), (Nat.le_of_ble_eq_true rfl)⟩
set_option maxRecDepth 100000 in
set_option maxHeartbeats 4000000 in
theorem cw_reclaim {l : Launch} {w : gW} {bs : Nat} (hl : l.stackTraces = false) {a_pages r : Int} {s m s1 : S2} (hF : FX7_reclaim a_pages s = some (r, s1)) (hx : gxc r = 0 ∨ gxc r = 2) : gMetH l w bs yL_reclaim cL_reclaim 4 (some .int) [(0, 9, 12, 13)] 8 1 [(10, 0), (0, a_pages), (60, 0)] (s, m) (some (0, (if gxc r = 0 then 0 else 1 : Int))) ((if gxc r = 0 then upd2 s1 51 0 r else s1), m) := by
  refine g_startH hl (by decide) (Nat.le_of_ble_eq_true rfl) rfl fun X h hE => ?_
  have h : gOk X "PagewrightLaw" cL_reclaim 4 8 1 6 := h
  have hE : gEndH X l w bs 1 (some .int) [(0, 9, 12, 13)] (some (0, (if gxc r = 0 then 0 else 1 : Int))) ((if gxc r = 0 then upd2 s1 51 0 r else s1), m) := hE
  show G X 0 0 0 [(10, 0), (0, a_pages), (60, 0), (1, 0)] [] (s, m)
  refine g_aload_nq h 0 dL_reclaim_0 rfl rfl ?_
  refine g_iconst h 1 dL_reclaim_1 ?_
  refine g_aload_nq h 2 dL_reclaim_2 rfl rfl ?_
  refine g_iload_n h 3 dL_reclaim_3 rfl ?_
  refine g_callVH h hE 4 dL_reclaim_4 (ctX7_reclaim hl hF) mwX7_reclaim kw_869 (by decide) (by decide) rfl (Nat.le_of_ble_eq_true rfl) rfl (Nat.le_of_ble_eq_true rfl) ⟨(Nat.le_of_ble_eq_true rfl), (Nat.le_of_ble_eq_true rfl)⟩ rfl rfl (fun hx0 => ?_) (fun hx0 => ?_)
  · rcases hx with hx | hx
    · exact absurd hx hx0
    · refine g_catch h hE 4 _ 2 hx [] ⟨0, 9, 12, 13⟩ [] rfl (fun z hz => by
      simp at hz) (by decide) (by decide) kw_404 (by decide) (Or.inl ⟨3, rfl, rfl, dL_reclaim_12⟩) (Nat.le_of_ble_eq_true rfl) rfl (L' := [(10, 0), (0, a_pages), (60, 0), (1, 0)]) rfl ?_
      refine g_iconst h 13 dL_reclaim_13 ?_
      rw [show (if gxc r = 0 then 0 else 1 : Int) = 1 by rw [hx]; rfl] at hE
      rw [show (if gxc r = 0 then upd2 s1 51 0 r else s1) = s1 by rw [if_neg hx0]] at hE
      exact g_iretH h 14 dL_reclaim_14 hE rfl ⟨(Nat.le_of_ble_eq_true rfl), (Nat.le_of_ble_eq_true rfl)⟩
  · rw [show (if gxc r = 0 then 0 else 1 : Int) = 0 by rw [if_pos hx0]] at hE
    rw [show (if gxc r = 0 then upd2 s1 51 0 r else s1) = upd2 s1 51 0 r by rw [if_pos hx0]] at hE
    have hr := (rgX7_reclaim hF).resolve_left (fun q => q hx0)
    show G X 1 6 7 [(10, 0), (0, a_pages), (60, 0), (1, 0)] [(0, r), (0, 0), (60, 0)] (s1, m)
    refine g_i2l h 7 dL_reclaim_7 (gRi hr) ?_
    refine as_out h 8 dL_reclaim_8 (by decide) ?_
    refine g_goto h 9 15 dL_reclaim_9 (by decide) ?_
    refine g_iconst h 15 dL_reclaim_15 ?_
    exact g_iretH h 16 dL_reclaim_16 hE rfl ⟨(Nat.le_of_ble_eq_true rfl), (Nat.le_of_ble_eq_true rfl)⟩
set_option maxRecDepth 100000 in
set_option maxHeartbeats 4000000 in
theorem cw_handle {l : Launch} {w : gW} {bs : Nat} (hl : l.stackTraces = false) {a_processor r : Int} {s m s1 : S2} (hF : FX7_handle a_processor s = some (r, s1)) (hx : gxc r = 0 ∨ gxc r = 1) : gMetH l w bs yL_handle cL_handle 4 (some .int) [(0, 9, 12, 21)] 8 1 [(10, 0), (0, a_processor), (60, 0)] (s, m) (some (0, (if gxc r = 0 then 0 else 1 : Int))) ((if gxc r = 0 then upd2 s1 51 0 r else s1), m) := by
  refine g_startH hl (by decide) (Nat.le_of_ble_eq_true rfl) rfl fun X h hE => ?_
  have h : gOk X "PagewrightLaw" cL_handle 4 8 1 6 := h
  have hE : gEndH X l w bs 1 (some .int) [(0, 9, 12, 21)] (some (0, (if gxc r = 0 then 0 else 1 : Int))) ((if gxc r = 0 then upd2 s1 51 0 r else s1), m) := hE
  show G X 0 0 0 [(10, 0), (0, a_processor), (60, 0), (1, 0)] [] (s, m)
  refine g_aload_nq h 0 dL_handle_0 rfl rfl ?_
  refine g_iconst h 1 dL_handle_1 ?_
  refine g_aload_nq h 2 dL_handle_2 rfl rfl ?_
  refine g_iload_n h 3 dL_handle_3 rfl ?_
  refine g_callVH h hE 4 dL_handle_4 (ctX7_handle hl hF) mwX7_handle kw_876 (by decide) (by decide) rfl (Nat.le_of_ble_eq_true rfl) rfl (Nat.le_of_ble_eq_true rfl) ⟨(Nat.le_of_ble_eq_true rfl), (Nat.le_of_ble_eq_true rfl)⟩ rfl rfl (fun hx0 => ?_) (fun hx0 => ?_)
  · rcases hx with hx | hx
    · exact absurd hx hx0
    · refine g_catch h hE 4 _ 1 hx [] ⟨0, 9, 12, 21⟩ [] rfl (fun z hz => by
      simp at hz) (by decide) (by decide) kw_510 (by decide) (Or.inl ⟨3, rfl, rfl, dL_handle_12⟩) (Nat.le_of_ble_eq_true rfl) rfl (L' := [(10, 0), (0, a_processor), (60, 0), (1, 0)]) rfl ?_
      refine g_iconst h 13 dL_handle_13 ?_
      rw [show (if gxc r = 0 then 0 else 1 : Int) = 1 by rw [hx]; rfl] at hE
      rw [show (if gxc r = 0 then upd2 s1 51 0 r else s1) = s1 by rw [if_neg hx0]] at hE
      exact g_iretH h 14 dL_handle_14 hE rfl ⟨(Nat.le_of_ble_eq_true rfl), (Nat.le_of_ble_eq_true rfl)⟩
  · rw [show (if gxc r = 0 then 0 else 1 : Int) = 0 by rw [if_pos hx0]] at hE
    rw [show (if gxc r = 0 then upd2 s1 51 0 r else s1) = upd2 s1 51 0 r by rw [if_pos hx0]] at hE
    have hr := (rgX7_handle hF).resolve_left (fun q => q hx0)
    show G X 1 6 7 [(10, 0), (0, a_processor), (60, 0), (1, 0)] [(0, r), (0, 0), (60, 0)] (s1, m)
    refine g_i2l h 7 dL_handle_7 (gRi hr) ?_
    refine as_out h 8 dL_handle_8 (by decide) ?_
    refine g_goto h 9 15 dL_handle_9 (by decide) ?_
    refine g_iconst h 15 dL_handle_15 ?_
    exact g_iretH h 16 dL_handle_16 hE rfl ⟨(Nat.le_of_ble_eq_true rfl), (Nat.le_of_ble_eq_true rfl)⟩
set_option maxRecDepth 100000 in
set_option maxHeartbeats 4000000 in
theorem cw_join {l : Launch} {w : gW} {bs : Nat} (hl : l.stackTraces = false) {a_space a_address r : Int} {s m s1 : S2} (hF : FX7_join a_space a_address s = some (r, s1)) (hx : gxc r = 0 ∨ gxc r = 1 ∨ gxc r = 2 ∨ gxc r = 3) : gMetH l w bs yL_join cL_join 5 (some .int) [(0, 10, 13, 21), (0, 10, 17, 13), (0, 10, 21, 15)] 8 3 [(10, 0), (0, a_space), (0, a_address), (60, 0)] (s, m) (some (0, (if gxc r = 0 then 0 else if gxc r = 1 then 1 else if gxc r = 2 then 2 else 3 : Int))) ((if gxc r = 0 then upd2 s1 51 0 r else s1), m) := by
  refine g_startH hl (by decide) (Nat.le_of_ble_eq_true rfl) rfl fun X h hE => ?_
  have h : gOk X "PagewrightLaw" cL_join 5 8 3 18 := h
  have hE : gEndH X l w bs 3 (some .int) [(0, 10, 13, 21), (0, 10, 17, 13), (0, 10, 21, 15)] (some (0, (if gxc r = 0 then 0 else if gxc r = 1 then 1 else if gxc r = 2 then 2 else 3 : Int))) ((if gxc r = 0 then upd2 s1 51 0 r else s1), m) := hE
  show G X 0 0 0 [(10, 0), (0, a_space), (0, a_address), (60, 0), (1, 0)] [] (s, m)
  refine g_aload_nq h 0 dL_join_0 rfl rfl ?_
  refine g_iconst h 1 dL_join_1 ?_
  refine g_aload_nq h 2 dL_join_2 rfl rfl ?_
  refine g_iload_n h 3 dL_join_3 rfl ?_
  refine g_iload_n h 4 dL_join_4 rfl ?_
  refine g_callVH h hE 5 dL_join_5 (ctX7_join hl hF) mwX7_join kw_883 (by decide) (by decide) rfl (Nat.le_of_ble_eq_true rfl) rfl (Nat.le_of_ble_eq_true rfl) ⟨(Nat.le_of_ble_eq_true rfl), (Nat.le_of_ble_eq_true rfl)⟩ rfl rfl (fun hx0 => ?_) (fun hx0 => ?_)
  · rcases hx with hx | hx | hx | hx
    · exact absurd hx hx0
    · refine g_catch h hE 5 _ 1 hx [] ⟨0, 10, 13, 21⟩ [⟨0, 10, 17, 13⟩, ⟨0, 10, 21, 15⟩] rfl (fun z hz => by
      simp at hz) (by decide) (by decide) kw_510 (by decide) (Or.inr ⟨rfl, dL_join_13⟩) (Nat.le_of_ble_eq_true rfl) rfl (L' := [(10, 0), (0, a_space), (0, a_address), (60, 0), (1, 0)]) rfl ?_
      refine g_iconst h 15 dL_join_15 ?_
      rw [show (if gxc r = 0 then 0 else if gxc r = 1 then 1 else if gxc r = 2 then 2 else 3 : Int) = 1 by rw [hx]; rfl] at hE
      rw [show (if gxc r = 0 then upd2 s1 51 0 r else s1) = s1 by rw [if_neg hx0]] at hE
      exact g_iretH h 16 dL_join_16 hE rfl ⟨(Nat.le_of_ble_eq_true rfl), (Nat.le_of_ble_eq_true rfl)⟩
    · refine g_catch h hE 5 _ 2 hx [⟨0, 10, 13, 21⟩] ⟨0, 10, 17, 13⟩ [⟨0, 10, 21, 15⟩] rfl (fun z hz => by
      simp only [List.mem_cons, List.not_mem_nil, or_false] at hz
      rcases hz with rfl
      · exact ⟨by decide, "java/lang/IndexOutOfBoundsException", kw_510, by decide⟩) (by decide) (by decide) kw_404 (by decide) (Or.inr ⟨rfl, dL_join_17⟩) (Nat.le_of_ble_eq_true rfl) rfl (L' := [(10, 0), (0, a_space), (0, a_address), (60, 0), (1, 0)]) rfl ?_
      refine g_iconst h 19 dL_join_19 ?_
      rw [show (if gxc r = 0 then 0 else if gxc r = 1 then 1 else if gxc r = 2 then 2 else 3 : Int) = 2 by rw [hx]; rfl] at hE
      rw [show (if gxc r = 0 then upd2 s1 51 0 r else s1) = s1 by rw [if_neg hx0]] at hE
      exact g_iretH h 20 dL_join_20 hE rfl ⟨(Nat.le_of_ble_eq_true rfl), (Nat.le_of_ble_eq_true rfl)⟩
    · refine g_catch h hE 5 _ 3 hx [⟨0, 10, 13, 21⟩, ⟨0, 10, 17, 13⟩] ⟨0, 10, 21, 15⟩ [] rfl (fun z hz => by
      simp only [List.mem_cons, List.not_mem_nil, or_false] at hz
      rcases hz with rfl | rfl
      · exact ⟨by decide, "java/lang/IndexOutOfBoundsException", kw_510, by decide⟩
      · exact ⟨by decide, "java/lang/IllegalArgumentException", kw_404, by decide⟩) (by decide) (by decide) kw_405 (by decide) (Or.inr ⟨rfl, dL_join_21⟩) (Nat.le_of_ble_eq_true rfl) rfl (L' := [(10, 0), (0, a_space), (0, a_address), (60, 0), (1, 0)]) rfl ?_
      refine g_iconst h 23 dL_join_23 ?_
      rw [show (if gxc r = 0 then 0 else if gxc r = 1 then 1 else if gxc r = 2 then 2 else 3 : Int) = 3 by rw [hx]; rfl] at hE
      rw [show (if gxc r = 0 then upd2 s1 51 0 r else s1) = s1 by rw [if_neg hx0]] at hE
      exact g_iretH h 24 dL_join_24 hE rfl ⟨(Nat.le_of_ble_eq_true rfl), (Nat.le_of_ble_eq_true rfl)⟩
  · rw [show (if gxc r = 0 then 0 else if gxc r = 1 then 1 else if gxc r = 2 then 2 else 3 : Int) = 0 by rw [if_pos hx0]] at hE
    rw [show (if gxc r = 0 then upd2 s1 51 0 r else s1) = upd2 s1 51 0 r by rw [if_pos hx0]] at hE
    have hr := (rgX7_join hF).resolve_left (fun q => q hx0)
    show G X 3 18 8 [(10, 0), (0, a_space), (0, a_address), (60, 0), (1, 0)] [(0, r), (0, 0), (60, 0)] (s1, m)
    refine g_i2l h 8 dL_join_8 (gRi hr) ?_
    refine as_out h 9 dL_join_9 (by decide) ?_
    refine g_goto h 10 25 dL_join_10 (by decide) ?_
    refine g_iconst h 25 dL_join_25 ?_
    exact g_iretH h 26 dL_join_26 hE rfl ⟨(Nat.le_of_ble_eq_true rfl), (Nat.le_of_ble_eq_true rfl)⟩
set_option maxRecDepth 100000 in
set_option maxHeartbeats 4000000 in
theorem cw_merge {l : Launch} {w : gW} {bs : Nat} (hl : l.stackTraces = false) {a_space a_is r : Int} {s m s1 : S2} (hF : FX7_merge a_space a_is s = some (r, s1)) (hx : gxc r = 0 ∨ gxc r = 1) : gMetH l w bs yL_merge cL_merge 4 (some .int) [(0, 6, 9, 21)] 8 1 [(10, 0), (0, a_space), (0, a_is)] (s, m) (some (0, (if gxc r = 0 then 0 else 1 : Int))) (s1, m) := by
  refine g_startH hl (by decide) (Nat.le_of_ble_eq_true rfl) rfl fun X h hE => ?_
  have h : gOk X "PagewrightLaw" cL_merge 4 8 1 6 := h
  have hE : gEndH X l w bs 1 (some .int) [(0, 6, 9, 21)] (some (0, (if gxc r = 0 then 0 else 1 : Int))) (s1, m) := hE
  show G X 0 0 0 [(10, 0), (0, a_space), (0, a_is), (1, 0)] [] (s, m)
  refine g_aload_nq h 0 dL_merge_0 rfl rfl ?_
  refine g_iload_n h 1 dL_merge_1 rfl ?_
  refine g_iload_n h 2 dL_merge_2 rfl ?_
  refine g_callVH h hE 3 dL_merge_3 (ctX7_merge hl hF) mwX7_merge kw_906 (by decide) (by decide) rfl (Nat.le_of_ble_eq_true rfl) rfl (Nat.le_of_ble_eq_true rfl) ⟨(Nat.le_of_ble_eq_true rfl), (Nat.le_of_ble_eq_true rfl)⟩ rfl rfl (fun hx0 => ?_) (fun hx0 => ?_)
  · rcases hx with hx | hx
    · exact absurd hx hx0
    · refine g_catch h hE 3 _ 1 hx [] ⟨0, 6, 9, 21⟩ [] rfl (fun z hz => by
      simp at hz) (by decide) (by decide) kw_510 (by decide) (Or.inl ⟨3, rfl, rfl, dL_merge_9⟩) (Nat.le_of_ble_eq_true rfl) rfl (L' := [(10, 0), (0, a_space), (0, a_is), (1, 0)]) rfl ?_
      refine g_iconst h 10 dL_merge_10 ?_
      rw [show (if gxc r = 0 then 0 else 1 : Int) = 1 by rw [hx]; rfl] at hE
      exact g_iretH h 11 dL_merge_11 hE rfl ⟨(Nat.le_of_ble_eq_true rfl), (Nat.le_of_ble_eq_true rfl)⟩
  · rw [show (if gxc r = 0 then 0 else 1 : Int) = 0 by rw [if_pos hx0]] at hE
    show G X 1 6 6 [(10, 0), (0, a_space), (0, a_is), (1, 0)] [] (s1, m)
    refine g_goto h 6 12 dL_merge_6 (by decide) ?_
    refine g_iconst h 12 dL_merge_12 ?_
    exact g_iretH h 13 dL_merge_13 hE rfl ⟨(Nat.le_of_ble_eq_true rfl), (Nat.le_of_ble_eq_true rfl)⟩
set_option maxRecDepth 100000 in
set_option maxHeartbeats 4000000 in
theorem cw_scan {l : Launch} {w : gW} {bs : Nat} (hl : l.stackTraces = false) {a_addresses r : Int} {s m s1 : S2} (hF : FX7_scan a_addresses s = some (r, s1)) (hx : gxc r = 0 ∨ gxc r = 2) : gMetH l w bs yL_scan cL_scan 4 (some .int) [(0, 9, 12, 13)] 8 1 [(10, 0), (0, a_addresses), (60, 0)] (s, m) (some (0, (if gxc r = 0 then 0 else 1 : Int))) ((if gxc r = 0 then upd2 s1 51 0 r else s1), m) := by
  refine g_startH hl (by decide) (Nat.le_of_ble_eq_true rfl) rfl fun X h hE => ?_
  have h : gOk X "PagewrightLaw" cL_scan 4 8 1 6 := h
  have hE : gEndH X l w bs 1 (some .int) [(0, 9, 12, 13)] (some (0, (if gxc r = 0 then 0 else 1 : Int))) ((if gxc r = 0 then upd2 s1 51 0 r else s1), m) := hE
  show G X 0 0 0 [(10, 0), (0, a_addresses), (60, 0), (1, 0)] [] (s, m)
  refine g_aload_nq h 0 dL_scan_0 rfl rfl ?_
  refine g_iconst h 1 dL_scan_1 ?_
  refine g_aload_nq h 2 dL_scan_2 rfl rfl ?_
  refine g_iload_n h 3 dL_scan_3 rfl ?_
  refine g_callVH h hE 4 dL_scan_4 (ctX7_scan hl hF) mwX7_scan kw_913 (by decide) (by decide) rfl (Nat.le_of_ble_eq_true rfl) rfl (Nat.le_of_ble_eq_true rfl) ⟨(Nat.le_of_ble_eq_true rfl), (Nat.le_of_ble_eq_true rfl)⟩ rfl rfl (fun hx0 => ?_) (fun hx0 => ?_)
  · rcases hx with hx | hx
    · exact absurd hx hx0
    · refine g_catch h hE 4 _ 2 hx [] ⟨0, 9, 12, 13⟩ [] rfl (fun z hz => by
      simp at hz) (by decide) (by decide) kw_404 (by decide) (Or.inl ⟨3, rfl, rfl, dL_scan_12⟩) (Nat.le_of_ble_eq_true rfl) rfl (L' := [(10, 0), (0, a_addresses), (60, 0), (1, 0)]) rfl ?_
      refine g_iconst h 13 dL_scan_13 ?_
      rw [show (if gxc r = 0 then 0 else 1 : Int) = 1 by rw [hx]; rfl] at hE
      rw [show (if gxc r = 0 then upd2 s1 51 0 r else s1) = s1 by rw [if_neg hx0]] at hE
      exact g_iretH h 14 dL_scan_14 hE rfl ⟨(Nat.le_of_ble_eq_true rfl), (Nat.le_of_ble_eq_true rfl)⟩
  · rw [show (if gxc r = 0 then 0 else 1 : Int) = 0 by rw [if_pos hx0]] at hE
    rw [show (if gxc r = 0 then upd2 s1 51 0 r else s1) = upd2 s1 51 0 r by rw [if_pos hx0]] at hE
    have hr := (rgX7_scan hF).resolve_left (fun q => q hx0)
    show G X 1 6 7 [(10, 0), (0, a_addresses), (60, 0), (1, 0)] [(0, r), (0, 0), (60, 0)] (s1, m)
    refine g_i2l h 7 dL_scan_7 (gRi hr) ?_
    refine as_out h 8 dL_scan_8 (by decide) ?_
    refine g_goto h 9 15 dL_scan_9 (by decide) ?_
    refine g_iconst h 15 dL_scan_15 ?_
    exact g_iretH h 16 dL_scan_16 hE rfl ⟨(Nat.le_of_ble_eq_true rfl), (Nat.le_of_ble_eq_true rfl)⟩
set_option maxRecDepth 100000 in
set_option maxHeartbeats 4000000 in
theorem cw_entry {l : Launch} {w : gW} {bs : Nat} (hl : l.stackTraces = false) {a_space a_address a_what r : Int} {s m s1 : S2} (hF : FX7_entry a_space a_address a_what s = some (r, s1)) (hx : gxc r = 0 ∨ gxc r = 1 ∨ gxc r = 2) : gMetH l w bs yL_entry cL_entry 6 (some .int) [(0, 12, 15, 21), (0, 12, 19, 13)] 8 2 [(10, 0), (0, a_space), (0, a_address), (0, a_what), (60, 0)] (s, m) (some (0, (if gxc r = 0 then 0 else if gxc r = 1 then 1 else 2 : Int))) ((if gxc r = 0 then upd2 s1 51 0 r else s1), m) := by
  refine g_startH hl (by decide) (Nat.le_of_ble_eq_true rfl) rfl fun X h hE => ?_
  have h : gOk X "PagewrightLaw" cL_entry 6 8 2 12 := h
  have hE : gEndH X l w bs 2 (some .int) [(0, 12, 15, 21), (0, 12, 19, 13)] (some (0, (if gxc r = 0 then 0 else if gxc r = 1 then 1 else 2 : Int))) ((if gxc r = 0 then upd2 s1 51 0 r else s1), m) := hE
  show G X 0 0 0 [(10, 0), (0, a_space), (0, a_address), (0, a_what), (60, 0), (1, 0)] [] (s, m)
  refine g_aloadq h 0 dL_entry_0 rfl rfl ?_
  refine g_iconst h 2 dL_entry_2 ?_
  refine g_aload_nq h 3 dL_entry_3 rfl rfl ?_
  refine g_iload_n h 4 dL_entry_4 rfl ?_
  refine g_iload_n h 5 dL_entry_5 rfl ?_
  refine g_iload_n h 6 dL_entry_6 rfl ?_
  refine g_callVH h hE 7 dL_entry_7 (ctX7_entry hl hF) mwX7_entry kw_944 (by decide) (by decide) rfl (Nat.le_of_ble_eq_true rfl) rfl (Nat.le_of_ble_eq_true rfl) ⟨(Nat.le_of_ble_eq_true rfl), (Nat.le_of_ble_eq_true rfl)⟩ rfl rfl (fun hx0 => ?_) (fun hx0 => ?_)
  · rcases hx with hx | hx | hx
    · exact absurd hx hx0
    · refine g_catch h hE 7 _ 1 hx [] ⟨0, 12, 15, 21⟩ [⟨0, 12, 19, 13⟩] rfl (fun z hz => by
      simp at hz) (by decide) (by decide) kw_510 (by decide) (Or.inr ⟨rfl, dL_entry_15⟩) (Nat.le_of_ble_eq_true rfl) rfl (L' := [(10, 0), (0, a_space), (0, a_address), (0, a_what), (60, 0), (1, 0)]) rfl ?_
      refine g_iconst h 17 dL_entry_17 ?_
      rw [show (if gxc r = 0 then 0 else if gxc r = 1 then 1 else 2 : Int) = 1 by rw [hx]; rfl] at hE
      rw [show (if gxc r = 0 then upd2 s1 51 0 r else s1) = s1 by rw [if_neg hx0]] at hE
      exact g_iretH h 18 dL_entry_18 hE rfl ⟨(Nat.le_of_ble_eq_true rfl), (Nat.le_of_ble_eq_true rfl)⟩
    · refine g_catch h hE 7 _ 2 hx [⟨0, 12, 15, 21⟩] ⟨0, 12, 19, 13⟩ [] rfl (fun z hz => by
      simp only [List.mem_cons, List.not_mem_nil, or_false] at hz
      rcases hz with rfl
      · exact ⟨by decide, "java/lang/IndexOutOfBoundsException", kw_510, by decide⟩) (by decide) (by decide) kw_404 (by decide) (Or.inr ⟨rfl, dL_entry_19⟩) (Nat.le_of_ble_eq_true rfl) rfl (L' := [(10, 0), (0, a_space), (0, a_address), (0, a_what), (60, 0), (1, 0)]) rfl ?_
      refine g_iconst h 21 dL_entry_21 ?_
      rw [show (if gxc r = 0 then 0 else if gxc r = 1 then 1 else 2 : Int) = 2 by rw [hx]; rfl] at hE
      rw [show (if gxc r = 0 then upd2 s1 51 0 r else s1) = s1 by rw [if_neg hx0]] at hE
      exact g_iretH h 22 dL_entry_22 hE rfl ⟨(Nat.le_of_ble_eq_true rfl), (Nat.le_of_ble_eq_true rfl)⟩
  · rw [show (if gxc r = 0 then 0 else if gxc r = 1 then 1 else 2 : Int) = 0 by rw [if_pos hx0]] at hE
    rw [show (if gxc r = 0 then upd2 s1 51 0 r else s1) = upd2 s1 51 0 r by rw [if_pos hx0]] at hE
    have hr := (rgX7_entry hF).resolve_left (fun q => q hx0)
    show G X 2 12 10 [(10, 0), (0, a_space), (0, a_address), (0, a_what), (60, 0), (1, 0)] [(0, r), (0, 0), (60, 0)] (s1, m)
    refine g_i2l h 10 dL_entry_10 (gRi hr) ?_
    refine as_out h 11 dL_entry_11 (by decide) ?_
    refine g_goto h 12 23 dL_entry_12 (by decide) ?_
    refine g_iconst h 23 dL_entry_23 ?_
    exact g_iretH h 24 dL_entry_24 hE rfl ⟨(Nat.le_of_ble_eq_true rfl), (Nat.le_of_ble_eq_true rfl)⟩
set_option maxRecDepth 100000 in
set_option maxHeartbeats 4000000 in
theorem cw_frame {l : Launch} {w : gW} {bs : Nat} (hl : l.stackTraces = false) {a_frame a_what r : Int} {s m s1 : S2} (hF : FX7_frame a_frame a_what s = some (r, s1)) (hx : gxc r = 0 ∨ gxc r = 2) : gMetH l w bs yL_frame cL_frame 5 (some .int) [(0, 10, 13, 13)] 8 1 [(10, 0), (0, a_frame), (0, a_what), (60, 0)] (s, m) (some (0, (if gxc r = 0 then 0 else 1 : Int))) ((if gxc r = 0 then upd2 s1 51 0 r else s1), m) := by
  refine g_startH hl (by decide) (Nat.le_of_ble_eq_true rfl) rfl fun X h hE => ?_
  have h : gOk X "PagewrightLaw" cL_frame 5 8 1 6 := h
  have hE : gEndH X l w bs 1 (some .int) [(0, 10, 13, 13)] (some (0, (if gxc r = 0 then 0 else 1 : Int))) ((if gxc r = 0 then upd2 s1 51 0 r else s1), m) := hE
  show G X 0 0 0 [(10, 0), (0, a_frame), (0, a_what), (60, 0), (1, 0)] [] (s, m)
  refine g_aload_nq h 0 dL_frame_0 rfl rfl ?_
  refine g_iconst h 1 dL_frame_1 ?_
  refine g_aload_nq h 2 dL_frame_2 rfl rfl ?_
  refine g_iload_n h 3 dL_frame_3 rfl ?_
  refine g_iload_n h 4 dL_frame_4 rfl ?_
  refine g_callVH h hE 5 dL_frame_5 (ctX7_frame hl hF) mwX7_frame kw_954 (by decide) (by decide) rfl (Nat.le_of_ble_eq_true rfl) rfl (Nat.le_of_ble_eq_true rfl) ⟨(Nat.le_of_ble_eq_true rfl), (Nat.le_of_ble_eq_true rfl)⟩ rfl rfl (fun hx0 => ?_) (fun hx0 => ?_)
  · rcases hx with hx | hx
    · exact absurd hx hx0
    · refine g_catch h hE 5 _ 2 hx [] ⟨0, 10, 13, 13⟩ [] rfl (fun z hz => by
      simp at hz) (by decide) (by decide) kw_404 (by decide) (Or.inr ⟨rfl, dL_frame_13⟩) (Nat.le_of_ble_eq_true rfl) rfl (L' := [(10, 0), (0, a_frame), (0, a_what), (60, 0), (1, 0)]) rfl ?_
      refine g_iconst h 15 dL_frame_15 ?_
      rw [show (if gxc r = 0 then 0 else 1 : Int) = 1 by rw [hx]; rfl] at hE
      rw [show (if gxc r = 0 then upd2 s1 51 0 r else s1) = s1 by rw [if_neg hx0]] at hE
      exact g_iretH h 16 dL_frame_16 hE rfl ⟨(Nat.le_of_ble_eq_true rfl), (Nat.le_of_ble_eq_true rfl)⟩
  · rw [show (if gxc r = 0 then 0 else 1 : Int) = 0 by rw [if_pos hx0]] at hE
    rw [show (if gxc r = 0 then upd2 s1 51 0 r else s1) = upd2 s1 51 0 r by rw [if_pos hx0]] at hE
    have hr := (rgX7_frame hF).resolve_left (fun q => q hx0)
    show G X 1 6 8 [(10, 0), (0, a_frame), (0, a_what), (60, 0), (1, 0)] [(0, r), (0, 0), (60, 0)] (s1, m)
    refine g_i2l h 8 dL_frame_8 (gRi hr) ?_
    refine as_out h 9 dL_frame_9 (by decide) ?_
    refine g_goto h 10 17 dL_frame_10 (by decide) ?_
    refine g_iconst h 17 dL_frame_17 ?_
    exact g_iretH h 18 dL_frame_18 hE rfl ⟨(Nat.le_of_ble_eq_true rfl), (Nat.le_of_ble_eq_true rfl)⟩
set_option maxRecDepth 100000 in
set_option maxHeartbeats 4000000 in
theorem cw_list {l : Launch} {w : gW} {bs : Nat} (hl : l.stackTraces = false) {a_list a_place r : Int} {s m s1 : S2} (hF : FX7_list a_list a_place s = some (r, s1)) (hx : gxc r = 0 ∨ gxc r = 2) : gMetH l w bs yL_list cL_list 5 (some .int) [(0, 10, 13, 13)] 8 1 [(10, 0), (0, a_list), (0, a_place), (60, 0)] (s, m) (some (0, (if gxc r = 0 then 0 else 1 : Int))) ((if gxc r = 0 then upd2 s1 51 0 r else s1), m) := by
  refine g_startH hl (by decide) (Nat.le_of_ble_eq_true rfl) rfl fun X h hE => ?_
  have h : gOk X "PagewrightLaw" cL_list 5 8 1 6 := h
  have hE : gEndH X l w bs 1 (some .int) [(0, 10, 13, 13)] (some (0, (if gxc r = 0 then 0 else 1 : Int))) ((if gxc r = 0 then upd2 s1 51 0 r else s1), m) := hE
  show G X 0 0 0 [(10, 0), (0, a_list), (0, a_place), (60, 0), (1, 0)] [] (s, m)
  refine g_aload_nq h 0 dL_list_0 rfl rfl ?_
  refine g_iconst h 1 dL_list_1 ?_
  refine g_aload_nq h 2 dL_list_2 rfl rfl ?_
  refine g_iload_n h 3 dL_list_3 rfl ?_
  refine g_iload_n h 4 dL_list_4 rfl ?_
  refine g_callVH h hE 5 dL_list_5 (ctX7_list hl hF) mwX7_list kw_966 (by decide) (by decide) rfl (Nat.le_of_ble_eq_true rfl) rfl (Nat.le_of_ble_eq_true rfl) ⟨(Nat.le_of_ble_eq_true rfl), (Nat.le_of_ble_eq_true rfl)⟩ rfl rfl (fun hx0 => ?_) (fun hx0 => ?_)
  · rcases hx with hx | hx
    · exact absurd hx hx0
    · refine g_catch h hE 5 _ 2 hx [] ⟨0, 10, 13, 13⟩ [] rfl (fun z hz => by
      simp at hz) (by decide) (by decide) kw_404 (by decide) (Or.inr ⟨rfl, dL_list_13⟩) (Nat.le_of_ble_eq_true rfl) rfl (L' := [(10, 0), (0, a_list), (0, a_place), (60, 0), (1, 0)]) rfl ?_
      refine g_iconst h 15 dL_list_15 ?_
      rw [show (if gxc r = 0 then 0 else 1 : Int) = 1 by rw [hx]; rfl] at hE
      rw [show (if gxc r = 0 then upd2 s1 51 0 r else s1) = s1 by rw [if_neg hx0]] at hE
      exact g_iretH h 16 dL_list_16 hE rfl ⟨(Nat.le_of_ble_eq_true rfl), (Nat.le_of_ble_eq_true rfl)⟩
  · rw [show (if gxc r = 0 then 0 else 1 : Int) = 0 by rw [if_pos hx0]] at hE
    rw [show (if gxc r = 0 then upd2 s1 51 0 r else s1) = upd2 s1 51 0 r by rw [if_pos hx0]] at hE
    have hr := (rgX7_list hF).resolve_left (fun q => q hx0)
    show G X 1 6 8 [(10, 0), (0, a_list), (0, a_place), (60, 0), (1, 0)] [(0, r), (0, 0), (60, 0)] (s1, m)
    refine g_i2l h 8 dL_list_8 (gRi hr) ?_
    refine as_out h 9 dL_list_9 (by decide) ?_
    refine g_goto h 10 17 dL_list_10 (by decide) ?_
    refine g_iconst h 17 dL_list_17 ?_
    exact g_iretH h 18 dL_list_18 hE rfl ⟨(Nat.le_of_ble_eq_true rfl), (Nat.le_of_ble_eq_true rfl)⟩
set_option maxRecDepth 100000 in
set_option maxHeartbeats 4000000 in
theorem cw_about {l : Launch} {w : gW} {bs : Nat} (hl : l.stackTraces = false) {a_space a_what r : Int} {s m s1 : S2} (hF : FX7_about a_space a_what s = some (r, s1)) (hx : gxc r = 0 ∨ gxc r = 1 ∨ gxc r = 2) : gMetH l w bs yL_about cL_about 5 (some .int) [(0, 10, 13, 21), (0, 10, 17, 13)] 8 2 [(10, 0), (0, a_space), (0, a_what), (60, 0)] (s, m) (some (0, (if gxc r = 0 then 0 else if gxc r = 1 then 1 else 2 : Int))) ((if gxc r = 0 then upd2 s1 51 0 r else s1), m) := by
  refine g_startH hl (by decide) (Nat.le_of_ble_eq_true rfl) rfl fun X h hE => ?_
  have h : gOk X "PagewrightLaw" cL_about 5 8 2 12 := h
  have hE : gEndH X l w bs 2 (some .int) [(0, 10, 13, 21), (0, 10, 17, 13)] (some (0, (if gxc r = 0 then 0 else if gxc r = 1 then 1 else 2 : Int))) ((if gxc r = 0 then upd2 s1 51 0 r else s1), m) := hE
  show G X 0 0 0 [(10, 0), (0, a_space), (0, a_what), (60, 0), (1, 0)] [] (s, m)
  refine g_aload_nq h 0 dL_about_0 rfl rfl ?_
  refine g_iconst h 1 dL_about_1 ?_
  refine g_aload_nq h 2 dL_about_2 rfl rfl ?_
  refine g_iload_n h 3 dL_about_3 rfl ?_
  refine g_iload_n h 4 dL_about_4 rfl ?_
  refine g_callVH h hE 5 dL_about_5 (ctX7_about hl hF) mwX7_about kw_981 (by decide) (by decide) rfl (Nat.le_of_ble_eq_true rfl) rfl (Nat.le_of_ble_eq_true rfl) ⟨(Nat.le_of_ble_eq_true rfl), (Nat.le_of_ble_eq_true rfl)⟩ rfl rfl (fun hx0 => ?_) (fun hx0 => ?_)
  · rcases hx with hx | hx | hx
    · exact absurd hx hx0
    · refine g_catch h hE 5 _ 1 hx [] ⟨0, 10, 13, 21⟩ [⟨0, 10, 17, 13⟩] rfl (fun z hz => by
      simp at hz) (by decide) (by decide) kw_510 (by decide) (Or.inr ⟨rfl, dL_about_13⟩) (Nat.le_of_ble_eq_true rfl) rfl (L' := [(10, 0), (0, a_space), (0, a_what), (60, 0), (1, 0)]) rfl ?_
      refine g_iconst h 15 dL_about_15 ?_
      rw [show (if gxc r = 0 then 0 else if gxc r = 1 then 1 else 2 : Int) = 1 by rw [hx]; rfl] at hE
      rw [show (if gxc r = 0 then upd2 s1 51 0 r else s1) = s1 by rw [if_neg hx0]] at hE
      exact g_iretH h 16 dL_about_16 hE rfl ⟨(Nat.le_of_ble_eq_true rfl), (Nat.le_of_ble_eq_true rfl)⟩
    · refine g_catch h hE 5 _ 2 hx [⟨0, 10, 13, 21⟩] ⟨0, 10, 17, 13⟩ [] rfl (fun z hz => by
      simp only [List.mem_cons, List.not_mem_nil, or_false] at hz
      rcases hz with rfl
      · exact ⟨by decide, "java/lang/IndexOutOfBoundsException", kw_510, by decide⟩) (by decide) (by decide) kw_404 (by decide) (Or.inr ⟨rfl, dL_about_17⟩) (Nat.le_of_ble_eq_true rfl) rfl (L' := [(10, 0), (0, a_space), (0, a_what), (60, 0), (1, 0)]) rfl ?_
      refine g_iconst h 19 dL_about_19 ?_
      rw [show (if gxc r = 0 then 0 else if gxc r = 1 then 1 else 2 : Int) = 2 by rw [hx]; rfl] at hE
      rw [show (if gxc r = 0 then upd2 s1 51 0 r else s1) = s1 by rw [if_neg hx0]] at hE
      exact g_iretH h 20 dL_about_20 hE rfl ⟨(Nat.le_of_ble_eq_true rfl), (Nat.le_of_ble_eq_true rfl)⟩
  · rw [show (if gxc r = 0 then 0 else if gxc r = 1 then 1 else 2 : Int) = 0 by rw [if_pos hx0]] at hE
    rw [show (if gxc r = 0 then upd2 s1 51 0 r else s1) = upd2 s1 51 0 r by rw [if_pos hx0]] at hE
    have hr := (rgX7_about hF).resolve_left (fun q => q hx0)
    show G X 2 12 8 [(10, 0), (0, a_space), (0, a_what), (60, 0), (1, 0)] [(0, r), (0, 0), (60, 0)] (s1, m)
    refine g_i2l h 8 dL_about_8 (gRi hr) ?_
    refine as_out h 9 dL_about_9 (by decide) ?_
    refine g_goto h 10 21 dL_about_10 (by decide) ?_
    refine g_iconst h 21 dL_about_21 ?_
    exact g_iretH h 22 dL_about_22 hE rfl ⟨(Nat.le_of_ble_eq_true rfl), (Nat.le_of_ble_eq_true rfl)⟩
set_option maxRecDepth 100000 in
set_option maxHeartbeats 4000000 in
theorem cw_count {l : Launch} {w : gW} {bs : Nat} (hl : l.stackTraces = false) {a_what r : Int} {s m s1 : S2} (hF : FX7_count a_what s = some (r, s1)) (hx : gxc r = 0 ∨ gxc r = 2) : gMetH l w bs yL_count cL_count 4 (some .int) [(0, 9, 12, 13)] 8 1 [(10, 0), (0, a_what), (60, 0)] (s, m) (some (0, (if gxc r = 0 then 0 else 1 : Int))) ((if gxc r = 0 then upd2 s1 51 0 r else s1), m) := by
  refine g_startH hl (by decide) (Nat.le_of_ble_eq_true rfl) rfl fun X h hE => ?_
  have h : gOk X "PagewrightLaw" cL_count 4 8 1 6 := h
  have hE : gEndH X l w bs 1 (some .int) [(0, 9, 12, 13)] (some (0, (if gxc r = 0 then 0 else 1 : Int))) ((if gxc r = 0 then upd2 s1 51 0 r else s1), m) := hE
  show G X 0 0 0 [(10, 0), (0, a_what), (60, 0), (1, 0)] [] (s, m)
  refine g_aload_nq h 0 dL_count_0 rfl rfl ?_
  refine g_iconst h 1 dL_count_1 ?_
  refine g_aload_nq h 2 dL_count_2 rfl rfl ?_
  refine g_iload_n h 3 dL_count_3 rfl ?_
  refine g_callVH h hE 4 dL_count_4 (ctX7_count hl hF) mwX7_count kw_988 (by decide) (by decide) rfl (Nat.le_of_ble_eq_true rfl) rfl (Nat.le_of_ble_eq_true rfl) ⟨(Nat.le_of_ble_eq_true rfl), (Nat.le_of_ble_eq_true rfl)⟩ rfl rfl (fun hx0 => ?_) (fun hx0 => ?_)
  · rcases hx with hx | hx
    · exact absurd hx hx0
    · refine g_catch h hE 4 _ 2 hx [] ⟨0, 9, 12, 13⟩ [] rfl (fun z hz => by
      simp at hz) (by decide) (by decide) kw_404 (by decide) (Or.inl ⟨3, rfl, rfl, dL_count_12⟩) (Nat.le_of_ble_eq_true rfl) rfl (L' := [(10, 0), (0, a_what), (60, 0), (1, 0)]) rfl ?_
      refine g_iconst h 13 dL_count_13 ?_
      rw [show (if gxc r = 0 then 0 else 1 : Int) = 1 by rw [hx]; rfl] at hE
      rw [show (if gxc r = 0 then upd2 s1 51 0 r else s1) = s1 by rw [if_neg hx0]] at hE
      exact g_iretH h 14 dL_count_14 hE rfl ⟨(Nat.le_of_ble_eq_true rfl), (Nat.le_of_ble_eq_true rfl)⟩
  · rw [show (if gxc r = 0 then 0 else 1 : Int) = 0 by rw [if_pos hx0]] at hE
    rw [show (if gxc r = 0 then upd2 s1 51 0 r else s1) = upd2 s1 51 0 r by rw [if_pos hx0]] at hE
    have hr := (rgX7_count hF).resolve_left (fun q => q hx0)
    show G X 1 6 7 [(10, 0), (0, a_what), (60, 0), (1, 0)] [(0, r), (0, 0), (60, 0)] (s1, m)
    refine g_i2l h 7 dL_count_7 (gRi hr) ?_
    refine as_out h 8 dL_count_8 (by decide) ?_
    refine g_goto h 9 15 dL_count_9 (by decide) ?_
    refine g_iconst h 15 dL_count_15 ?_
    exact g_iretH h 16 dL_count_16 hE rfl ⟨(Nat.le_of_ble_eq_true rfl), (Nat.le_of_ble_eq_true rfl)⟩
