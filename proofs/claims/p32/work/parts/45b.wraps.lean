abbrev M_L_feed : MRec := (yL_feed, cL_feed, 8, (some Jvm.ClassFile.FieldType.int), [((0 : Nat), (16 : Nat), (19 : Nat), (13 : Nat))])
theorem m_L_feed : en_M M_L_feed 7 := ⟨t_636, t_0, ⟨by decide +kernel, by decide +kernel⟩, by decide +kernel, by decide +kernel, by decide +kernel⟩
abbrev M_L_end : MRec := (yL_end, cL_end, 4, (some Jvm.ClassFile.FieldType.int), [((0 : Nat), (9 : Nat), (12 : Nat), (19 : Nat)), ((0 : Nat), (9 : Nat), (15 : Nat), (13 : Nat))])
theorem m_L_end : en_M M_L_end 3 := ⟨t_715, t_0, ⟨by decide +kernel, by decide +kernel⟩, by decide +kernel, by decide +kernel, by decide +kernel⟩
abbrev M_L_readWords : MRec := (yL_readWords, cL_readWords, 4, (some Jvm.ClassFile.FieldType.int), [((0 : Nat), (9 : Nat), (12 : Nat), (24 : Nat)), ((0 : Nat), (9 : Nat), (15 : Nat), (19 : Nat))])
theorem m_L_readWords : en_M M_L_readWords 3 := ⟨t_738, t_0, ⟨by decide +kernel, by decide +kernel⟩, by decide +kernel, by decide +kernel, by decide +kernel⟩
abbrev M_L_readBytes : MRec := (yL_readBytes, cL_readBytes, 4, (some Jvm.ClassFile.FieldType.int), [((0 : Nat), (9 : Nat), (12 : Nat), (24 : Nat)), ((0 : Nat), (9 : Nat), (15 : Nat), (19 : Nat))])
theorem m_L_readBytes : en_M M_L_readBytes 3 := ⟨t_956, t_0, ⟨by decide +kernel, by decide +kernel⟩, by decide +kernel, by decide +kernel, by decide +kernel⟩
abbrev M_L_fault : MRec := (yL_fault, cL_fault, 4, (some Jvm.ClassFile.FieldType.int), [((0 : Nat), (9 : Nat), (12 : Nat), (24 : Nat))])
theorem m_L_fault : en_M M_L_fault 3 := ⟨t_1035, t_0, ⟨by decide +kernel, by decide +kernel⟩, by decide +kernel, by decide +kernel, by decide +kernel⟩
abbrev M_L_writeWords : MRec := (yL_writeWords, cL_writeWords, 4, (some Jvm.ClassFile.FieldType.int), [((0 : Nat), (9 : Nat), (12 : Nat), (24 : Nat)), ((0 : Nat), (9 : Nat), (15 : Nat), (13 : Nat))])
theorem m_L_writeWords : en_M M_L_writeWords 3 := ⟨t_1042, t_0, ⟨by decide +kernel, by decide +kernel⟩, by decide +kernel, by decide +kernel, by decide +kernel⟩
abbrev M_L_writeBytes : MRec := (yL_writeBytes, cL_writeBytes, 5, (some Jvm.ClassFile.FieldType.int), [((0 : Nat), (10 : Nat), (13 : Nat), (24 : Nat)), ((0 : Nat), (10 : Nat), (17 : Nat), (13 : Nat)), ((0 : Nat), (10 : Nat), (21 : Nat), (19 : Nat))])
theorem m_L_writeBytes : en_M M_L_writeBytes 4 := ⟨t_1112, t_0, ⟨by decide +kernel, by decide +kernel⟩, by decide +kernel, by decide +kernel, by decide +kernel⟩
abbrev M_L_byteAt : MRec := (yL_byteAt, cL_byteAt, 4, (some Jvm.ClassFile.FieldType.int), [((0 : Nat), (9 : Nat), (12 : Nat), (24 : Nat))])
theorem m_L_byteAt : en_M M_L_byteAt 3 := ⟨t_1138, t_0, ⟨by decide +kernel, by decide +kernel⟩, by decide +kernel, by decide +kernel, by decide +kernel⟩
abbrev M_L_copy : MRec := (yL_copy, cL_copy, 5, (some Jvm.ClassFile.FieldType.int), [((0 : Nat), (10 : Nat), (13 : Nat), (24 : Nat)), ((0 : Nat), (10 : Nat), (17 : Nat), (13 : Nat))])
theorem m_L_copy : en_M M_L_copy 4 := ⟨t_1145, t_0, ⟨by decide +kernel, by decide +kernel⟩, by decide +kernel, by decide +kernel, by decide +kernel⟩
abbrev M_L_drop : MRec := (yL_drop, cL_drop, 4, (some Jvm.ClassFile.FieldType.int), [((0 : Nat), (16 : Nat), (19 : Nat), (24 : Nat))])
theorem m_L_drop : en_M M_L_drop 3 := ⟨t_1157, t_0, ⟨by decide +kernel, by decide +kernel⟩, by decide +kernel, by decide +kernel, by decide +kernel⟩
abbrev M_L_same : MRec := (yL_same, cL_same, 5, (some Jvm.ClassFile.FieldType.int), [((0 : Nat), (17 : Nat), (20 : Nat), (24 : Nat))])
theorem m_L_same : en_M M_L_same 4 := ⟨t_1164, t_0, ⟨by decide +kernel, by decide +kernel⟩, by decide +kernel, by decide +kernel, by decide +kernel⟩
abbrev M_L_judge : MRec := (yL_judge, cL_judge, 4, (some Jvm.ClassFile.FieldType.int), [((0 : Nat), (9 : Nat), (12 : Nat), (24 : Nat)), ((0 : Nat), (9 : Nat), (15 : Nat), (13 : Nat))])
theorem m_L_judge : en_M M_L_judge 3 := ⟨t_1175, t_0, ⟨by decide +kernel, by decide +kernel⟩, by decide +kernel, by decide +kernel, by decide +kernel⟩
abbrev M_L_place : MRec := (yL_place, cL_place, 4, (some Jvm.ClassFile.FieldType.int), [((0 : Nat), (9 : Nat), (12 : Nat), (24 : Nat))])
theorem m_L_place : en_M M_L_place 3 := ⟨t_1364, t_0, ⟨by decide +kernel, by decide +kernel⟩, by decide +kernel, by decide +kernel, by decide +kernel⟩
abbrev M_L_overlay : MRec := (yL_overlay, cL_overlay, 7, (some Jvm.ClassFile.FieldType.int), [((0 : Nat), (14 : Nat), (17 : Nat), (24 : Nat)), ((0 : Nat), (14 : Nat), (21 : Nat), (13 : Nat)), ((0 : Nat), (14 : Nat), (25 : Nat), (19 : Nat)), ((0 : Nat), (14 : Nat), (29 : Nat), (63 : Nat))])
theorem m_L_overlay : en_M M_L_overlay 6 := ⟨t_1371, t_0, ⟨by decide +kernel, by decide +kernel⟩, by decide +kernel, by decide +kernel, by decide +kernel⟩
abbrev M_L_relate : MRec := (yL_relate, cL_relate, 5, (some Jvm.ClassFile.FieldType.int), [((0 : Nat), (10 : Nat), (13 : Nat), (24 : Nat)), ((0 : Nat), (10 : Nat), (17 : Nat), (13 : Nat)), ((0 : Nat), (10 : Nat), (21 : Nat), (19 : Nat)), ((0 : Nat), (10 : Nat), (25 : Nat), (63 : Nat))])
theorem m_L_relate : en_M M_L_relate 4 := ⟨t_1874, t_0, ⟨by decide +kernel, by decide +kernel⟩, by decide +kernel, by decide +kernel, by decide +kernel⟩
abbrev M_L_is : MRec := (yL_is, cL_is, 6, (some Jvm.ClassFile.FieldType.int), [((0 : Nat), (19 : Nat), (22 : Nat), (24 : Nat)), ((0 : Nat), (19 : Nat), (26 : Nat), (13 : Nat)), ((0 : Nat), (19 : Nat), (30 : Nat), (19 : Nat)), ((0 : Nat), (19 : Nat), (34 : Nat), (63 : Nat))])
theorem m_L_is : en_M M_L_is 5 := ⟨t_2037, t_0, ⟨by decide +kernel, by decide +kernel⟩, by decide +kernel, by decide +kernel, by decide +kernel⟩
abbrev M_L_locate : MRec := (yL_locate, cL_locate, 6, (some Jvm.ClassFile.FieldType.int), [((0 : Nat), (12 : Nat), (15 : Nat), (24 : Nat)), ((0 : Nat), (12 : Nat), (19 : Nat), (13 : Nat)), ((0 : Nat), (12 : Nat), (23 : Nat), (19 : Nat)), ((0 : Nat), (12 : Nat), (27 : Nat), (63 : Nat))])
theorem m_L_locate : en_M M_L_locate 5 := ⟨t_2068, t_0, ⟨by decide +kernel, by decide +kernel⟩, by decide +kernel, by decide +kernel, by decide +kernel⟩
abbrev M_L_hull : MRec := (yL_hull, cL_hull, 5, (some Jvm.ClassFile.FieldType.int), [((0 : Nat), (10 : Nat), (13 : Nat), (24 : Nat)), ((0 : Nat), (10 : Nat), (17 : Nat), (13 : Nat)), ((0 : Nat), (10 : Nat), (21 : Nat), (63 : Nat))])
theorem m_L_hull : en_M M_L_hull 4 := ⟨t_2078, t_0, ⟨by decide +kernel, by decide +kernel⟩, by decide +kernel, by decide +kernel, by decide +kernel⟩
abbrev M_L_triangles : MRec := (yL_triangles, cL_triangles, 5, (some Jvm.ClassFile.FieldType.int), [((0 : Nat), (10 : Nat), (13 : Nat), (24 : Nat)), ((0 : Nat), (10 : Nat), (17 : Nat), (13 : Nat)), ((0 : Nat), (10 : Nat), (21 : Nat), (63 : Nat))])
theorem m_L_triangles : en_M M_L_triangles 4 := ⟨t_2124, t_0, ⟨by decide +kernel, by decide +kernel⟩, by decide +kernel, by decide +kernel, by decide +kernel⟩
abbrev M_L_simplify : MRec := (yL_simplify, cL_simplify, 6, (some Jvm.ClassFile.FieldType.int), [((0 : Nat), (12 : Nat), (15 : Nat), (24 : Nat)), ((0 : Nat), (12 : Nat), (19 : Nat), (13 : Nat)), ((0 : Nat), (12 : Nat), (23 : Nat), (19 : Nat))])
theorem m_L_simplify : en_M M_L_simplify 5 := ⟨t_2186, t_0, ⟨by decide +kernel, by decide +kernel⟩, by decide +kernel, by decide +kernel, by decide +kernel⟩
abbrev M_L_area : MRec := (yL_area, cL_area, 4, (some Jvm.ClassFile.FieldType.int), [((0 : Nat), (8 : Nat), (11 : Nat), (24 : Nat)), ((0 : Nat), (8 : Nat), (14 : Nat), (13 : Nat))])
theorem m_L_area : en_M M_L_area 3 := ⟨t_2219, t_0, ⟨by decide +kernel, by decide +kernel⟩, by decide +kernel, by decide +kernel, by decide +kernel⟩
abbrev M_L_bounds : MRec := (yL_bounds, cL_bounds, 5, (some Jvm.ClassFile.FieldType.int), [((0 : Nat), (10 : Nat), (13 : Nat), (24 : Nat)), ((0 : Nat), (10 : Nat), (17 : Nat), (13 : Nat)), ((0 : Nat), (10 : Nat), (21 : Nat), (19 : Nat))])
theorem m_L_bounds : en_M M_L_bounds 4 := ⟨t_2231, t_0, ⟨by decide +kernel, by decide +kernel⟩, by decide +kernel, by decide +kernel, by decide +kernel⟩
abbrev M_L_find : MRec := (yL_find, cL_find, 8, (some Jvm.ClassFile.FieldType.int), [((0 : Nat), (16 : Nat), (19 : Nat), (19 : Nat))])
theorem m_L_find : en_M M_L_find 7 := ⟨t_2244, t_0, ⟨by decide +kernel, by decide +kernel⟩, by decide +kernel, by decide +kernel, by decide +kernel⟩
abbrev M_L_nearest : MRec := (yL_nearest, cL_nearest, 6, (some Jvm.ClassFile.FieldType.int), [((0 : Nat), (12 : Nat), (15 : Nat), (19 : Nat))])
theorem m_L_nearest : en_M M_L_nearest 5 := ⟨t_2256, t_0, ⟨by decide +kernel, by decide +kernel⟩, by decide +kernel, by decide +kernel, by decide +kernel⟩
abbrev M_L_found : MRec := (yL_found, cL_found, 4, (some Jvm.ClassFile.FieldType.int), [((0 : Nat), (9 : Nat), (12 : Nat), (24 : Nat))])
theorem m_L_found : en_M M_L_found 3 := ⟨t_2272, t_0, ⟨by decide +kernel, by decide +kernel⟩, by decide +kernel, by decide +kernel, by decide +kernel⟩
abbrev M_L_plan : MRec := (yL_plan, cL_plan, 5, (some Jvm.ClassFile.FieldType.int), [((0 : Nat), (10 : Nat), (13 : Nat), (24 : Nat))])
theorem m_L_plan : en_M M_L_plan 4 := ⟨t_2279, t_0, ⟨by decide +kernel, by decide +kernel⟩, by decide +kernel, by decide +kernel, by decide +kernel⟩
abbrev M_L_ordinate : MRec := (yL_ordinate, cL_ordinate, 6, (some Jvm.ClassFile.FieldType.int), [((0 : Nat), (12 : Nat), (15 : Nat), (24 : Nat))])
theorem m_L_ordinate : en_M M_L_ordinate 5 := ⟨t_2286, t_0, ⟨by decide +kernel, by decide +kernel⟩, by decide +kernel, by decide +kernel, by decide +kernel⟩
abbrev M_L_count : MRec := (yL_count, cL_count, 5, (some Jvm.ClassFile.FieldType.int), [((0 : Nat), (10 : Nat), (13 : Nat), (24 : Nat))])
theorem m_L_count : en_M M_L_count 4 := ⟨t_2293, t_0, ⟨by decide +kernel, by decide +kernel⟩, by decide +kernel, by decide +kernel, by decide +kernel⟩
abbrev M_L_point : MRec := (yL_point, cL_point, 7, (some Jvm.ClassFile.FieldType.int), [((0 : Nat), (8 : Nat), (11 : Nat), (24 : Nat)), ((0 : Nat), (8 : Nat), (15 : Nat), (19 : Nat))])
theorem m_L_point : en_M M_L_point 4 := ⟨t_2304, t_0, ⟨by decide +kernel, by decide +kernel⟩, by decide +kernel, by decide +kernel, by decide +kernel⟩
abbrev M_L_side : MRec := (yL_side, cL_side, 6, (some Jvm.ClassFile.FieldType.int), [((0 : Nat), (12 : Nat), (15 : Nat), (24 : Nat))])
theorem m_L_side : en_M M_L_side 5 := ⟨t_2318, t_0, ⟨by decide +kernel, by decide +kernel⟩, by decide +kernel, by decide +kernel, by decide +kernel⟩
abbrev M_L_circle : MRec := (yL_circle, cL_circle, 7, (some Jvm.ClassFile.FieldType.int), [((0 : Nat), (14 : Nat), (17 : Nat), (24 : Nat))])
theorem m_L_circle : en_M M_L_circle 6 := ⟨t_2366, t_0, ⟨by decide +kernel, by decide +kernel⟩, by decide +kernel, by decide +kernel, by decide +kernel⟩
section LWR
variable {l : Launch} {E : EE}
theorem c_L_feed (hl : l.stackTraces = false) {σ : SG} {p0_0 : Int} {p1_0 : Int} {p2_0 : Int} {p3_0 : Int} {p4_0 : Int} {r : Int} {σ' : SG} (H : fL_feed σ p0_0 p1_0 p2_0 p3_0 p4_0 = some (r, σ')) : en_S l E M_L_feed 7 1 6 [vr 32, vi p0_0, vi p1_0, vi p2_0, vi p3_0, vi p4_0, vr 359] σ (pS (some (vi r)) σ') := by
  unfold fL_feed at H
  refine z_mkW (lv := [some (vr 32), some (vi p0_0), some (vi p1_0), some (vi p2_0), some (vi p3_0), some (vi p4_0), some (vr 359), none]) m_L_feed rfl hl (Nat.le_of_ble_eq_true rfl) rfl ?_
  refine z_aload (M := M_L_feed) dL_feed_0 rfl ?_
  refine z_iconst (M := M_L_feed) dL_feed_2 ?_
  refine z_aload_n (M := M_L_feed) dL_feed_3 rfl ?_
  refine z_iload_n (M := M_L_feed) dL_feed_4 rfl ?_
  refine z_iload_n (M := M_L_feed) dL_feed_5 rfl ?_
  refine z_iload_n (M := M_L_feed) dL_feed_6 rfl ?_
  refine z_iload (M := M_L_feed) dL_feed_7 rfl ?_
  refine z_iload (M := M_L_feed) dL_feed_9 rfl ?_
  obtain ⟨z_6, σ_2, hc_1, K_4, K_5⟩ := bw_e H
  rcases z_6 with x_3 | z_6
  · have H := K_4 _ rfl
    refine z_callVHR (M := M_L_feed) (M' := M_X11_feed) (as := [vi p0_0, vi p1_0, vi p2_0, vi p3_0, vi p4_0]) (rest := [vi 0, vr 359]) rfl dL_feed_11 m_X11_feed t_638 t_639 t_640 (v := some (vi x_3)) (c_X11_feed hl hc_1) rfl rfl ly_32 rfl (Nat.le_of_ble_eq_true rfl) (Nat.le_of_ble_eq_true rfl) (Nat.le_of_ble_eq_true rfl) (Nat.le_of_ble_eq_true rfl) ?_
    refine z_st (st' := [vi x_3, vi 0, vr 359]) rfl ?_
    refine z_i2l (M := M_L_feed) dL_feed_14 ?_
    obtain ⟨σ_7, σ_7_e, hi_8, H⟩ := wa_e H
    refine z_last (M := M_L_feed) dL_feed_15 ly_359 rfl (by decide +kernel) rfl hi_8 σ_7_e ?_
    refine z_goto (M := M_L_feed) (tgt := 23) dL_feed_16 (by decide) ?_
    refine z_iconst (M := M_L_feed) dL_feed_23 ?_
    cases H
    exact z_iret (M := M_L_feed) dL_feed_24 rfl (Nat.le_of_ble_eq_true rfl) (Nat.le_of_ble_eq_true rfl) ⟨rfl, rfl⟩
  · have H := K_5 _ rfl
    rcases if_e H with ⟨h_9, H⟩ | ⟨h_9, H⟩
    · subst h_9
      refine z_callVHX (M := M_L_feed) (lv' := [some (vr 32), some (vi p0_0), some (vi p1_0), some (vi p2_0), some (vi p3_0), some (vi p4_0), some (vr 359), none]) (M' := M_X11_feed) (as := [vi p0_0, vi p1_0, vi p2_0, vi p3_0, vi p4_0]) (rest := [vi 0, vr 359]) rfl dL_feed_11 m_X11_feed t_638 t_639 t_640 (e := 1) (c_X11_feed hl hc_1) rfl rfl ly_32 rfl (Nat.le_of_ble_eq_true rfl) (Nat.le_of_ble_eq_true rfl) (Nat.le_of_ble_eq_true rfl) (Nat.le_of_ble_eq_true rfl) (en_hdm (k0 := 7) [] [] rfl (fun _ h => nomatch h) (by decide +kernel) (by decide) t_637 n_645 dL_feed_19) (by decide) rfl rfl ?_
      refine z_iconst (M := M_L_feed) dL_feed_21 ?_
      cases H
      exact z_iret (M := M_L_feed) dL_feed_22 rfl (Nat.le_of_ble_eq_true rfl) (Nat.le_of_ble_eq_true rfl) ⟨rfl, rfl⟩
    · cases H
theorem c_L_end (hl : l.stackTraces = false) {σ : SG} {p0_0 : Int} {r : Int} {σ' : SG} (H : fL_end σ p0_0 = some (r, σ')) : en_S l E M_L_end 7 1 6 [vr 32, vi p0_0, vr 359] σ (pS (some (vi r)) σ') := by
  unfold fL_end at H
  refine z_mkW (lv := [some (vr 32), some (vi p0_0), some (vr 359), none]) m_L_end rfl hl (Nat.le_of_ble_eq_true rfl) rfl ?_
  refine z_aload_n (M := M_L_end) dL_end_0 rfl ?_
  refine z_iconst (M := M_L_end) dL_end_1 ?_
  refine z_aload_n (M := M_L_end) dL_end_2 rfl ?_
  refine z_iload_n (M := M_L_end) dL_end_3 rfl ?_
  obtain ⟨z_6, σ_2, hc_1, K_4, K_5⟩ := bw_e H
  rcases z_6 with x_3 | z_6
  · have H := K_4 _ rfl
    refine z_callVHR (M := M_L_end) (M' := M_X11_end) (as := [vi p0_0]) (rest := [vi 0, vr 359]) rfl dL_end_4 m_X11_end t_717 t_718 t_719 (v := some (vi x_3)) (c_X11_end hl hc_1) rfl rfl ly_32 rfl (Nat.le_of_ble_eq_true rfl) (Nat.le_of_ble_eq_true rfl) (Nat.le_of_ble_eq_true rfl) (Nat.le_of_ble_eq_true rfl) ?_
    refine z_st (st' := [vi x_3, vi 0, vr 359]) rfl ?_
    refine z_i2l (M := M_L_end) dL_end_7 ?_
    obtain ⟨σ_7, σ_7_e, hi_8, H⟩ := wa_e H
    refine z_last (M := M_L_end) dL_end_8 ly_359 rfl (by decide +kernel) rfl hi_8 σ_7_e ?_
    refine z_goto (M := M_L_end) (tgt := 18) dL_end_9 (by decide) ?_
    refine z_iconst (M := M_L_end) dL_end_18 ?_
    cases H
    exact z_iret (M := M_L_end) dL_end_19 rfl (Nat.le_of_ble_eq_true rfl) (Nat.le_of_ble_eq_true rfl) ⟨rfl, rfl⟩
  · have H := K_5 _ rfl
    rcases if_e H with ⟨h_9, H⟩ | ⟨h_9, H⟩
    · subst h_9
      refine z_callVHX (M := M_L_end) (lv' := [some (vr 32), some (vi p0_0), some (vr 359), none]) (M' := M_X11_end) (as := [vi p0_0]) (rest := [vi 0, vr 359]) rfl dL_end_4 m_X11_end t_717 t_718 t_719 (e := 2) (c_X11_end hl hc_1) rfl rfl ly_32 rfl (Nat.le_of_ble_eq_true rfl) (Nat.le_of_ble_eq_true rfl) (Nat.le_of_ble_eq_true rfl) (Nat.le_of_ble_eq_true rfl) (en_hdn (k0 := 3) [] [(0, 9, 15, 13)] rfl (fun _ h => nomatch h) (by decide +kernel) (by decide) t_716 n_723 dL_end_12) (by decide) rfl rfl ?_
      refine z_iconst (M := M_L_end) dL_end_13 ?_
      cases H
      exact z_iret (M := M_L_end) dL_end_14 rfl (Nat.le_of_ble_eq_true rfl) (Nat.le_of_ble_eq_true rfl) ⟨rfl, rfl⟩
    · rcases if_e H with ⟨h_10, H⟩ | ⟨h_10, H⟩
      · subst h_10
        refine z_callVHX (M := M_L_end) (lv' := [some (vr 32), some (vi p0_0), some (vr 359), none]) (M' := M_X11_end) (as := [vi p0_0]) (rest := [vi 0, vr 359]) rfl dL_end_4 m_X11_end t_717 t_718 t_719 (e := 1) (c_X11_end hl hc_1) rfl rfl ly_32 rfl (Nat.le_of_ble_eq_true rfl) (Nat.le_of_ble_eq_true rfl) (Nat.le_of_ble_eq_true rfl) (Nat.le_of_ble_eq_true rfl) (en_hdn (k0 := 3) [(0, 9, 12, 19)] [] rfl (List.forall_mem_cons.mpr ⟨⟨by decide, "java/lang/IllegalArgumentException", t_716, by decide +kernel, by decide +kernel, by decide +kernel⟩, (fun _ h => nomatch h)⟩) (by decide +kernel) (by decide) t_637 n_645 dL_end_15) (by decide) rfl rfl ?_
        refine z_iconst (M := M_L_end) dL_end_16 ?_
        cases H
        exact z_iret (M := M_L_end) dL_end_17 rfl (Nat.le_of_ble_eq_true rfl) (Nat.le_of_ble_eq_true rfl) ⟨rfl, rfl⟩
      · cases H
theorem c_L_readWords (hl : l.stackTraces = false) {σ : SG} {p0_0 : Int} {r : Int} {σ' : SG} (H : fL_readWords σ p0_0 = some (r, σ')) : en_S l E M_L_readWords 12 2 12 [vr 32, vi p0_0, vr 359] σ (pS (some (vi r)) σ') := by
  unfold fL_readWords at H
  refine z_mkW (lv := [some (vr 32), some (vi p0_0), some (vr 359), none]) m_L_readWords rfl hl (Nat.le_of_ble_eq_true rfl) rfl ?_
  refine z_aload_n (M := M_L_readWords) dL_readWords_0 rfl ?_
  refine z_iconst (M := M_L_readWords) dL_readWords_1 ?_
  refine z_aload_n (M := M_L_readWords) dL_readWords_2 rfl ?_
  refine z_iload_n (M := M_L_readWords) dL_readWords_3 rfl ?_
  obtain ⟨z_6, σ_2, hc_1, K_4, K_5⟩ := bw_e H
  rcases z_6 with x_3 | z_6
  · have H := K_4 _ rfl
    refine z_callVHR (M := M_L_readWords) (M' := M_X11_readWords) (as := [vi p0_0]) (rest := [vi 0, vr 359]) rfl dL_readWords_4 m_X11_readWords t_740 t_741 t_742 (v := some (vi x_3)) (c_X11_readWords hl hc_1) rfl rfl ly_32 rfl (Nat.le_of_ble_eq_true rfl) (Nat.le_of_ble_eq_true rfl) (Nat.le_of_ble_eq_true rfl) (Nat.le_of_ble_eq_true rfl) ?_
    refine z_st (st' := [vi x_3, vi 0, vr 359]) rfl ?_
    refine z_i2l (M := M_L_readWords) dL_readWords_7 ?_
    obtain ⟨σ_7, σ_7_e, hi_8, H⟩ := wa_e H
    refine z_last (M := M_L_readWords) dL_readWords_8 ly_359 rfl (by decide +kernel) rfl hi_8 σ_7_e ?_
    refine z_goto (M := M_L_readWords) (tgt := 18) dL_readWords_9 (by decide) ?_
    refine z_iconst (M := M_L_readWords) dL_readWords_18 ?_
    cases H
    exact z_iret (M := M_L_readWords) dL_readWords_19 rfl (Nat.le_of_ble_eq_true rfl) (Nat.le_of_ble_eq_true rfl) ⟨rfl, rfl⟩
  · have H := K_5 _ rfl
    rcases if_e H with ⟨h_9, H⟩ | ⟨h_9, H⟩
    · subst h_9
      refine z_callVHX (M := M_L_readWords) (lv' := [some (vr 32), some (vi p0_0), some (vr 359), none]) (M' := M_X11_readWords) (as := [vi p0_0]) (rest := [vi 0, vr 359]) rfl dL_readWords_4 m_X11_readWords t_740 t_741 t_742 (e := 0) (c_X11_readWords hl hc_1) rfl rfl ly_32 rfl (Nat.le_of_ble_eq_true rfl) (Nat.le_of_ble_eq_true rfl) (Nat.le_of_ble_eq_true rfl) (Nat.le_of_ble_eq_true rfl) (en_hdn (k0 := 3) [] [(0, 9, 15, 19)] rfl (fun _ h => nomatch h) (by decide +kernel) (by decide) t_739 n_750 dL_readWords_12) (by decide) rfl rfl ?_
      refine z_iconst (M := M_L_readWords) dL_readWords_13 ?_
      cases H
      exact z_iret (M := M_L_readWords) dL_readWords_14 rfl (Nat.le_of_ble_eq_true rfl) (Nat.le_of_ble_eq_true rfl) ⟨rfl, rfl⟩
    · rcases if_e H with ⟨h_10, H⟩ | ⟨h_10, H⟩
      · subst h_10
        refine z_callVHX (M := M_L_readWords) (lv' := [some (vr 32), some (vi p0_0), some (vr 359), none]) (M' := M_X11_readWords) (as := [vi p0_0]) (rest := [vi 0, vr 359]) rfl dL_readWords_4 m_X11_readWords t_740 t_741 t_742 (e := 2) (c_X11_readWords hl hc_1) rfl rfl ly_32 rfl (Nat.le_of_ble_eq_true rfl) (Nat.le_of_ble_eq_true rfl) (Nat.le_of_ble_eq_true rfl) (Nat.le_of_ble_eq_true rfl) (en_hdn (k0 := 3) [(0, 9, 12, 24)] [] rfl (List.forall_mem_cons.mpr ⟨⟨by decide, "java/lang/IndexOutOfBoundsException", t_739, by decide +kernel, by decide +kernel, by decide +kernel⟩, (fun _ h => nomatch h)⟩) (by decide +kernel) (by decide) t_716 n_723 dL_readWords_15) (by decide) rfl rfl ?_
        refine z_iconst (M := M_L_readWords) dL_readWords_16 ?_
        cases H
        exact z_iret (M := M_L_readWords) dL_readWords_17 rfl (Nat.le_of_ble_eq_true rfl) (Nat.le_of_ble_eq_true rfl) ⟨rfl, rfl⟩
      · cases H
theorem c_L_readBytes (hl : l.stackTraces = false) {σ : SG} {p0_0 : Int} {r : Int} {σ' : SG} (H : fL_readBytes σ p0_0 = some (r, σ')) : en_S l E M_L_readBytes 9 2 12 [vr 32, vi p0_0, vr 359] σ (pS (some (vi r)) σ') := by
  unfold fL_readBytes at H
  refine z_mkW (lv := [some (vr 32), some (vi p0_0), some (vr 359), none]) m_L_readBytes rfl hl (Nat.le_of_ble_eq_true rfl) rfl ?_
  refine z_aload_n (M := M_L_readBytes) dL_readBytes_0 rfl ?_
  refine z_iconst (M := M_L_readBytes) dL_readBytes_1 ?_
  refine z_aload_n (M := M_L_readBytes) dL_readBytes_2 rfl ?_
  refine z_iload_n (M := M_L_readBytes) dL_readBytes_3 rfl ?_
  obtain ⟨z_6, σ_2, hc_1, K_4, K_5⟩ := bw_e H
  rcases z_6 with x_3 | z_6
  · have H := K_4 _ rfl
    refine z_callVHR (M := M_L_readBytes) (M' := M_X11_readBytes) (as := [vi p0_0]) (rest := [vi 0, vr 359]) rfl dL_readBytes_4 m_X11_readBytes t_957 t_958 t_959 (v := some (vi x_3)) (c_X11_readBytes hl hc_1) rfl rfl ly_32 rfl (Nat.le_of_ble_eq_true rfl) (Nat.le_of_ble_eq_true rfl) (Nat.le_of_ble_eq_true rfl) (Nat.le_of_ble_eq_true rfl) ?_
    refine z_st (st' := [vi x_3, vi 0, vr 359]) rfl ?_
    refine z_i2l (M := M_L_readBytes) dL_readBytes_7 ?_
    obtain ⟨σ_7, σ_7_e, hi_8, H⟩ := wa_e H
    refine z_last (M := M_L_readBytes) dL_readBytes_8 ly_359 rfl (by decide +kernel) rfl hi_8 σ_7_e ?_
    refine z_goto (M := M_L_readBytes) (tgt := 18) dL_readBytes_9 (by decide) ?_
    refine z_iconst (M := M_L_readBytes) dL_readBytes_18 ?_
    cases H
    exact z_iret (M := M_L_readBytes) dL_readBytes_19 rfl (Nat.le_of_ble_eq_true rfl) (Nat.le_of_ble_eq_true rfl) ⟨rfl, rfl⟩
  · have H := K_5 _ rfl
    rcases if_e H with ⟨h_9, H⟩ | ⟨h_9, H⟩
    · subst h_9
      refine z_callVHX (M := M_L_readBytes) (lv' := [some (vr 32), some (vi p0_0), some (vr 359), none]) (M' := M_X11_readBytes) (as := [vi p0_0]) (rest := [vi 0, vr 359]) rfl dL_readBytes_4 m_X11_readBytes t_957 t_958 t_959 (e := 0) (c_X11_readBytes hl hc_1) rfl rfl ly_32 rfl (Nat.le_of_ble_eq_true rfl) (Nat.le_of_ble_eq_true rfl) (Nat.le_of_ble_eq_true rfl) (Nat.le_of_ble_eq_true rfl) (en_hdn (k0 := 3) [] [(0, 9, 15, 19)] rfl (fun _ h => nomatch h) (by decide +kernel) (by decide) t_739 n_750 dL_readBytes_12) (by decide) rfl rfl ?_
      refine z_iconst (M := M_L_readBytes) dL_readBytes_13 ?_
      cases H
      exact z_iret (M := M_L_readBytes) dL_readBytes_14 rfl (Nat.le_of_ble_eq_true rfl) (Nat.le_of_ble_eq_true rfl) ⟨rfl, rfl⟩
    · rcases if_e H with ⟨h_10, H⟩ | ⟨h_10, H⟩
      · subst h_10
        refine z_callVHX (M := M_L_readBytes) (lv' := [some (vr 32), some (vi p0_0), some (vr 359), none]) (M' := M_X11_readBytes) (as := [vi p0_0]) (rest := [vi 0, vr 359]) rfl dL_readBytes_4 m_X11_readBytes t_957 t_958 t_959 (e := 2) (c_X11_readBytes hl hc_1) rfl rfl ly_32 rfl (Nat.le_of_ble_eq_true rfl) (Nat.le_of_ble_eq_true rfl) (Nat.le_of_ble_eq_true rfl) (Nat.le_of_ble_eq_true rfl) (en_hdn (k0 := 3) [(0, 9, 12, 24)] [] rfl (List.forall_mem_cons.mpr ⟨⟨by decide, "java/lang/IndexOutOfBoundsException", t_739, by decide +kernel, by decide +kernel, by decide +kernel⟩, (fun _ h => nomatch h)⟩) (by decide +kernel) (by decide) t_716 n_723 dL_readBytes_15) (by decide) rfl rfl ?_
        refine z_iconst (M := M_L_readBytes) dL_readBytes_16 ?_
        cases H
        exact z_iret (M := M_L_readBytes) dL_readBytes_17 rfl (Nat.le_of_ble_eq_true rfl) (Nat.le_of_ble_eq_true rfl) ⟨rfl, rfl⟩
      · cases H
theorem c_L_fault (hl : l.stackTraces = false) {σ : SG} {p0_0 : Int} {r : Int} {σ' : SG} (H : fL_fault σ p0_0 = some (r, σ')) : en_S l E M_L_fault 7 1 6 [vr 32, vi p0_0, vr 359] σ (pS (some (vi r)) σ') := by
  unfold fL_fault at H
  refine z_mkW (lv := [some (vr 32), some (vi p0_0), some (vr 359), none]) m_L_fault rfl hl (Nat.le_of_ble_eq_true rfl) rfl ?_
  refine z_aload_n (M := M_L_fault) dL_fault_0 rfl ?_
  refine z_iconst (M := M_L_fault) dL_fault_1 ?_
  refine z_aload_n (M := M_L_fault) dL_fault_2 rfl ?_
  refine z_iload_n (M := M_L_fault) dL_fault_3 rfl ?_
  obtain ⟨z_6, σ_2, hc_1, K_4, K_5⟩ := bw_e H
  rcases z_6 with x_3 | z_6
  · have H := K_4 _ rfl
    refine z_callVHR (M := M_L_fault) (M' := M_X11_fault) (as := [vi p0_0]) (rest := [vi 0, vr 359]) rfl dL_fault_4 m_X11_fault t_1036 t_1037 t_1038 (v := some (vi x_3)) (c_X11_fault hl hc_1) rfl rfl ly_32 rfl (Nat.le_of_ble_eq_true rfl) (Nat.le_of_ble_eq_true rfl) (Nat.le_of_ble_eq_true rfl) (Nat.le_of_ble_eq_true rfl) ?_
    refine z_st (st' := [vi x_3, vi 0, vr 359]) rfl ?_
    refine z_i2l (M := M_L_fault) dL_fault_7 ?_
    obtain ⟨σ_7, σ_7_e, hi_8, H⟩ := wa_e H
    refine z_last (M := M_L_fault) dL_fault_8 ly_359 rfl (by decide +kernel) rfl hi_8 σ_7_e ?_
    refine z_goto (M := M_L_fault) (tgt := 15) dL_fault_9 (by decide) ?_
    refine z_iconst (M := M_L_fault) dL_fault_15 ?_
    cases H
    exact z_iret (M := M_L_fault) dL_fault_16 rfl (Nat.le_of_ble_eq_true rfl) (Nat.le_of_ble_eq_true rfl) ⟨rfl, rfl⟩
  · have H := K_5 _ rfl
    rcases if_e H with ⟨h_9, H⟩ | ⟨h_9, H⟩
    · subst h_9
      refine z_callVHX (M := M_L_fault) (lv' := [some (vr 32), some (vi p0_0), some (vr 359), none]) (M' := M_X11_fault) (as := [vi p0_0]) (rest := [vi 0, vr 359]) rfl dL_fault_4 m_X11_fault t_1036 t_1037 t_1038 (e := 0) (c_X11_fault hl hc_1) rfl rfl ly_32 rfl (Nat.le_of_ble_eq_true rfl) (Nat.le_of_ble_eq_true rfl) (Nat.le_of_ble_eq_true rfl) (Nat.le_of_ble_eq_true rfl) (en_hdn (k0 := 3) [] [] rfl (fun _ h => nomatch h) (by decide +kernel) (by decide) t_739 n_750 dL_fault_12) (by decide) rfl rfl ?_
      refine z_iconst (M := M_L_fault) dL_fault_13 ?_
      cases H
      exact z_iret (M := M_L_fault) dL_fault_14 rfl (Nat.le_of_ble_eq_true rfl) (Nat.le_of_ble_eq_true rfl) ⟨rfl, rfl⟩
    · cases H
theorem c_L_writeWords (hl : l.stackTraces = false) {σ : SG} {p0_0 : Int} {r : Int} {σ' : SG} (H : fL_writeWords σ p0_0 = some (r, σ')) : en_S l E M_L_writeWords 11 2 12 [vr 32, vi p0_0, vr 359] σ (pS (some (vi r)) σ') := by
  unfold fL_writeWords at H
  refine z_mkW (lv := [some (vr 32), some (vi p0_0), some (vr 359), none]) m_L_writeWords rfl hl (Nat.le_of_ble_eq_true rfl) rfl ?_
  refine z_aload_n (M := M_L_writeWords) dL_writeWords_0 rfl ?_
  refine z_iconst (M := M_L_writeWords) dL_writeWords_1 ?_
  refine z_aload_n (M := M_L_writeWords) dL_writeWords_2 rfl ?_
  refine z_iload_n (M := M_L_writeWords) dL_writeWords_3 rfl ?_
  obtain ⟨z_6, σ_2, hc_1, K_4, K_5⟩ := bw_e H
  rcases z_6 with x_3 | z_6
  · have H := K_4 _ rfl
    refine z_callVHR (M := M_L_writeWords) (M' := M_X11_writeWords) (as := [vi p0_0]) (rest := [vi 0, vr 359]) rfl dL_writeWords_4 m_X11_writeWords t_1043 t_1044 t_1045 (v := some (vi x_3)) (c_X11_writeWords hl hc_1) rfl rfl ly_32 rfl (Nat.le_of_ble_eq_true rfl) (Nat.le_of_ble_eq_true rfl) (Nat.le_of_ble_eq_true rfl) (Nat.le_of_ble_eq_true rfl) ?_
    refine z_st (st' := [vi x_3, vi 0, vr 359]) rfl ?_
    refine z_i2l (M := M_L_writeWords) dL_writeWords_7 ?_
    obtain ⟨σ_7, σ_7_e, hi_8, H⟩ := wa_e H
    refine z_last (M := M_L_writeWords) dL_writeWords_8 ly_359 rfl (by decide +kernel) rfl hi_8 σ_7_e ?_
    refine z_goto (M := M_L_writeWords) (tgt := 18) dL_writeWords_9 (by decide) ?_
    refine z_iconst (M := M_L_writeWords) dL_writeWords_18 ?_
    cases H
    exact z_iret (M := M_L_writeWords) dL_writeWords_19 rfl (Nat.le_of_ble_eq_true rfl) (Nat.le_of_ble_eq_true rfl) ⟨rfl, rfl⟩
  · have H := K_5 _ rfl
    rcases if_e H with ⟨h_9, H⟩ | ⟨h_9, H⟩
    · subst h_9
      refine z_callVHX (M := M_L_writeWords) (lv' := [some (vr 32), some (vi p0_0), some (vr 359), none]) (M' := M_X11_writeWords) (as := [vi p0_0]) (rest := [vi 0, vr 359]) rfl dL_writeWords_4 m_X11_writeWords t_1043 t_1044 t_1045 (e := 0) (c_X11_writeWords hl hc_1) rfl rfl ly_32 rfl (Nat.le_of_ble_eq_true rfl) (Nat.le_of_ble_eq_true rfl) (Nat.le_of_ble_eq_true rfl) (Nat.le_of_ble_eq_true rfl) (en_hdn (k0 := 3) [] [(0, 9, 15, 13)] rfl (fun _ h => nomatch h) (by decide +kernel) (by decide) t_739 n_750 dL_writeWords_12) (by decide) rfl rfl ?_
      refine z_iconst (M := M_L_writeWords) dL_writeWords_13 ?_
      cases H
      exact z_iret (M := M_L_writeWords) dL_writeWords_14 rfl (Nat.le_of_ble_eq_true rfl) (Nat.le_of_ble_eq_true rfl) ⟨rfl, rfl⟩
    · rcases if_e H with ⟨h_10, H⟩ | ⟨h_10, H⟩
      · subst h_10
        refine z_callVHX (M := M_L_writeWords) (lv' := [some (vr 32), some (vi p0_0), some (vr 359), none]) (M' := M_X11_writeWords) (as := [vi p0_0]) (rest := [vi 0, vr 359]) rfl dL_writeWords_4 m_X11_writeWords t_1043 t_1044 t_1045 (e := 1) (c_X11_writeWords hl hc_1) rfl rfl ly_32 rfl (Nat.le_of_ble_eq_true rfl) (Nat.le_of_ble_eq_true rfl) (Nat.le_of_ble_eq_true rfl) (Nat.le_of_ble_eq_true rfl) (en_hdn (k0 := 3) [(0, 9, 12, 24)] [] rfl (List.forall_mem_cons.mpr ⟨⟨by decide, "java/lang/IndexOutOfBoundsException", t_739, by decide +kernel, by decide +kernel, by decide +kernel⟩, (fun _ h => nomatch h)⟩) (by decide +kernel) (by decide) t_637 n_645 dL_writeWords_15) (by decide) rfl rfl ?_
        refine z_iconst (M := M_L_writeWords) dL_writeWords_16 ?_
        cases H
        exact z_iret (M := M_L_writeWords) dL_writeWords_17 rfl (Nat.le_of_ble_eq_true rfl) (Nat.le_of_ble_eq_true rfl) ⟨rfl, rfl⟩
      · cases H
theorem c_L_writeBytes (hl : l.stackTraces = false) {σ : SG} {p0_0 : Int} {p1_0 : Int} {r : Int} {σ' : SG} (H : fL_writeBytes σ p0_0 p1_0 = some (r, σ')) : en_S l E M_L_writeBytes 8 3 18 [vr 32, vi p0_0, vi p1_0, vr 359] σ (pS (some (vi r)) σ') := by
  unfold fL_writeBytes at H
  refine z_mkW (lv := [some (vr 32), some (vi p0_0), some (vi p1_0), some (vr 359), none]) m_L_writeBytes rfl hl (Nat.le_of_ble_eq_true rfl) rfl ?_
  refine z_aload_n (M := M_L_writeBytes) dL_writeBytes_0 rfl ?_
  refine z_iconst (M := M_L_writeBytes) dL_writeBytes_1 ?_
  refine z_aload_n (M := M_L_writeBytes) dL_writeBytes_2 rfl ?_
  refine z_iload_n (M := M_L_writeBytes) dL_writeBytes_3 rfl ?_
  refine z_iload_n (M := M_L_writeBytes) dL_writeBytes_4 rfl ?_
  obtain ⟨z_6, σ_2, hc_1, K_4, K_5⟩ := bw_e H
  rcases z_6 with x_3 | z_6
  · have H := K_4 _ rfl
    refine z_callVHR (M := M_L_writeBytes) (M' := M_X11_writeBytes) (as := [vi p0_0, vi p1_0]) (rest := [vi 0, vr 359]) rfl dL_writeBytes_5 m_X11_writeBytes t_1113 t_1114 t_1115 (v := some (vi x_3)) (c_X11_writeBytes hl hc_1) rfl rfl ly_32 rfl (Nat.le_of_ble_eq_true rfl) (Nat.le_of_ble_eq_true rfl) (Nat.le_of_ble_eq_true rfl) (Nat.le_of_ble_eq_true rfl) ?_
    refine z_st (st' := [vi x_3, vi 0, vr 359]) rfl ?_
    refine z_i2l (M := M_L_writeBytes) dL_writeBytes_8 ?_
    obtain ⟨σ_7, σ_7_e, hi_8, H⟩ := wa_e H
    refine z_last (M := M_L_writeBytes) dL_writeBytes_9 ly_359 rfl (by decide +kernel) rfl hi_8 σ_7_e ?_
    refine z_goto (M := M_L_writeBytes) (tgt := 25) dL_writeBytes_10 (by decide) ?_
    refine z_iconst (M := M_L_writeBytes) dL_writeBytes_25 ?_
    cases H
    exact z_iret (M := M_L_writeBytes) dL_writeBytes_26 rfl (Nat.le_of_ble_eq_true rfl) (Nat.le_of_ble_eq_true rfl) ⟨rfl, rfl⟩
  · have H := K_5 _ rfl
    rcases if_e H with ⟨h_9, H⟩ | ⟨h_9, H⟩
    · subst h_9
      refine z_callVHX (M := M_L_writeBytes) (lv' := [some (vr 32), some (vi p0_0), some (vi p1_0), some (vr 359), none]) (M' := M_X11_writeBytes) (as := [vi p0_0, vi p1_0]) (rest := [vi 0, vr 359]) rfl dL_writeBytes_5 m_X11_writeBytes t_1113 t_1114 t_1115 (e := 0) (c_X11_writeBytes hl hc_1) rfl rfl ly_32 rfl (Nat.le_of_ble_eq_true rfl) (Nat.le_of_ble_eq_true rfl) (Nat.le_of_ble_eq_true rfl) (Nat.le_of_ble_eq_true rfl) (en_hdm (k0 := 4) [] [(0, 10, 17, 13), (0, 10, 21, 19)] rfl (fun _ h => nomatch h) (by decide +kernel) (by decide) t_739 n_750 dL_writeBytes_13) (by decide) rfl rfl ?_
      refine z_iconst (M := M_L_writeBytes) dL_writeBytes_15 ?_
      cases H
      exact z_iret (M := M_L_writeBytes) dL_writeBytes_16 rfl (Nat.le_of_ble_eq_true rfl) (Nat.le_of_ble_eq_true rfl) ⟨rfl, rfl⟩
    · rcases if_e H with ⟨h_10, H⟩ | ⟨h_10, H⟩
      · subst h_10
        refine z_callVHX (M := M_L_writeBytes) (lv' := [some (vr 32), some (vi p0_0), some (vi p1_0), some (vr 359), none]) (M' := M_X11_writeBytes) (as := [vi p0_0, vi p1_0]) (rest := [vi 0, vr 359]) rfl dL_writeBytes_5 m_X11_writeBytes t_1113 t_1114 t_1115 (e := 1) (c_X11_writeBytes hl hc_1) rfl rfl ly_32 rfl (Nat.le_of_ble_eq_true rfl) (Nat.le_of_ble_eq_true rfl) (Nat.le_of_ble_eq_true rfl) (Nat.le_of_ble_eq_true rfl) (en_hdm (k0 := 4) [(0, 10, 13, 24)] [(0, 10, 21, 19)] rfl (List.forall_mem_cons.mpr ⟨⟨by decide, "java/lang/IndexOutOfBoundsException", t_739, by decide +kernel, by decide +kernel, by decide +kernel⟩, (fun _ h => nomatch h)⟩) (by decide +kernel) (by decide) t_637 n_645 dL_writeBytes_17) (by decide) rfl rfl ?_
        refine z_iconst (M := M_L_writeBytes) dL_writeBytes_19 ?_
        cases H
        exact z_iret (M := M_L_writeBytes) dL_writeBytes_20 rfl (Nat.le_of_ble_eq_true rfl) (Nat.le_of_ble_eq_true rfl) ⟨rfl, rfl⟩
      · rcases if_e H with ⟨h_11, H⟩ | ⟨h_11, H⟩
        · subst h_11
          refine z_callVHX (M := M_L_writeBytes) (lv' := [some (vr 32), some (vi p0_0), some (vi p1_0), some (vr 359), none]) (M' := M_X11_writeBytes) (as := [vi p0_0, vi p1_0]) (rest := [vi 0, vr 359]) rfl dL_writeBytes_5 m_X11_writeBytes t_1113 t_1114 t_1115 (e := 2) (c_X11_writeBytes hl hc_1) rfl rfl ly_32 rfl (Nat.le_of_ble_eq_true rfl) (Nat.le_of_ble_eq_true rfl) (Nat.le_of_ble_eq_true rfl) (Nat.le_of_ble_eq_true rfl) (en_hdm (k0 := 4) [(0, 10, 13, 24), (0, 10, 17, 13)] [] rfl (List.forall_mem_cons.mpr ⟨⟨by decide, "java/lang/IndexOutOfBoundsException", t_739, by decide +kernel, by decide +kernel, by decide +kernel⟩, (List.forall_mem_cons.mpr ⟨⟨by decide, "java/lang/IllegalStateException", t_637, by decide +kernel, by decide +kernel, by decide +kernel⟩, (fun _ h => nomatch h)⟩)⟩) (by decide +kernel) (by decide) t_716 n_723 dL_writeBytes_21) (by decide) rfl rfl ?_
          refine z_iconst (M := M_L_writeBytes) dL_writeBytes_23 ?_
          cases H
          exact z_iret (M := M_L_writeBytes) dL_writeBytes_24 rfl (Nat.le_of_ble_eq_true rfl) (Nat.le_of_ble_eq_true rfl) ⟨rfl, rfl⟩
        · cases H
theorem c_L_byteAt (hl : l.stackTraces = false) {σ : SG} {p0_0 : Int} {r : Int} {σ' : SG} (H : fL_byteAt σ p0_0 = some (r, σ')) : en_S l E M_L_byteAt 7 1 6 [vr 32, vi p0_0, vr 359] σ (pS (some (vi r)) σ') := by
  unfold fL_byteAt at H
  refine z_mkW (lv := [some (vr 32), some (vi p0_0), some (vr 359), none]) m_L_byteAt rfl hl (Nat.le_of_ble_eq_true rfl) rfl ?_
  refine z_aload_n (M := M_L_byteAt) dL_byteAt_0 rfl ?_
  refine z_iconst (M := M_L_byteAt) dL_byteAt_1 ?_
  refine z_aload_n (M := M_L_byteAt) dL_byteAt_2 rfl ?_
  refine z_iload_n (M := M_L_byteAt) dL_byteAt_3 rfl ?_
  obtain ⟨z_6, σ_2, hc_1, K_4, K_5⟩ := bw_e H
  rcases z_6 with x_3 | z_6
  · have H := K_4 _ rfl
    refine z_callVHR (M := M_L_byteAt) (M' := M_X11_byteAt) (as := [vi p0_0]) (rest := [vi 0, vr 359]) rfl dL_byteAt_4 m_X11_byteAt t_1139 t_1140 t_1141 (v := some (vi x_3)) (c_X11_byteAt hl hc_1) rfl rfl ly_32 rfl (Nat.le_of_ble_eq_true rfl) (Nat.le_of_ble_eq_true rfl) (Nat.le_of_ble_eq_true rfl) (Nat.le_of_ble_eq_true rfl) ?_
    refine z_st (st' := [vi x_3, vi 0, vr 359]) rfl ?_
    refine z_i2l (M := M_L_byteAt) dL_byteAt_7 ?_
    obtain ⟨σ_7, σ_7_e, hi_8, H⟩ := wa_e H
    refine z_last (M := M_L_byteAt) dL_byteAt_8 ly_359 rfl (by decide +kernel) rfl hi_8 σ_7_e ?_
    refine z_goto (M := M_L_byteAt) (tgt := 15) dL_byteAt_9 (by decide) ?_
    refine z_iconst (M := M_L_byteAt) dL_byteAt_15 ?_
    cases H
    exact z_iret (M := M_L_byteAt) dL_byteAt_16 rfl (Nat.le_of_ble_eq_true rfl) (Nat.le_of_ble_eq_true rfl) ⟨rfl, rfl⟩
  · have H := K_5 _ rfl
    rcases if_e H with ⟨h_9, H⟩ | ⟨h_9, H⟩
    · subst h_9
      refine z_callVHX (M := M_L_byteAt) (lv' := [some (vr 32), some (vi p0_0), some (vr 359), none]) (M' := M_X11_byteAt) (as := [vi p0_0]) (rest := [vi 0, vr 359]) rfl dL_byteAt_4 m_X11_byteAt t_1139 t_1140 t_1141 (e := 0) (c_X11_byteAt hl hc_1) rfl rfl ly_32 rfl (Nat.le_of_ble_eq_true rfl) (Nat.le_of_ble_eq_true rfl) (Nat.le_of_ble_eq_true rfl) (Nat.le_of_ble_eq_true rfl) (en_hdn (k0 := 3) [] [] rfl (fun _ h => nomatch h) (by decide +kernel) (by decide) t_739 n_750 dL_byteAt_12) (by decide) rfl rfl ?_
      refine z_iconst (M := M_L_byteAt) dL_byteAt_13 ?_
      cases H
      exact z_iret (M := M_L_byteAt) dL_byteAt_14 rfl (Nat.le_of_ble_eq_true rfl) (Nat.le_of_ble_eq_true rfl) ⟨rfl, rfl⟩
    · cases H
theorem c_L_copy (hl : l.stackTraces = false) {σ : SG} {p0_0 : Int} {p1_0 : Int} {r : Int} {σ' : SG} (H : fL_copy σ p0_0 p1_0 = some (r, σ')) : en_S l E M_L_copy 8 3 18 [vr 32, vi p0_0, vi p1_0, vr 359] σ (pS (some (vi r)) σ') := by
  unfold fL_copy at H
  refine z_mkW (lv := [some (vr 32), some (vi p0_0), some (vi p1_0), some (vr 359), none]) m_L_copy rfl hl (Nat.le_of_ble_eq_true rfl) rfl ?_
  refine z_aload_n (M := M_L_copy) dL_copy_0 rfl ?_
  refine z_iconst (M := M_L_copy) dL_copy_1 ?_
  refine z_aload_n (M := M_L_copy) dL_copy_2 rfl ?_
  refine z_iload_n (M := M_L_copy) dL_copy_3 rfl ?_
  refine z_iload_n (M := M_L_copy) dL_copy_4 rfl ?_
  obtain ⟨z_6, σ_2, hc_1, K_4, K_5⟩ := bw_e H
  rcases z_6 with x_3 | z_6
  · have H := K_4 _ rfl
    refine z_callVHR (M := M_L_copy) (M' := M_X11_copy) (as := [vi p0_0, vi p1_0]) (rest := [vi 0, vr 359]) rfl dL_copy_5 m_X11_copy t_1146 t_1147 t_1148 (v := some (vi x_3)) (c_X11_copy hl hc_1) rfl rfl ly_32 rfl (Nat.le_of_ble_eq_true rfl) (Nat.le_of_ble_eq_true rfl) (Nat.le_of_ble_eq_true rfl) (Nat.le_of_ble_eq_true rfl) ?_
    refine z_st (st' := [vi x_3, vi 0, vr 359]) rfl ?_
    refine z_i2l (M := M_L_copy) dL_copy_8 ?_
    obtain ⟨σ_7, σ_7_e, hi_8, H⟩ := wa_e H
    refine z_last (M := M_L_copy) dL_copy_9 ly_359 rfl (by decide +kernel) rfl hi_8 σ_7_e ?_
    refine z_goto (M := M_L_copy) (tgt := 21) dL_copy_10 (by decide) ?_
    refine z_iconst (M := M_L_copy) dL_copy_21 ?_
    cases H
    exact z_iret (M := M_L_copy) dL_copy_22 rfl (Nat.le_of_ble_eq_true rfl) (Nat.le_of_ble_eq_true rfl) ⟨rfl, rfl⟩
  · have H := K_5 _ rfl
    rcases if_e H with ⟨h_9, H⟩ | ⟨h_9, H⟩
    · subst h_9
      refine z_callVHX (M := M_L_copy) (lv' := [some (vr 32), some (vi p0_0), some (vi p1_0), some (vr 359), none]) (M' := M_X11_copy) (as := [vi p0_0, vi p1_0]) (rest := [vi 0, vr 359]) rfl dL_copy_5 m_X11_copy t_1146 t_1147 t_1148 (e := 0) (c_X11_copy hl hc_1) rfl rfl ly_32 rfl (Nat.le_of_ble_eq_true rfl) (Nat.le_of_ble_eq_true rfl) (Nat.le_of_ble_eq_true rfl) (Nat.le_of_ble_eq_true rfl) (en_hdm (k0 := 4) [] [(0, 10, 17, 13)] rfl (fun _ h => nomatch h) (by decide +kernel) (by decide) t_739 n_750 dL_copy_13) (by decide) rfl rfl ?_
      refine z_iconst (M := M_L_copy) dL_copy_15 ?_
      cases H
      exact z_iret (M := M_L_copy) dL_copy_16 rfl (Nat.le_of_ble_eq_true rfl) (Nat.le_of_ble_eq_true rfl) ⟨rfl, rfl⟩
    · rcases if_e H with ⟨h_10, H⟩ | ⟨h_10, H⟩
      · subst h_10
        refine z_callVHX (M := M_L_copy) (lv' := [some (vr 32), some (vi p0_0), some (vi p1_0), some (vr 359), none]) (M' := M_X11_copy) (as := [vi p0_0, vi p1_0]) (rest := [vi 0, vr 359]) rfl dL_copy_5 m_X11_copy t_1146 t_1147 t_1148 (e := 1) (c_X11_copy hl hc_1) rfl rfl ly_32 rfl (Nat.le_of_ble_eq_true rfl) (Nat.le_of_ble_eq_true rfl) (Nat.le_of_ble_eq_true rfl) (Nat.le_of_ble_eq_true rfl) (en_hdm (k0 := 4) [(0, 10, 13, 24)] [] rfl (List.forall_mem_cons.mpr ⟨⟨by decide, "java/lang/IndexOutOfBoundsException", t_739, by decide +kernel, by decide +kernel, by decide +kernel⟩, (fun _ h => nomatch h)⟩) (by decide +kernel) (by decide) t_637 n_645 dL_copy_17) (by decide) rfl rfl ?_
        refine z_iconst (M := M_L_copy) dL_copy_19 ?_
        cases H
        exact z_iret (M := M_L_copy) dL_copy_20 rfl (Nat.le_of_ble_eq_true rfl) (Nat.le_of_ble_eq_true rfl) ⟨rfl, rfl⟩
      · cases H
theorem c_L_drop (hl : l.stackTraces = false) {σ : SG} {p0_0 : Int} {r : Int} {σ' : SG} (H : fL_drop σ p0_0 = some (r, σ')) : en_S l E M_L_drop 8 1 6 [vr 32, vi p0_0, vr 359] σ (pS (some (vi r)) σ') := by
  unfold fL_drop at H
  refine z_mkW (lv := [some (vr 32), some (vi p0_0), some (vr 359), none]) m_L_drop rfl hl (Nat.le_of_ble_eq_true rfl) rfl ?_
  refine z_aload_n (M := M_L_drop) dL_drop_0 rfl ?_
  refine z_iconst (M := M_L_drop) dL_drop_1 ?_
  obtain ⟨v_16, he_17, hk_18, hk_1⟩ := bx_e H
  have J_19 : ∀ x_12 σ_13, v_16 = (.inl (x_12, σ_13)) → YY l E M_L_drop 8 1 6 (pS (some (vi r)) σ') 15 [some (vr 32), some (vi p0_0), some (vr 359), none] [vl x_12, vi 0, vr 359] σ_13 1 6 := by
    intro x_12 σ_13 e
    have H := hk_18 _ e
    obtain ⟨σ_14, σ_14_e, hi_15, H⟩ := wa_e H
    refine z_last (M := M_L_drop) dL_drop_15 ly_359 rfl (by decide +kernel) rfl hi_15 σ_14_e ?_
    refine z_goto (M := M_L_drop) (tgt := 22) dL_drop_16 (by decide) ?_
    refine z_iconst (M := M_L_drop) dL_drop_22 ?_
    cases H
    exact z_iret (M := M_L_drop) dL_drop_23 rfl (Nat.le_of_ble_eq_true rfl) (Nat.le_of_ble_eq_true rfl) ⟨rfl, rfl⟩
  have H := he_17
  refine z_aload_n (M := M_L_drop) dL_drop_2 rfl ?_
  refine z_iload_n (M := M_L_drop) dL_drop_3 rfl ?_
  obtain ⟨z_7, σ_3, hc_2, K_5, K_6⟩ := bw_e H
  rcases z_7 with x_4 | z_7
  · have H := K_5 _ rfl
    refine z_callVHR (M := M_L_drop) (M' := M_X11_drop) (as := [vi p0_0]) (rest := [vi 0, vr 359]) rfl dL_drop_4 m_X11_drop t_1158 t_1159 t_1160 (v := some (zv x_4)) (c_X11_drop hl hc_2) rfl rfl ly_32 rfl (Nat.le_of_ble_eq_true rfl) (Nat.le_of_ble_eq_true rfl) (Nat.le_of_ble_eq_true rfl) (Nat.le_of_ble_eq_true rfl) ?_
    refine z_st (st' := [zv x_4, vi 0, vr 359]) rfl ?_
    rcases if_e H with ⟨h_8, H⟩ | ⟨h_8, H⟩
    · refine z_zeq_f (M := M_L_drop) (tgt := 14) dL_drop_7 (by decide) h_8 ?_
      refine z_lconst (M := M_L_drop) (m := 1) dL_drop_10 (by decide +kernel) ?_
      refine z_goto (M := M_L_drop) (tgt := 15) dL_drop_11 (by decide) ?_
      exact J_19 _ _ (Option.some.inj H).symm
    · refine z_zeq_t (M := M_L_drop) (tgt := 14) dL_drop_7 (by decide) h_8 ?_
      refine z_lconst (M := M_L_drop) (m := 0) dL_drop_14 (by decide +kernel) ?_
      exact J_19 _ _ (Option.some.inj H).symm
  · have H := K_6 _ rfl
    rcases if_e H with ⟨h_11, H⟩ | ⟨h_11, H⟩
    · subst h_11
      refine z_callVHX (M := M_L_drop) (lv' := [some (vr 32), some (vi p0_0), some (vr 359), none]) (M' := M_X11_drop) (as := [vi p0_0]) (rest := [vi 0, vr 359]) rfl dL_drop_4 m_X11_drop t_1158 t_1159 t_1160 (e := 0) (c_X11_drop hl hc_2) rfl rfl ly_32 rfl (Nat.le_of_ble_eq_true rfl) (Nat.le_of_ble_eq_true rfl) (Nat.le_of_ble_eq_true rfl) (Nat.le_of_ble_eq_true rfl) (en_hdn (k0 := 3) [] [] rfl (fun _ h => nomatch h) (by decide +kernel) (by decide) t_739 n_750 dL_drop_19) (by decide) rfl rfl ?_
      refine z_iconst (M := M_L_drop) dL_drop_20 ?_
      have H := congrArg some (hk_1 _ (Option.some.inj H).symm)
      cases H
      exact z_iret (M := M_L_drop) dL_drop_21 rfl (Nat.le_of_ble_eq_true rfl) (Nat.le_of_ble_eq_true rfl) ⟨rfl, rfl⟩
    · cases H
theorem c_L_same (hl : l.stackTraces = false) {σ : SG} {p0_0 : Int} {p1_0 : Int} {r : Int} {σ' : SG} (H : fL_same σ p0_0 p1_0 = some (r, σ')) : en_S l E M_L_same 8 2 12 [vr 32, vi p0_0, vi p1_0, vr 359] σ (pS (some (vi r)) σ') := by
  unfold fL_same at H
  refine z_mkW (lv := [some (vr 32), some (vi p0_0), some (vi p1_0), some (vr 359), none]) m_L_same rfl hl (Nat.le_of_ble_eq_true rfl) rfl ?_
  refine z_aload_n (M := M_L_same) dL_same_0 rfl ?_
  refine z_iconst (M := M_L_same) dL_same_1 ?_
  obtain ⟨v_16, he_17, hk_18, hk_1⟩ := bx_e H
  have J_19 : ∀ x_12 σ_13, v_16 = (.inl (x_12, σ_13)) → YY l E M_L_same 8 2 12 (pS (some (vi r)) σ') 16 [some (vr 32), some (vi p0_0), some (vi p1_0), some (vr 359), none] [vl x_12, vi 0, vr 359] σ_13 2 12 := by
    intro x_12 σ_13 e
    have H := hk_18 _ e
    obtain ⟨σ_14, σ_14_e, hi_15, H⟩ := wa_e H
    refine z_last (M := M_L_same) dL_same_16 ly_359 rfl (by decide +kernel) rfl hi_15 σ_14_e ?_
    refine z_goto (M := M_L_same) (tgt := 24) dL_same_17 (by decide) ?_
    refine z_iconst (M := M_L_same) dL_same_24 ?_
    cases H
    exact z_iret (M := M_L_same) dL_same_25 rfl (Nat.le_of_ble_eq_true rfl) (Nat.le_of_ble_eq_true rfl) ⟨rfl, rfl⟩
  have H := he_17
  refine z_aload_n (M := M_L_same) dL_same_2 rfl ?_
  refine z_iload_n (M := M_L_same) dL_same_3 rfl ?_
  refine z_iload_n (M := M_L_same) dL_same_4 rfl ?_
  obtain ⟨z_7, σ_3, hc_2, K_5, K_6⟩ := bw_e H
  rcases z_7 with x_4 | z_7
  · have H := K_5 _ rfl
    refine z_callVHR (M := M_L_same) (M' := M_X11_same) (as := [vi p0_0, vi p1_0]) (rest := [vi 0, vr 359]) rfl dL_same_5 m_X11_same t_1165 t_1166 t_1167 (v := some (zv x_4)) (c_X11_same hl hc_2) rfl rfl ly_32 rfl (Nat.le_of_ble_eq_true rfl) (Nat.le_of_ble_eq_true rfl) (Nat.le_of_ble_eq_true rfl) (Nat.le_of_ble_eq_true rfl) ?_
    refine z_st (st' := [zv x_4, vi 0, vr 359]) rfl ?_
    rcases if_e H with ⟨h_8, H⟩ | ⟨h_8, H⟩
    · refine z_zeq_f (M := M_L_same) (tgt := 15) dL_same_8 (by decide) h_8 ?_
      refine z_lconst (M := M_L_same) (m := 1) dL_same_11 (by decide +kernel) ?_
      refine z_goto (M := M_L_same) (tgt := 16) dL_same_12 (by decide) ?_
      exact J_19 _ _ (Option.some.inj H).symm
    · refine z_zeq_t (M := M_L_same) (tgt := 15) dL_same_8 (by decide) h_8 ?_
      refine z_lconst (M := M_L_same) (m := 0) dL_same_15 (by decide +kernel) ?_
      exact J_19 _ _ (Option.some.inj H).symm
  · have H := K_6 _ rfl
    rcases if_e H with ⟨h_11, H⟩ | ⟨h_11, H⟩
    · subst h_11
      refine z_callVHX (M := M_L_same) (lv' := [some (vr 32), some (vi p0_0), some (vi p1_0), some (vr 359), none]) (M' := M_X11_same) (as := [vi p0_0, vi p1_0]) (rest := [vi 0, vr 359]) rfl dL_same_5 m_X11_same t_1165 t_1166 t_1167 (e := 0) (c_X11_same hl hc_2) rfl rfl ly_32 rfl (Nat.le_of_ble_eq_true rfl) (Nat.le_of_ble_eq_true rfl) (Nat.le_of_ble_eq_true rfl) (Nat.le_of_ble_eq_true rfl) (en_hdm (k0 := 4) [] [] rfl (fun _ h => nomatch h) (by decide +kernel) (by decide) t_739 n_750 dL_same_20) (by decide) rfl rfl ?_
      refine z_iconst (M := M_L_same) dL_same_22 ?_
      have H := congrArg some (hk_1 _ (Option.some.inj H).symm)
      cases H
      exact z_iret (M := M_L_same) dL_same_23 rfl (Nat.le_of_ble_eq_true rfl) (Nat.le_of_ble_eq_true rfl) ⟨rfl, rfl⟩
    · cases H
theorem c_L_judge (hl : l.stackTraces = false) {σ : SG} {p0_0 : Int} {r : Int} {σ' : SG} (H : fL_judge σ p0_0 = some (r, σ')) : en_S l E M_L_judge 10 2 12 [vr 32, vi p0_0, vr 359] σ (pS (some (vi r)) σ') := by
  unfold fL_judge at H
  refine z_mkW (lv := [some (vr 32), some (vi p0_0), some (vr 359), none]) m_L_judge rfl hl (Nat.le_of_ble_eq_true rfl) rfl ?_
  refine z_aload_n (M := M_L_judge) dL_judge_0 rfl ?_
  refine z_iconst (M := M_L_judge) dL_judge_1 ?_
  refine z_aload_n (M := M_L_judge) dL_judge_2 rfl ?_
  refine z_iload_n (M := M_L_judge) dL_judge_3 rfl ?_
  obtain ⟨z_6, σ_2, hc_1, K_4, K_5⟩ := bw_e H
  rcases z_6 with x_3 | z_6
  · have H := K_4 _ rfl
    refine z_callVHR (M := M_L_judge) (M' := M_X11_judge) (as := [vi p0_0]) (rest := [vi 0, vr 359]) rfl dL_judge_4 m_X11_judge t_1176 t_1177 t_1178 (v := some (vi x_3)) (c_X11_judge hl hc_1) rfl rfl ly_32 rfl (Nat.le_of_ble_eq_true rfl) (Nat.le_of_ble_eq_true rfl) (Nat.le_of_ble_eq_true rfl) (Nat.le_of_ble_eq_true rfl) ?_
    refine z_st (st' := [vi x_3, vi 0, vr 359]) rfl ?_
    refine z_i2l (M := M_L_judge) dL_judge_7 ?_
    obtain ⟨σ_7, σ_7_e, hi_8, H⟩ := wa_e H
    refine z_last (M := M_L_judge) dL_judge_8 ly_359 rfl (by decide +kernel) rfl hi_8 σ_7_e ?_
    refine z_goto (M := M_L_judge) (tgt := 18) dL_judge_9 (by decide) ?_
    refine z_iconst (M := M_L_judge) dL_judge_18 ?_
    cases H
    exact z_iret (M := M_L_judge) dL_judge_19 rfl (Nat.le_of_ble_eq_true rfl) (Nat.le_of_ble_eq_true rfl) ⟨rfl, rfl⟩
  · have H := K_5 _ rfl
    rcases if_e H with ⟨h_9, H⟩ | ⟨h_9, H⟩
    · subst h_9
      refine z_callVHX (M := M_L_judge) (lv' := [some (vr 32), some (vi p0_0), some (vr 359), none]) (M' := M_X11_judge) (as := [vi p0_0]) (rest := [vi 0, vr 359]) rfl dL_judge_4 m_X11_judge t_1176 t_1177 t_1178 (e := 0) (c_X11_judge hl hc_1) rfl rfl ly_32 rfl (Nat.le_of_ble_eq_true rfl) (Nat.le_of_ble_eq_true rfl) (Nat.le_of_ble_eq_true rfl) (Nat.le_of_ble_eq_true rfl) (en_hdn (k0 := 3) [] [(0, 9, 15, 13)] rfl (fun _ h => nomatch h) (by decide +kernel) (by decide) t_739 n_750 dL_judge_12) (by decide) rfl rfl ?_
      refine z_iconst (M := M_L_judge) dL_judge_13 ?_
      cases H
      exact z_iret (M := M_L_judge) dL_judge_14 rfl (Nat.le_of_ble_eq_true rfl) (Nat.le_of_ble_eq_true rfl) ⟨rfl, rfl⟩
    · rcases if_e H with ⟨h_10, H⟩ | ⟨h_10, H⟩
      · subst h_10
        refine z_callVHX (M := M_L_judge) (lv' := [some (vr 32), some (vi p0_0), some (vr 359), none]) (M' := M_X11_judge) (as := [vi p0_0]) (rest := [vi 0, vr 359]) rfl dL_judge_4 m_X11_judge t_1176 t_1177 t_1178 (e := 1) (c_X11_judge hl hc_1) rfl rfl ly_32 rfl (Nat.le_of_ble_eq_true rfl) (Nat.le_of_ble_eq_true rfl) (Nat.le_of_ble_eq_true rfl) (Nat.le_of_ble_eq_true rfl) (en_hdn (k0 := 3) [(0, 9, 12, 24)] [] rfl (List.forall_mem_cons.mpr ⟨⟨by decide, "java/lang/IndexOutOfBoundsException", t_739, by decide +kernel, by decide +kernel, by decide +kernel⟩, (fun _ h => nomatch h)⟩) (by decide +kernel) (by decide) t_637 n_645 dL_judge_15) (by decide) rfl rfl ?_
        refine z_iconst (M := M_L_judge) dL_judge_16 ?_
        cases H
        exact z_iret (M := M_L_judge) dL_judge_17 rfl (Nat.le_of_ble_eq_true rfl) (Nat.le_of_ble_eq_true rfl) ⟨rfl, rfl⟩
      · cases H
theorem c_L_place (hl : l.stackTraces = false) {σ : SG} {p0_0 : Int} {r : Int} {σ' : SG} (H : fL_place σ p0_0 = some (r, σ')) : en_S l E M_L_place 7 1 6 [vr 32, vi p0_0, vr 359] σ (pS (some (vi r)) σ') := by
  unfold fL_place at H
  refine z_mkW (lv := [some (vr 32), some (vi p0_0), some (vr 359), none]) m_L_place rfl hl (Nat.le_of_ble_eq_true rfl) rfl ?_
  refine z_aload_n (M := M_L_place) dL_place_0 rfl ?_
  refine z_iconst (M := M_L_place) dL_place_1 ?_
  refine z_aload_n (M := M_L_place) dL_place_2 rfl ?_
  refine z_iload_n (M := M_L_place) dL_place_3 rfl ?_
  obtain ⟨z_6, σ_2, hc_1, K_4, K_5⟩ := bw_e H
  rcases z_6 with x_3 | z_6
  · have H := K_4 _ rfl
    refine z_callVHR (M := M_L_place) (M' := M_X11_place) (as := [vi p0_0]) (rest := [vi 0, vr 359]) rfl dL_place_4 m_X11_place t_1365 t_1366 t_1367 (v := some (vi x_3)) (c_X11_place hl hc_1) rfl rfl ly_32 rfl (Nat.le_of_ble_eq_true rfl) (Nat.le_of_ble_eq_true rfl) (Nat.le_of_ble_eq_true rfl) (Nat.le_of_ble_eq_true rfl) ?_
    refine z_st (st' := [vi x_3, vi 0, vr 359]) rfl ?_
    refine z_i2l (M := M_L_place) dL_place_7 ?_
    obtain ⟨σ_7, σ_7_e, hi_8, H⟩ := wa_e H
    refine z_last (M := M_L_place) dL_place_8 ly_359 rfl (by decide +kernel) rfl hi_8 σ_7_e ?_
    refine z_goto (M := M_L_place) (tgt := 15) dL_place_9 (by decide) ?_
    refine z_iconst (M := M_L_place) dL_place_15 ?_
    cases H
    exact z_iret (M := M_L_place) dL_place_16 rfl (Nat.le_of_ble_eq_true rfl) (Nat.le_of_ble_eq_true rfl) ⟨rfl, rfl⟩
  · have H := K_5 _ rfl
    rcases if_e H with ⟨h_9, H⟩ | ⟨h_9, H⟩
    · subst h_9
      refine z_callVHX (M := M_L_place) (lv' := [some (vr 32), some (vi p0_0), some (vr 359), none]) (M' := M_X11_place) (as := [vi p0_0]) (rest := [vi 0, vr 359]) rfl dL_place_4 m_X11_place t_1365 t_1366 t_1367 (e := 0) (c_X11_place hl hc_1) rfl rfl ly_32 rfl (Nat.le_of_ble_eq_true rfl) (Nat.le_of_ble_eq_true rfl) (Nat.le_of_ble_eq_true rfl) (Nat.le_of_ble_eq_true rfl) (en_hdn (k0 := 3) [] [] rfl (fun _ h => nomatch h) (by decide +kernel) (by decide) t_739 n_750 dL_place_12) (by decide) rfl rfl ?_
      refine z_iconst (M := M_L_place) dL_place_13 ?_
      cases H
      exact z_iret (M := M_L_place) dL_place_14 rfl (Nat.le_of_ble_eq_true rfl) (Nat.le_of_ble_eq_true rfl) ⟨rfl, rfl⟩
    · cases H
theorem c_L_overlay (hl : l.stackTraces = false) {σ : SG} {p0_0 : Int} {p1_0 : Int} {p2_0 : Int} {p3_0 : Int} {r : Int} {σ' : SG} (H : fL_overlay σ p0_0 p1_0 p2_0 p3_0 = some (r, σ')) : en_S l E M_L_overlay 10 6 36 [vr 32, vi p0_0, vi p1_0, vi p2_0, vi p3_0, vr 359] σ (pS (some (vi r)) σ') := by
  unfold fL_overlay at H
  refine z_mkW (lv := [some (vr 32), some (vi p0_0), some (vi p1_0), some (vi p2_0), some (vi p3_0), some (vr 359), none]) m_L_overlay rfl hl (Nat.le_of_ble_eq_true rfl) rfl ?_
  refine z_aload (M := M_L_overlay) dL_overlay_0 rfl ?_
  refine z_iconst (M := M_L_overlay) dL_overlay_2 ?_
  refine z_aload_n (M := M_L_overlay) dL_overlay_3 rfl ?_
  refine z_iload_n (M := M_L_overlay) dL_overlay_4 rfl ?_
  refine z_iload_n (M := M_L_overlay) dL_overlay_5 rfl ?_
  refine z_iload_n (M := M_L_overlay) dL_overlay_6 rfl ?_
  refine z_iload (M := M_L_overlay) dL_overlay_7 rfl ?_
  obtain ⟨z_6, σ_2, hc_1, K_4, K_5⟩ := bw_e H
  rcases z_6 with x_3 | z_6
  · have H := K_4 _ rfl
    refine z_callVHR (M := M_L_overlay) (M' := M_X11_overlay) (as := [vi p0_0, vi p1_0, vi p2_0, vi p3_0]) (rest := [vi 0, vr 359]) rfl dL_overlay_9 m_X11_overlay t_1373 t_1374 t_1375 (v := some (vi x_3)) (c_X11_overlay hl hc_1) rfl rfl ly_32 rfl (Nat.le_of_ble_eq_true rfl) (Nat.le_of_ble_eq_true rfl) (Nat.le_of_ble_eq_true rfl) (Nat.le_of_ble_eq_true rfl) ?_
    refine z_st (st' := [vi x_3, vi 0, vr 359]) rfl ?_
    refine z_i2l (M := M_L_overlay) dL_overlay_12 ?_
    obtain ⟨σ_7, σ_7_e, hi_8, H⟩ := wa_e H
    refine z_last (M := M_L_overlay) dL_overlay_13 ly_359 rfl (by decide +kernel) rfl hi_8 σ_7_e ?_
    refine z_goto (M := M_L_overlay) (tgt := 33) dL_overlay_14 (by decide) ?_
    refine z_iconst (M := M_L_overlay) dL_overlay_33 ?_
    cases H
    exact z_iret (M := M_L_overlay) dL_overlay_34 rfl (Nat.le_of_ble_eq_true rfl) (Nat.le_of_ble_eq_true rfl) ⟨rfl, rfl⟩
  · have H := K_5 _ rfl
    rcases if_e H with ⟨h_9, H⟩ | ⟨h_9, H⟩
    · subst h_9
      refine z_callVHX (M := M_L_overlay) (lv' := [some (vr 32), some (vi p0_0), some (vi p1_0), some (vi p2_0), some (vi p3_0), some (vr 359), none]) (M' := M_X11_overlay) (as := [vi p0_0, vi p1_0, vi p2_0, vi p3_0]) (rest := [vi 0, vr 359]) rfl dL_overlay_9 m_X11_overlay t_1373 t_1374 t_1375 (e := 0) (c_X11_overlay hl hc_1) rfl rfl ly_32 rfl (Nat.le_of_ble_eq_true rfl) (Nat.le_of_ble_eq_true rfl) (Nat.le_of_ble_eq_true rfl) (Nat.le_of_ble_eq_true rfl) (en_hdm (k0 := 6) [] [(0, 14, 21, 13), (0, 14, 25, 19), (0, 14, 29, 63)] rfl (fun _ h => nomatch h) (by decide +kernel) (by decide) t_739 n_750 dL_overlay_17) (by decide) rfl rfl ?_
      refine z_iconst (M := M_L_overlay) dL_overlay_19 ?_
      cases H
      exact z_iret (M := M_L_overlay) dL_overlay_20 rfl (Nat.le_of_ble_eq_true rfl) (Nat.le_of_ble_eq_true rfl) ⟨rfl, rfl⟩
    · rcases if_e H with ⟨h_10, H⟩ | ⟨h_10, H⟩
      · subst h_10
        refine z_callVHX (M := M_L_overlay) (lv' := [some (vr 32), some (vi p0_0), some (vi p1_0), some (vi p2_0), some (vi p3_0), some (vr 359), none]) (M' := M_X11_overlay) (as := [vi p0_0, vi p1_0, vi p2_0, vi p3_0]) (rest := [vi 0, vr 359]) rfl dL_overlay_9 m_X11_overlay t_1373 t_1374 t_1375 (e := 1) (c_X11_overlay hl hc_1) rfl rfl ly_32 rfl (Nat.le_of_ble_eq_true rfl) (Nat.le_of_ble_eq_true rfl) (Nat.le_of_ble_eq_true rfl) (Nat.le_of_ble_eq_true rfl) (en_hdm (k0 := 6) [(0, 14, 17, 24)] [(0, 14, 25, 19), (0, 14, 29, 63)] rfl (List.forall_mem_cons.mpr ⟨⟨by decide, "java/lang/IndexOutOfBoundsException", t_739, by decide +kernel, by decide +kernel, by decide +kernel⟩, (fun _ h => nomatch h)⟩) (by decide +kernel) (by decide) t_637 n_645 dL_overlay_21) (by decide) rfl rfl ?_
        refine z_iconst (M := M_L_overlay) dL_overlay_23 ?_
        cases H
        exact z_iret (M := M_L_overlay) dL_overlay_24 rfl (Nat.le_of_ble_eq_true rfl) (Nat.le_of_ble_eq_true rfl) ⟨rfl, rfl⟩
      · rcases if_e H with ⟨h_11, H⟩ | ⟨h_11, H⟩
        · subst h_11
          refine z_callVHX (M := M_L_overlay) (lv' := [some (vr 32), some (vi p0_0), some (vi p1_0), some (vi p2_0), some (vi p3_0), some (vr 359), none]) (M' := M_X11_overlay) (as := [vi p0_0, vi p1_0, vi p2_0, vi p3_0]) (rest := [vi 0, vr 359]) rfl dL_overlay_9 m_X11_overlay t_1373 t_1374 t_1375 (e := 2) (c_X11_overlay hl hc_1) rfl rfl ly_32 rfl (Nat.le_of_ble_eq_true rfl) (Nat.le_of_ble_eq_true rfl) (Nat.le_of_ble_eq_true rfl) (Nat.le_of_ble_eq_true rfl) (en_hdm (k0 := 6) [(0, 14, 17, 24), (0, 14, 21, 13)] [(0, 14, 29, 63)] rfl (List.forall_mem_cons.mpr ⟨⟨by decide, "java/lang/IndexOutOfBoundsException", t_739, by decide +kernel, by decide +kernel, by decide +kernel⟩, (List.forall_mem_cons.mpr ⟨⟨by decide, "java/lang/IllegalStateException", t_637, by decide +kernel, by decide +kernel, by decide +kernel⟩, (fun _ h => nomatch h)⟩)⟩) (by decide +kernel) (by decide) t_716 n_723 dL_overlay_25) (by decide) rfl rfl ?_
          refine z_iconst (M := M_L_overlay) dL_overlay_27 ?_
          cases H
          exact z_iret (M := M_L_overlay) dL_overlay_28 rfl (Nat.le_of_ble_eq_true rfl) (Nat.le_of_ble_eq_true rfl) ⟨rfl, rfl⟩
        · rcases if_e H with ⟨h_12, H⟩ | ⟨h_12, H⟩
          · subst h_12
            refine z_callVHX (M := M_L_overlay) (lv' := [some (vr 32), some (vi p0_0), some (vi p1_0), some (vi p2_0), some (vi p3_0), some (vr 359), none]) (M' := M_X11_overlay) (as := [vi p0_0, vi p1_0, vi p2_0, vi p3_0]) (rest := [vi 0, vr 359]) rfl dL_overlay_9 m_X11_overlay t_1373 t_1374 t_1375 (e := 3) (c_X11_overlay hl hc_1) rfl rfl ly_32 rfl (Nat.le_of_ble_eq_true rfl) (Nat.le_of_ble_eq_true rfl) (Nat.le_of_ble_eq_true rfl) (Nat.le_of_ble_eq_true rfl) (en_hdm (k0 := 6) [(0, 14, 17, 24), (0, 14, 21, 13), (0, 14, 25, 19)] [] rfl (List.forall_mem_cons.mpr ⟨⟨by decide, "java/lang/IndexOutOfBoundsException", t_739, by decide +kernel, by decide +kernel, by decide +kernel⟩, (List.forall_mem_cons.mpr ⟨⟨by decide, "java/lang/IllegalStateException", t_637, by decide +kernel, by decide +kernel, by decide +kernel⟩, (List.forall_mem_cons.mpr ⟨⟨by decide, "java/lang/IllegalArgumentException", t_716, by decide +kernel, by decide +kernel, by decide +kernel⟩, (fun _ h => nomatch h)⟩)⟩)⟩) (by decide +kernel) (by decide) t_1372 n_1859 dL_overlay_29) (by decide) rfl rfl ?_
            refine z_iconst (M := M_L_overlay) dL_overlay_31 ?_
            cases H
            exact z_iret (M := M_L_overlay) dL_overlay_32 rfl (Nat.le_of_ble_eq_true rfl) (Nat.le_of_ble_eq_true rfl) ⟨rfl, rfl⟩
          · cases H
theorem c_L_relate (hl : l.stackTraces = false) {σ : SG} {p0_0 : Int} {p1_0 : Int} {r : Int} {σ' : SG} (H : fL_relate σ p0_0 p1_0 = some (r, σ')) : en_S l E M_L_relate 10 8 48 [vr 32, vi p0_0, vi p1_0, vr 359] σ (pS (some (vi r)) σ') := by
  unfold fL_relate at H
  refine z_mkW (lv := [some (vr 32), some (vi p0_0), some (vi p1_0), some (vr 359), none]) m_L_relate rfl hl (Nat.le_of_ble_eq_true rfl) rfl ?_
  refine z_aload_n (M := M_L_relate) dL_relate_0 rfl ?_
  refine z_iconst (M := M_L_relate) dL_relate_1 ?_
  refine z_aload_n (M := M_L_relate) dL_relate_2 rfl ?_
  refine z_iload_n (M := M_L_relate) dL_relate_3 rfl ?_
  refine z_iload_n (M := M_L_relate) dL_relate_4 rfl ?_
  obtain ⟨z_6, σ_2, hc_1, K_4, K_5⟩ := bw_e H
  rcases z_6 with x_3 | z_6
  · have H := K_4 _ rfl
    refine z_callVHR (M := M_L_relate) (M' := M_X11_relate) (as := [vi p0_0, vi p1_0]) (rest := [vi 0, vr 359]) rfl dL_relate_5 m_X11_relate t_1875 t_1876 t_1877 (v := some (vi x_3)) (c_X11_relate hl hc_1) rfl rfl ly_32 rfl (Nat.le_of_ble_eq_true rfl) (Nat.le_of_ble_eq_true rfl) (Nat.le_of_ble_eq_true rfl) (Nat.le_of_ble_eq_true rfl) ?_
    refine z_st (st' := [vi x_3, vi 0, vr 359]) rfl ?_
    refine z_i2l (M := M_L_relate) dL_relate_8 ?_
    obtain ⟨σ_7, σ_7_e, hi_8, H⟩ := wa_e H
    refine z_last (M := M_L_relate) dL_relate_9 ly_359 rfl (by decide +kernel) rfl hi_8 σ_7_e ?_
    refine z_goto (M := M_L_relate) (tgt := 29) dL_relate_10 (by decide) ?_
    refine z_iconst (M := M_L_relate) dL_relate_29 ?_
    cases H
    exact z_iret (M := M_L_relate) dL_relate_30 rfl (Nat.le_of_ble_eq_true rfl) (Nat.le_of_ble_eq_true rfl) ⟨rfl, rfl⟩
  · have H := K_5 _ rfl
    rcases if_e H with ⟨h_9, H⟩ | ⟨h_9, H⟩
    · subst h_9
      refine z_callVHX (M := M_L_relate) (lv' := [some (vr 32), some (vi p0_0), some (vi p1_0), some (vr 359), none]) (M' := M_X11_relate) (as := [vi p0_0, vi p1_0]) (rest := [vi 0, vr 359]) rfl dL_relate_5 m_X11_relate t_1875 t_1876 t_1877 (e := 0) (c_X11_relate hl hc_1) rfl rfl ly_32 rfl (Nat.le_of_ble_eq_true rfl) (Nat.le_of_ble_eq_true rfl) (Nat.le_of_ble_eq_true rfl) (Nat.le_of_ble_eq_true rfl) (en_hdm (k0 := 4) [] [(0, 10, 17, 13), (0, 10, 21, 19), (0, 10, 25, 63)] rfl (fun _ h => nomatch h) (by decide +kernel) (by decide) t_739 n_750 dL_relate_13) (by decide) rfl rfl ?_
      refine z_iconst (M := M_L_relate) dL_relate_15 ?_
      cases H
      exact z_iret (M := M_L_relate) dL_relate_16 rfl (Nat.le_of_ble_eq_true rfl) (Nat.le_of_ble_eq_true rfl) ⟨rfl, rfl⟩
    · rcases if_e H with ⟨h_10, H⟩ | ⟨h_10, H⟩
      · subst h_10
        refine z_callVHX (M := M_L_relate) (lv' := [some (vr 32), some (vi p0_0), some (vi p1_0), some (vr 359), none]) (M' := M_X11_relate) (as := [vi p0_0, vi p1_0]) (rest := [vi 0, vr 359]) rfl dL_relate_5 m_X11_relate t_1875 t_1876 t_1877 (e := 1) (c_X11_relate hl hc_1) rfl rfl ly_32 rfl (Nat.le_of_ble_eq_true rfl) (Nat.le_of_ble_eq_true rfl) (Nat.le_of_ble_eq_true rfl) (Nat.le_of_ble_eq_true rfl) (en_hdm (k0 := 4) [(0, 10, 13, 24)] [(0, 10, 21, 19), (0, 10, 25, 63)] rfl (List.forall_mem_cons.mpr ⟨⟨by decide, "java/lang/IndexOutOfBoundsException", t_739, by decide +kernel, by decide +kernel, by decide +kernel⟩, (fun _ h => nomatch h)⟩) (by decide +kernel) (by decide) t_637 n_645 dL_relate_17) (by decide) rfl rfl ?_
        refine z_iconst (M := M_L_relate) dL_relate_19 ?_
        cases H
        exact z_iret (M := M_L_relate) dL_relate_20 rfl (Nat.le_of_ble_eq_true rfl) (Nat.le_of_ble_eq_true rfl) ⟨rfl, rfl⟩
      · rcases if_e H with ⟨h_11, H⟩ | ⟨h_11, H⟩
        · subst h_11
          refine z_callVHX (M := M_L_relate) (lv' := [some (vr 32), some (vi p0_0), some (vi p1_0), some (vr 359), none]) (M' := M_X11_relate) (as := [vi p0_0, vi p1_0]) (rest := [vi 0, vr 359]) rfl dL_relate_5 m_X11_relate t_1875 t_1876 t_1877 (e := 2) (c_X11_relate hl hc_1) rfl rfl ly_32 rfl (Nat.le_of_ble_eq_true rfl) (Nat.le_of_ble_eq_true rfl) (Nat.le_of_ble_eq_true rfl) (Nat.le_of_ble_eq_true rfl) (en_hdm (k0 := 4) [(0, 10, 13, 24), (0, 10, 17, 13)] [(0, 10, 25, 63)] rfl (List.forall_mem_cons.mpr ⟨⟨by decide, "java/lang/IndexOutOfBoundsException", t_739, by decide +kernel, by decide +kernel, by decide +kernel⟩, (List.forall_mem_cons.mpr ⟨⟨by decide, "java/lang/IllegalStateException", t_637, by decide +kernel, by decide +kernel, by decide +kernel⟩, (fun _ h => nomatch h)⟩)⟩) (by decide +kernel) (by decide) t_716 n_723 dL_relate_21) (by decide) rfl rfl ?_
          refine z_iconst (M := M_L_relate) dL_relate_23 ?_
          cases H
          exact z_iret (M := M_L_relate) dL_relate_24 rfl (Nat.le_of_ble_eq_true rfl) (Nat.le_of_ble_eq_true rfl) ⟨rfl, rfl⟩
        · rcases if_e H with ⟨h_12, H⟩ | ⟨h_12, H⟩
          · subst h_12
            refine z_callVHX (M := M_L_relate) (lv' := [some (vr 32), some (vi p0_0), some (vi p1_0), some (vr 359), none]) (M' := M_X11_relate) (as := [vi p0_0, vi p1_0]) (rest := [vi 0, vr 359]) rfl dL_relate_5 m_X11_relate t_1875 t_1876 t_1877 (e := 3) (c_X11_relate hl hc_1) rfl rfl ly_32 rfl (Nat.le_of_ble_eq_true rfl) (Nat.le_of_ble_eq_true rfl) (Nat.le_of_ble_eq_true rfl) (Nat.le_of_ble_eq_true rfl) (en_hdm (k0 := 4) [(0, 10, 13, 24), (0, 10, 17, 13), (0, 10, 21, 19)] [] rfl (List.forall_mem_cons.mpr ⟨⟨by decide, "java/lang/IndexOutOfBoundsException", t_739, by decide +kernel, by decide +kernel, by decide +kernel⟩, (List.forall_mem_cons.mpr ⟨⟨by decide, "java/lang/IllegalStateException", t_637, by decide +kernel, by decide +kernel, by decide +kernel⟩, (List.forall_mem_cons.mpr ⟨⟨by decide, "java/lang/IllegalArgumentException", t_716, by decide +kernel, by decide +kernel, by decide +kernel⟩, (fun _ h => nomatch h)⟩)⟩)⟩) (by decide +kernel) (by decide) t_1372 n_1859 dL_relate_25) (by decide) rfl rfl ?_
            refine z_iconst (M := M_L_relate) dL_relate_27 ?_
            cases H
            exact z_iret (M := M_L_relate) dL_relate_28 rfl (Nat.le_of_ble_eq_true rfl) (Nat.le_of_ble_eq_true rfl) ⟨rfl, rfl⟩
          · cases H
theorem c_L_is (hl : l.stackTraces = false) {σ : SG} {p0_0 : Int} {p1_0 : Int} {p2_0 : Int} {r : Int} {σ' : SG} (H : fL_is σ p0_0 p1_0 p2_0 = some (r, σ')) : en_S l E M_L_is 10 8 48 [vr 32, vi p0_0, vi p1_0, vi p2_0, vr 359] σ (pS (some (vi r)) σ') := by
  unfold fL_is at H
  refine z_mkW (lv := [some (vr 32), some (vi p0_0), some (vi p1_0), some (vi p2_0), some (vr 359), none]) m_L_is rfl hl (Nat.le_of_ble_eq_true rfl) rfl ?_
  refine z_aload (M := M_L_is) dL_is_0 rfl ?_
  refine z_iconst (M := M_L_is) dL_is_2 ?_
  obtain ⟨v_19, he_20, hk_21, hk_1⟩ := bx_e H
  have J_22 : ∀ x_15 σ_16, v_19 = (.inl (x_15, σ_16)) → YY l E M_L_is 10 8 48 (pS (some (vi r)) σ') 18 [some (vr 32), some (vi p0_0), some (vi p1_0), some (vi p2_0), some (vr 359), none] [vl x_15, vi 0, vr 359] σ_16 8 48 := by
    intro x_15 σ_16 e
    have H := hk_21 _ e
    obtain ⟨σ_17, σ_17_e, hi_18, H⟩ := wa_e H
    refine z_last (M := M_L_is) dL_is_18 ly_359 rfl (by decide +kernel) rfl hi_18 σ_17_e ?_
    refine z_goto (M := M_L_is) (tgt := 38) dL_is_19 (by decide) ?_
    refine z_iconst (M := M_L_is) dL_is_38 ?_
    cases H
    exact z_iret (M := M_L_is) dL_is_39 rfl (Nat.le_of_ble_eq_true rfl) (Nat.le_of_ble_eq_true rfl) ⟨rfl, rfl⟩
  have H := he_20
  refine z_aload_n (M := M_L_is) dL_is_3 rfl ?_
  refine z_iload_n (M := M_L_is) dL_is_4 rfl ?_
  refine z_iload_n (M := M_L_is) dL_is_5 rfl ?_
  refine z_iload_n (M := M_L_is) dL_is_6 rfl ?_
  obtain ⟨z_7, σ_3, hc_2, K_5, K_6⟩ := bw_e H
  rcases z_7 with x_4 | z_7
  · have H := K_5 _ rfl
    refine z_callVHR (M := M_L_is) (M' := M_X11_is) (as := [vi p0_0, vi p1_0, vi p2_0]) (rest := [vi 0, vr 359]) rfl dL_is_7 m_X11_is t_2038 t_2039 t_2040 (v := some (zv x_4)) (c_X11_is hl hc_2) rfl rfl ly_32 rfl (Nat.le_of_ble_eq_true rfl) (Nat.le_of_ble_eq_true rfl) (Nat.le_of_ble_eq_true rfl) (Nat.le_of_ble_eq_true rfl) ?_
    refine z_st (st' := [zv x_4, vi 0, vr 359]) rfl ?_
    rcases if_e H with ⟨h_8, H⟩ | ⟨h_8, H⟩
    · refine z_zeq_f (M := M_L_is) (tgt := 17) dL_is_10 (by decide) h_8 ?_
      refine z_lconst (M := M_L_is) (m := 1) dL_is_13 (by decide +kernel) ?_
      refine z_goto (M := M_L_is) (tgt := 18) dL_is_14 (by decide) ?_
      exact J_22 _ _ (Option.some.inj H).symm
    · refine z_zeq_t (M := M_L_is) (tgt := 17) dL_is_10 (by decide) h_8 ?_
      refine z_lconst (M := M_L_is) (m := 0) dL_is_17 (by decide +kernel) ?_
      exact J_22 _ _ (Option.some.inj H).symm
  · have H := K_6 _ rfl
    rcases if_e H with ⟨h_11, H⟩ | ⟨h_11, H⟩
    · subst h_11
      refine z_callVHX (M := M_L_is) (lv' := [some (vr 32), some (vi p0_0), some (vi p1_0), some (vi p2_0), some (vr 359), none]) (M' := M_X11_is) (as := [vi p0_0, vi p1_0, vi p2_0]) (rest := [vi 0, vr 359]) rfl dL_is_7 m_X11_is t_2038 t_2039 t_2040 (e := 0) (c_X11_is hl hc_2) rfl rfl ly_32 rfl (Nat.le_of_ble_eq_true rfl) (Nat.le_of_ble_eq_true rfl) (Nat.le_of_ble_eq_true rfl) (Nat.le_of_ble_eq_true rfl) (en_hdm (k0 := 5) [] [(0, 19, 26, 13), (0, 19, 30, 19), (0, 19, 34, 63)] rfl (fun _ h => nomatch h) (by decide +kernel) (by decide) t_739 n_750 dL_is_22) (by decide) rfl rfl ?_
      refine z_iconst (M := M_L_is) dL_is_24 ?_
      have H := congrArg some (hk_1 _ (Option.some.inj H).symm)
      cases H
      exact z_iret (M := M_L_is) dL_is_25 rfl (Nat.le_of_ble_eq_true rfl) (Nat.le_of_ble_eq_true rfl) ⟨rfl, rfl⟩
    · rcases if_e H with ⟨h_12, H⟩ | ⟨h_12, H⟩
      · subst h_12
        refine z_callVHX (M := M_L_is) (lv' := [some (vr 32), some (vi p0_0), some (vi p1_0), some (vi p2_0), some (vr 359), none]) (M' := M_X11_is) (as := [vi p0_0, vi p1_0, vi p2_0]) (rest := [vi 0, vr 359]) rfl dL_is_7 m_X11_is t_2038 t_2039 t_2040 (e := 1) (c_X11_is hl hc_2) rfl rfl ly_32 rfl (Nat.le_of_ble_eq_true rfl) (Nat.le_of_ble_eq_true rfl) (Nat.le_of_ble_eq_true rfl) (Nat.le_of_ble_eq_true rfl) (en_hdm (k0 := 5) [(0, 19, 22, 24)] [(0, 19, 30, 19), (0, 19, 34, 63)] rfl (List.forall_mem_cons.mpr ⟨⟨by decide, "java/lang/IndexOutOfBoundsException", t_739, by decide +kernel, by decide +kernel, by decide +kernel⟩, (fun _ h => nomatch h)⟩) (by decide +kernel) (by decide) t_637 n_645 dL_is_26) (by decide) rfl rfl ?_
        refine z_iconst (M := M_L_is) dL_is_28 ?_
        have H := congrArg some (hk_1 _ (Option.some.inj H).symm)
        cases H
        exact z_iret (M := M_L_is) dL_is_29 rfl (Nat.le_of_ble_eq_true rfl) (Nat.le_of_ble_eq_true rfl) ⟨rfl, rfl⟩
      · rcases if_e H with ⟨h_13, H⟩ | ⟨h_13, H⟩
        · subst h_13
          refine z_callVHX (M := M_L_is) (lv' := [some (vr 32), some (vi p0_0), some (vi p1_0), some (vi p2_0), some (vr 359), none]) (M' := M_X11_is) (as := [vi p0_0, vi p1_0, vi p2_0]) (rest := [vi 0, vr 359]) rfl dL_is_7 m_X11_is t_2038 t_2039 t_2040 (e := 2) (c_X11_is hl hc_2) rfl rfl ly_32 rfl (Nat.le_of_ble_eq_true rfl) (Nat.le_of_ble_eq_true rfl) (Nat.le_of_ble_eq_true rfl) (Nat.le_of_ble_eq_true rfl) (en_hdm (k0 := 5) [(0, 19, 22, 24), (0, 19, 26, 13)] [(0, 19, 34, 63)] rfl (List.forall_mem_cons.mpr ⟨⟨by decide, "java/lang/IndexOutOfBoundsException", t_739, by decide +kernel, by decide +kernel, by decide +kernel⟩, (List.forall_mem_cons.mpr ⟨⟨by decide, "java/lang/IllegalStateException", t_637, by decide +kernel, by decide +kernel, by decide +kernel⟩, (fun _ h => nomatch h)⟩)⟩) (by decide +kernel) (by decide) t_716 n_723 dL_is_30) (by decide) rfl rfl ?_
          refine z_iconst (M := M_L_is) dL_is_32 ?_
          have H := congrArg some (hk_1 _ (Option.some.inj H).symm)
          cases H
          exact z_iret (M := M_L_is) dL_is_33 rfl (Nat.le_of_ble_eq_true rfl) (Nat.le_of_ble_eq_true rfl) ⟨rfl, rfl⟩
        · rcases if_e H with ⟨h_14, H⟩ | ⟨h_14, H⟩
          · subst h_14
            refine z_callVHX (M := M_L_is) (lv' := [some (vr 32), some (vi p0_0), some (vi p1_0), some (vi p2_0), some (vr 359), none]) (M' := M_X11_is) (as := [vi p0_0, vi p1_0, vi p2_0]) (rest := [vi 0, vr 359]) rfl dL_is_7 m_X11_is t_2038 t_2039 t_2040 (e := 3) (c_X11_is hl hc_2) rfl rfl ly_32 rfl (Nat.le_of_ble_eq_true rfl) (Nat.le_of_ble_eq_true rfl) (Nat.le_of_ble_eq_true rfl) (Nat.le_of_ble_eq_true rfl) (en_hdm (k0 := 5) [(0, 19, 22, 24), (0, 19, 26, 13), (0, 19, 30, 19)] [] rfl (List.forall_mem_cons.mpr ⟨⟨by decide, "java/lang/IndexOutOfBoundsException", t_739, by decide +kernel, by decide +kernel, by decide +kernel⟩, (List.forall_mem_cons.mpr ⟨⟨by decide, "java/lang/IllegalStateException", t_637, by decide +kernel, by decide +kernel, by decide +kernel⟩, (List.forall_mem_cons.mpr ⟨⟨by decide, "java/lang/IllegalArgumentException", t_716, by decide +kernel, by decide +kernel, by decide +kernel⟩, (fun _ h => nomatch h)⟩)⟩)⟩) (by decide +kernel) (by decide) t_1372 n_1859 dL_is_34) (by decide) rfl rfl ?_
            refine z_iconst (M := M_L_is) dL_is_36 ?_
            have H := congrArg some (hk_1 _ (Option.some.inj H).symm)
            cases H
            exact z_iret (M := M_L_is) dL_is_37 rfl (Nat.le_of_ble_eq_true rfl) (Nat.le_of_ble_eq_true rfl) ⟨rfl, rfl⟩
          · cases H
theorem c_L_locate (hl : l.stackTraces = false) {σ : SG} {p0_0 : Int} {p1_0 : Int} {p2_0 : Int} {r : Int} {σ' : SG} (H : fL_locate σ p0_0 p1_0 p2_0 = some (r, σ')) : en_S l E M_L_locate 8 3 18 [vr 32, vi p0_0, vi p1_0, vi p2_0, vr 359] σ (pS (some (vi r)) σ') := by
  unfold fL_locate at H
  refine z_mkW (lv := [some (vr 32), some (vi p0_0), some (vi p1_0), some (vi p2_0), some (vr 359), none]) m_L_locate rfl hl (Nat.le_of_ble_eq_true rfl) rfl ?_
  refine z_aload (M := M_L_locate) dL_locate_0 rfl ?_
  refine z_iconst (M := M_L_locate) dL_locate_2 ?_
  refine z_aload_n (M := M_L_locate) dL_locate_3 rfl ?_
  refine z_iload_n (M := M_L_locate) dL_locate_4 rfl ?_
  refine z_iload_n (M := M_L_locate) dL_locate_5 rfl ?_
  refine z_iload_n (M := M_L_locate) dL_locate_6 rfl ?_
  obtain ⟨z_6, σ_2, hc_1, K_4, K_5⟩ := bw_e H
  rcases z_6 with x_3 | z_6
  · have H := K_4 _ rfl
    refine z_callVHR (M := M_L_locate) (M' := M_X11_locate) (as := [vi p0_0, vi p1_0, vi p2_0]) (rest := [vi 0, vr 359]) rfl dL_locate_7 m_X11_locate t_2069 t_2070 t_2071 (v := some (vi x_3)) (c_X11_locate hl hc_1) rfl rfl ly_32 rfl (Nat.le_of_ble_eq_true rfl) (Nat.le_of_ble_eq_true rfl) (Nat.le_of_ble_eq_true rfl) (Nat.le_of_ble_eq_true rfl) ?_
    refine z_st (st' := [vi x_3, vi 0, vr 359]) rfl ?_
    refine z_i2l (M := M_L_locate) dL_locate_10 ?_
    obtain ⟨σ_7, σ_7_e, hi_8, H⟩ := wa_e H
    refine z_last (M := M_L_locate) dL_locate_11 ly_359 rfl (by decide +kernel) rfl hi_8 σ_7_e ?_
    refine z_goto (M := M_L_locate) (tgt := 31) dL_locate_12 (by decide) ?_
    refine z_iconst (M := M_L_locate) dL_locate_31 ?_
    cases H
    exact z_iret (M := M_L_locate) dL_locate_32 rfl (Nat.le_of_ble_eq_true rfl) (Nat.le_of_ble_eq_true rfl) ⟨rfl, rfl⟩
  · have H := K_5 _ rfl
    rcases if_e H with ⟨h_9, H⟩ | ⟨h_9, H⟩
    · subst h_9
      refine z_callVHX (M := M_L_locate) (lv' := [some (vr 32), some (vi p0_0), some (vi p1_0), some (vi p2_0), some (vr 359), none]) (M' := M_X11_locate) (as := [vi p0_0, vi p1_0, vi p2_0]) (rest := [vi 0, vr 359]) rfl dL_locate_7 m_X11_locate t_2069 t_2070 t_2071 (e := 0) (c_X11_locate hl hc_1) rfl rfl ly_32 rfl (Nat.le_of_ble_eq_true rfl) (Nat.le_of_ble_eq_true rfl) (Nat.le_of_ble_eq_true rfl) (Nat.le_of_ble_eq_true rfl) (en_hdm (k0 := 5) [] [(0, 12, 19, 13), (0, 12, 23, 19), (0, 12, 27, 63)] rfl (fun _ h => nomatch h) (by decide +kernel) (by decide) t_739 n_750 dL_locate_15) (by decide) rfl rfl ?_
      refine z_iconst (M := M_L_locate) dL_locate_17 ?_
      cases H
      exact z_iret (M := M_L_locate) dL_locate_18 rfl (Nat.le_of_ble_eq_true rfl) (Nat.le_of_ble_eq_true rfl) ⟨rfl, rfl⟩
    · rcases if_e H with ⟨h_10, H⟩ | ⟨h_10, H⟩
      · subst h_10
        refine z_callVHX (M := M_L_locate) (lv' := [some (vr 32), some (vi p0_0), some (vi p1_0), some (vi p2_0), some (vr 359), none]) (M' := M_X11_locate) (as := [vi p0_0, vi p1_0, vi p2_0]) (rest := [vi 0, vr 359]) rfl dL_locate_7 m_X11_locate t_2069 t_2070 t_2071 (e := 1) (c_X11_locate hl hc_1) rfl rfl ly_32 rfl (Nat.le_of_ble_eq_true rfl) (Nat.le_of_ble_eq_true rfl) (Nat.le_of_ble_eq_true rfl) (Nat.le_of_ble_eq_true rfl) (en_hdm (k0 := 5) [(0, 12, 15, 24)] [(0, 12, 23, 19), (0, 12, 27, 63)] rfl (List.forall_mem_cons.mpr ⟨⟨by decide, "java/lang/IndexOutOfBoundsException", t_739, by decide +kernel, by decide +kernel, by decide +kernel⟩, (fun _ h => nomatch h)⟩) (by decide +kernel) (by decide) t_637 n_645 dL_locate_19) (by decide) rfl rfl ?_
        refine z_iconst (M := M_L_locate) dL_locate_21 ?_
        cases H
        exact z_iret (M := M_L_locate) dL_locate_22 rfl (Nat.le_of_ble_eq_true rfl) (Nat.le_of_ble_eq_true rfl) ⟨rfl, rfl⟩
      · rcases if_e H with ⟨h_11, H⟩ | ⟨h_11, H⟩
        · subst h_11
          refine z_callVHX (M := M_L_locate) (lv' := [some (vr 32), some (vi p0_0), some (vi p1_0), some (vi p2_0), some (vr 359), none]) (M' := M_X11_locate) (as := [vi p0_0, vi p1_0, vi p2_0]) (rest := [vi 0, vr 359]) rfl dL_locate_7 m_X11_locate t_2069 t_2070 t_2071 (e := 2) (c_X11_locate hl hc_1) rfl rfl ly_32 rfl (Nat.le_of_ble_eq_true rfl) (Nat.le_of_ble_eq_true rfl) (Nat.le_of_ble_eq_true rfl) (Nat.le_of_ble_eq_true rfl) (en_hdm (k0 := 5) [(0, 12, 15, 24), (0, 12, 19, 13)] [(0, 12, 27, 63)] rfl (List.forall_mem_cons.mpr ⟨⟨by decide, "java/lang/IndexOutOfBoundsException", t_739, by decide +kernel, by decide +kernel, by decide +kernel⟩, (List.forall_mem_cons.mpr ⟨⟨by decide, "java/lang/IllegalStateException", t_637, by decide +kernel, by decide +kernel, by decide +kernel⟩, (fun _ h => nomatch h)⟩)⟩) (by decide +kernel) (by decide) t_716 n_723 dL_locate_23) (by decide) rfl rfl ?_
          refine z_iconst (M := M_L_locate) dL_locate_25 ?_
          cases H
          exact z_iret (M := M_L_locate) dL_locate_26 rfl (Nat.le_of_ble_eq_true rfl) (Nat.le_of_ble_eq_true rfl) ⟨rfl, rfl⟩
        · rcases if_e H with ⟨h_12, H⟩ | ⟨h_12, H⟩
          · subst h_12
            refine z_callVHX (M := M_L_locate) (lv' := [some (vr 32), some (vi p0_0), some (vi p1_0), some (vi p2_0), some (vr 359), none]) (M' := M_X11_locate) (as := [vi p0_0, vi p1_0, vi p2_0]) (rest := [vi 0, vr 359]) rfl dL_locate_7 m_X11_locate t_2069 t_2070 t_2071 (e := 3) (c_X11_locate hl hc_1) rfl rfl ly_32 rfl (Nat.le_of_ble_eq_true rfl) (Nat.le_of_ble_eq_true rfl) (Nat.le_of_ble_eq_true rfl) (Nat.le_of_ble_eq_true rfl) (en_hdm (k0 := 5) [(0, 12, 15, 24), (0, 12, 19, 13), (0, 12, 23, 19)] [] rfl (List.forall_mem_cons.mpr ⟨⟨by decide, "java/lang/IndexOutOfBoundsException", t_739, by decide +kernel, by decide +kernel, by decide +kernel⟩, (List.forall_mem_cons.mpr ⟨⟨by decide, "java/lang/IllegalStateException", t_637, by decide +kernel, by decide +kernel, by decide +kernel⟩, (List.forall_mem_cons.mpr ⟨⟨by decide, "java/lang/IllegalArgumentException", t_716, by decide +kernel, by decide +kernel, by decide +kernel⟩, (fun _ h => nomatch h)⟩)⟩)⟩) (by decide +kernel) (by decide) t_1372 n_1859 dL_locate_27) (by decide) rfl rfl ?_
            refine z_iconst (M := M_L_locate) dL_locate_29 ?_
            cases H
            exact z_iret (M := M_L_locate) dL_locate_30 rfl (Nat.le_of_ble_eq_true rfl) (Nat.le_of_ble_eq_true rfl) ⟨rfl, rfl⟩
          · cases H
theorem c_L_hull (hl : l.stackTraces = false) {σ : SG} {p0_0 : Int} {p1_0 : Int} {r : Int} {σ' : SG} (H : fL_hull σ p0_0 p1_0 = some (r, σ')) : en_S l E M_L_hull 8 4 24 [vr 32, vi p0_0, vi p1_0, vr 359] σ (pS (some (vi r)) σ') := by
  unfold fL_hull at H
  refine z_mkW (lv := [some (vr 32), some (vi p0_0), some (vi p1_0), some (vr 359), none]) m_L_hull rfl hl (Nat.le_of_ble_eq_true rfl) rfl ?_
  refine z_aload_n (M := M_L_hull) dL_hull_0 rfl ?_
  refine z_iconst (M := M_L_hull) dL_hull_1 ?_
  refine z_aload_n (M := M_L_hull) dL_hull_2 rfl ?_
  refine z_iload_n (M := M_L_hull) dL_hull_3 rfl ?_
  refine z_iload_n (M := M_L_hull) dL_hull_4 rfl ?_
  obtain ⟨z_6, σ_2, hc_1, K_4, K_5⟩ := bw_e H
  rcases z_6 with x_3 | z_6
  · have H := K_4 _ rfl
    refine z_callVHR (M := M_L_hull) (M' := M_X11_hull) (as := [vi p0_0, vi p1_0]) (rest := [vi 0, vr 359]) rfl dL_hull_5 m_X11_hull t_2079 t_2080 t_2081 (v := some (vi x_3)) (c_X11_hull hl hc_1) rfl rfl ly_32 rfl (Nat.le_of_ble_eq_true rfl) (Nat.le_of_ble_eq_true rfl) (Nat.le_of_ble_eq_true rfl) (Nat.le_of_ble_eq_true rfl) ?_
    refine z_st (st' := [vi x_3, vi 0, vr 359]) rfl ?_
    refine z_i2l (M := M_L_hull) dL_hull_8 ?_
    obtain ⟨σ_7, σ_7_e, hi_8, H⟩ := wa_e H
    refine z_last (M := M_L_hull) dL_hull_9 ly_359 rfl (by decide +kernel) rfl hi_8 σ_7_e ?_
    refine z_goto (M := M_L_hull) (tgt := 25) dL_hull_10 (by decide) ?_
    refine z_iconst (M := M_L_hull) dL_hull_25 ?_
    cases H
    exact z_iret (M := M_L_hull) dL_hull_26 rfl (Nat.le_of_ble_eq_true rfl) (Nat.le_of_ble_eq_true rfl) ⟨rfl, rfl⟩
  · have H := K_5 _ rfl
    rcases if_e H with ⟨h_9, H⟩ | ⟨h_9, H⟩
    · subst h_9
      refine z_callVHX (M := M_L_hull) (lv' := [some (vr 32), some (vi p0_0), some (vi p1_0), some (vr 359), none]) (M' := M_X11_hull) (as := [vi p0_0, vi p1_0]) (rest := [vi 0, vr 359]) rfl dL_hull_5 m_X11_hull t_2079 t_2080 t_2081 (e := 0) (c_X11_hull hl hc_1) rfl rfl ly_32 rfl (Nat.le_of_ble_eq_true rfl) (Nat.le_of_ble_eq_true rfl) (Nat.le_of_ble_eq_true rfl) (Nat.le_of_ble_eq_true rfl) (en_hdm (k0 := 4) [] [(0, 10, 17, 13), (0, 10, 21, 63)] rfl (fun _ h => nomatch h) (by decide +kernel) (by decide) t_739 n_750 dL_hull_13) (by decide) rfl rfl ?_
      refine z_iconst (M := M_L_hull) dL_hull_15 ?_
      cases H
      exact z_iret (M := M_L_hull) dL_hull_16 rfl (Nat.le_of_ble_eq_true rfl) (Nat.le_of_ble_eq_true rfl) ⟨rfl, rfl⟩
    · rcases if_e H with ⟨h_10, H⟩ | ⟨h_10, H⟩
      · subst h_10
        refine z_callVHX (M := M_L_hull) (lv' := [some (vr 32), some (vi p0_0), some (vi p1_0), some (vr 359), none]) (M' := M_X11_hull) (as := [vi p0_0, vi p1_0]) (rest := [vi 0, vr 359]) rfl dL_hull_5 m_X11_hull t_2079 t_2080 t_2081 (e := 1) (c_X11_hull hl hc_1) rfl rfl ly_32 rfl (Nat.le_of_ble_eq_true rfl) (Nat.le_of_ble_eq_true rfl) (Nat.le_of_ble_eq_true rfl) (Nat.le_of_ble_eq_true rfl) (en_hdm (k0 := 4) [(0, 10, 13, 24)] [(0, 10, 21, 63)] rfl (List.forall_mem_cons.mpr ⟨⟨by decide, "java/lang/IndexOutOfBoundsException", t_739, by decide +kernel, by decide +kernel, by decide +kernel⟩, (fun _ h => nomatch h)⟩) (by decide +kernel) (by decide) t_637 n_645 dL_hull_17) (by decide) rfl rfl ?_
        refine z_iconst (M := M_L_hull) dL_hull_19 ?_
        cases H
        exact z_iret (M := M_L_hull) dL_hull_20 rfl (Nat.le_of_ble_eq_true rfl) (Nat.le_of_ble_eq_true rfl) ⟨rfl, rfl⟩
      · rcases if_e H with ⟨h_11, H⟩ | ⟨h_11, H⟩
        · subst h_11
          refine z_callVHX (M := M_L_hull) (lv' := [some (vr 32), some (vi p0_0), some (vi p1_0), some (vr 359), none]) (M' := M_X11_hull) (as := [vi p0_0, vi p1_0]) (rest := [vi 0, vr 359]) rfl dL_hull_5 m_X11_hull t_2079 t_2080 t_2081 (e := 3) (c_X11_hull hl hc_1) rfl rfl ly_32 rfl (Nat.le_of_ble_eq_true rfl) (Nat.le_of_ble_eq_true rfl) (Nat.le_of_ble_eq_true rfl) (Nat.le_of_ble_eq_true rfl) (en_hdm (k0 := 4) [(0, 10, 13, 24), (0, 10, 17, 13)] [] rfl (List.forall_mem_cons.mpr ⟨⟨by decide, "java/lang/IndexOutOfBoundsException", t_739, by decide +kernel, by decide +kernel, by decide +kernel⟩, (List.forall_mem_cons.mpr ⟨⟨by decide, "java/lang/IllegalStateException", t_637, by decide +kernel, by decide +kernel, by decide +kernel⟩, (fun _ h => nomatch h)⟩)⟩) (by decide +kernel) (by decide) t_1372 n_1859 dL_hull_21) (by decide) rfl rfl ?_
          refine z_iconst (M := M_L_hull) dL_hull_23 ?_
          cases H
          exact z_iret (M := M_L_hull) dL_hull_24 rfl (Nat.le_of_ble_eq_true rfl) (Nat.le_of_ble_eq_true rfl) ⟨rfl, rfl⟩
        · cases H
theorem c_L_triangles (hl : l.stackTraces = false) {σ : SG} {p0_0 : Int} {p1_0 : Int} {r : Int} {σ' : SG} (H : fL_triangles σ p0_0 p1_0 = some (r, σ')) : en_S l E M_L_triangles 8 4 24 [vr 32, vi p0_0, vi p1_0, vr 359] σ (pS (some (vi r)) σ') := by
  unfold fL_triangles at H
  refine z_mkW (lv := [some (vr 32), some (vi p0_0), some (vi p1_0), some (vr 359), none]) m_L_triangles rfl hl (Nat.le_of_ble_eq_true rfl) rfl ?_
  refine z_aload_n (M := M_L_triangles) dL_triangles_0 rfl ?_
  refine z_iconst (M := M_L_triangles) dL_triangles_1 ?_
  refine z_aload_n (M := M_L_triangles) dL_triangles_2 rfl ?_
  refine z_iload_n (M := M_L_triangles) dL_triangles_3 rfl ?_
  refine z_iload_n (M := M_L_triangles) dL_triangles_4 rfl ?_
  obtain ⟨z_6, σ_2, hc_1, K_4, K_5⟩ := bw_e H
  rcases z_6 with x_3 | z_6
  · have H := K_4 _ rfl
    refine z_callVHR (M := M_L_triangles) (M' := M_X11_triangles) (as := [vi p0_0, vi p1_0]) (rest := [vi 0, vr 359]) rfl dL_triangles_5 m_X11_triangles t_2125 t_2126 t_2127 (v := some (vi x_3)) (c_X11_triangles hl hc_1) rfl rfl ly_32 rfl (Nat.le_of_ble_eq_true rfl) (Nat.le_of_ble_eq_true rfl) (Nat.le_of_ble_eq_true rfl) (Nat.le_of_ble_eq_true rfl) ?_
    refine z_st (st' := [vi x_3, vi 0, vr 359]) rfl ?_
    refine z_i2l (M := M_L_triangles) dL_triangles_8 ?_
    obtain ⟨σ_7, σ_7_e, hi_8, H⟩ := wa_e H
    refine z_last (M := M_L_triangles) dL_triangles_9 ly_359 rfl (by decide +kernel) rfl hi_8 σ_7_e ?_
    refine z_goto (M := M_L_triangles) (tgt := 25) dL_triangles_10 (by decide) ?_
    refine z_iconst (M := M_L_triangles) dL_triangles_25 ?_
    cases H
    exact z_iret (M := M_L_triangles) dL_triangles_26 rfl (Nat.le_of_ble_eq_true rfl) (Nat.le_of_ble_eq_true rfl) ⟨rfl, rfl⟩
  · have H := K_5 _ rfl
    rcases if_e H with ⟨h_9, H⟩ | ⟨h_9, H⟩
    · subst h_9
      refine z_callVHX (M := M_L_triangles) (lv' := [some (vr 32), some (vi p0_0), some (vi p1_0), some (vr 359), none]) (M' := M_X11_triangles) (as := [vi p0_0, vi p1_0]) (rest := [vi 0, vr 359]) rfl dL_triangles_5 m_X11_triangles t_2125 t_2126 t_2127 (e := 0) (c_X11_triangles hl hc_1) rfl rfl ly_32 rfl (Nat.le_of_ble_eq_true rfl) (Nat.le_of_ble_eq_true rfl) (Nat.le_of_ble_eq_true rfl) (Nat.le_of_ble_eq_true rfl) (en_hdm (k0 := 4) [] [(0, 10, 17, 13), (0, 10, 21, 63)] rfl (fun _ h => nomatch h) (by decide +kernel) (by decide) t_739 n_750 dL_triangles_13) (by decide) rfl rfl ?_
      refine z_iconst (M := M_L_triangles) dL_triangles_15 ?_
      cases H
      exact z_iret (M := M_L_triangles) dL_triangles_16 rfl (Nat.le_of_ble_eq_true rfl) (Nat.le_of_ble_eq_true rfl) ⟨rfl, rfl⟩
    · rcases if_e H with ⟨h_10, H⟩ | ⟨h_10, H⟩
      · subst h_10
        refine z_callVHX (M := M_L_triangles) (lv' := [some (vr 32), some (vi p0_0), some (vi p1_0), some (vr 359), none]) (M' := M_X11_triangles) (as := [vi p0_0, vi p1_0]) (rest := [vi 0, vr 359]) rfl dL_triangles_5 m_X11_triangles t_2125 t_2126 t_2127 (e := 1) (c_X11_triangles hl hc_1) rfl rfl ly_32 rfl (Nat.le_of_ble_eq_true rfl) (Nat.le_of_ble_eq_true rfl) (Nat.le_of_ble_eq_true rfl) (Nat.le_of_ble_eq_true rfl) (en_hdm (k0 := 4) [(0, 10, 13, 24)] [(0, 10, 21, 63)] rfl (List.forall_mem_cons.mpr ⟨⟨by decide, "java/lang/IndexOutOfBoundsException", t_739, by decide +kernel, by decide +kernel, by decide +kernel⟩, (fun _ h => nomatch h)⟩) (by decide +kernel) (by decide) t_637 n_645 dL_triangles_17) (by decide) rfl rfl ?_
        refine z_iconst (M := M_L_triangles) dL_triangles_19 ?_
        cases H
        exact z_iret (M := M_L_triangles) dL_triangles_20 rfl (Nat.le_of_ble_eq_true rfl) (Nat.le_of_ble_eq_true rfl) ⟨rfl, rfl⟩
      · rcases if_e H with ⟨h_11, H⟩ | ⟨h_11, H⟩
        · subst h_11
          refine z_callVHX (M := M_L_triangles) (lv' := [some (vr 32), some (vi p0_0), some (vi p1_0), some (vr 359), none]) (M' := M_X11_triangles) (as := [vi p0_0, vi p1_0]) (rest := [vi 0, vr 359]) rfl dL_triangles_5 m_X11_triangles t_2125 t_2126 t_2127 (e := 3) (c_X11_triangles hl hc_1) rfl rfl ly_32 rfl (Nat.le_of_ble_eq_true rfl) (Nat.le_of_ble_eq_true rfl) (Nat.le_of_ble_eq_true rfl) (Nat.le_of_ble_eq_true rfl) (en_hdm (k0 := 4) [(0, 10, 13, 24), (0, 10, 17, 13)] [] rfl (List.forall_mem_cons.mpr ⟨⟨by decide, "java/lang/IndexOutOfBoundsException", t_739, by decide +kernel, by decide +kernel, by decide +kernel⟩, (List.forall_mem_cons.mpr ⟨⟨by decide, "java/lang/IllegalStateException", t_637, by decide +kernel, by decide +kernel, by decide +kernel⟩, (fun _ h => nomatch h)⟩)⟩) (by decide +kernel) (by decide) t_1372 n_1859 dL_triangles_21) (by decide) rfl rfl ?_
          refine z_iconst (M := M_L_triangles) dL_triangles_23 ?_
          cases H
          exact z_iret (M := M_L_triangles) dL_triangles_24 rfl (Nat.le_of_ble_eq_true rfl) (Nat.le_of_ble_eq_true rfl) ⟨rfl, rfl⟩
        · cases H
theorem c_L_simplify (hl : l.stackTraces = false) {σ : SG} {p0_0 : Int} {p1_0 : Int} {p2_0 : Int} {r : Int} {σ' : SG} (H : fL_simplify σ p0_0 p1_0 p2_0 = some (r, σ')) : en_S l E M_L_simplify 9 4 24 [vr 32, vi p0_0, vi p1_0, vi p2_0, vr 359] σ (pS (some (vi r)) σ') := by
  unfold fL_simplify at H
  refine z_mkW (lv := [some (vr 32), some (vi p0_0), some (vi p1_0), some (vi p2_0), some (vr 359), none]) m_L_simplify rfl hl (Nat.le_of_ble_eq_true rfl) rfl ?_
  refine z_aload (M := M_L_simplify) dL_simplify_0 rfl ?_
  refine z_iconst (M := M_L_simplify) dL_simplify_2 ?_
  refine z_aload_n (M := M_L_simplify) dL_simplify_3 rfl ?_
  refine z_iload_n (M := M_L_simplify) dL_simplify_4 rfl ?_
  refine z_iload_n (M := M_L_simplify) dL_simplify_5 rfl ?_
  refine z_iload_n (M := M_L_simplify) dL_simplify_6 rfl ?_
  obtain ⟨z_6, σ_2, hc_1, K_4, K_5⟩ := bw_e H
  rcases z_6 with x_3 | z_6
  · have H := K_4 _ rfl
    refine z_callVHR (M := M_L_simplify) (M' := M_X11_simplify) (as := [vi p0_0, vi p1_0, vi p2_0]) (rest := [vi 0, vr 359]) rfl dL_simplify_7 m_X11_simplify t_2187 t_2188 t_2189 (v := some (vi x_3)) (c_X11_simplify hl hc_1) rfl rfl ly_32 rfl (Nat.le_of_ble_eq_true rfl) (Nat.le_of_ble_eq_true rfl) (Nat.le_of_ble_eq_true rfl) (Nat.le_of_ble_eq_true rfl) ?_
    refine z_st (st' := [vi x_3, vi 0, vr 359]) rfl ?_
    refine z_i2l (M := M_L_simplify) dL_simplify_10 ?_
    obtain ⟨σ_7, σ_7_e, hi_8, H⟩ := wa_e H
    refine z_last (M := M_L_simplify) dL_simplify_11 ly_359 rfl (by decide +kernel) rfl hi_8 σ_7_e ?_
    refine z_goto (M := M_L_simplify) (tgt := 27) dL_simplify_12 (by decide) ?_
    refine z_iconst (M := M_L_simplify) dL_simplify_27 ?_
    cases H
    exact z_iret (M := M_L_simplify) dL_simplify_28 rfl (Nat.le_of_ble_eq_true rfl) (Nat.le_of_ble_eq_true rfl) ⟨rfl, rfl⟩
  · have H := K_5 _ rfl
    rcases if_e H with ⟨h_9, H⟩ | ⟨h_9, H⟩
    · subst h_9
      refine z_callVHX (M := M_L_simplify) (lv' := [some (vr 32), some (vi p0_0), some (vi p1_0), some (vi p2_0), some (vr 359), none]) (M' := M_X11_simplify) (as := [vi p0_0, vi p1_0, vi p2_0]) (rest := [vi 0, vr 359]) rfl dL_simplify_7 m_X11_simplify t_2187 t_2188 t_2189 (e := 0) (c_X11_simplify hl hc_1) rfl rfl ly_32 rfl (Nat.le_of_ble_eq_true rfl) (Nat.le_of_ble_eq_true rfl) (Nat.le_of_ble_eq_true rfl) (Nat.le_of_ble_eq_true rfl) (en_hdm (k0 := 5) [] [(0, 12, 19, 13), (0, 12, 23, 19)] rfl (fun _ h => nomatch h) (by decide +kernel) (by decide) t_739 n_750 dL_simplify_15) (by decide) rfl rfl ?_
      refine z_iconst (M := M_L_simplify) dL_simplify_17 ?_
      cases H
      exact z_iret (M := M_L_simplify) dL_simplify_18 rfl (Nat.le_of_ble_eq_true rfl) (Nat.le_of_ble_eq_true rfl) ⟨rfl, rfl⟩
    · rcases if_e H with ⟨h_10, H⟩ | ⟨h_10, H⟩
      · subst h_10
        refine z_callVHX (M := M_L_simplify) (lv' := [some (vr 32), some (vi p0_0), some (vi p1_0), some (vi p2_0), some (vr 359), none]) (M' := M_X11_simplify) (as := [vi p0_0, vi p1_0, vi p2_0]) (rest := [vi 0, vr 359]) rfl dL_simplify_7 m_X11_simplify t_2187 t_2188 t_2189 (e := 1) (c_X11_simplify hl hc_1) rfl rfl ly_32 rfl (Nat.le_of_ble_eq_true rfl) (Nat.le_of_ble_eq_true rfl) (Nat.le_of_ble_eq_true rfl) (Nat.le_of_ble_eq_true rfl) (en_hdm (k0 := 5) [(0, 12, 15, 24)] [(0, 12, 23, 19)] rfl (List.forall_mem_cons.mpr ⟨⟨by decide, "java/lang/IndexOutOfBoundsException", t_739, by decide +kernel, by decide +kernel, by decide +kernel⟩, (fun _ h => nomatch h)⟩) (by decide +kernel) (by decide) t_637 n_645 dL_simplify_19) (by decide) rfl rfl ?_
        refine z_iconst (M := M_L_simplify) dL_simplify_21 ?_
        cases H
        exact z_iret (M := M_L_simplify) dL_simplify_22 rfl (Nat.le_of_ble_eq_true rfl) (Nat.le_of_ble_eq_true rfl) ⟨rfl, rfl⟩
      · rcases if_e H with ⟨h_11, H⟩ | ⟨h_11, H⟩
        · subst h_11
          refine z_callVHX (M := M_L_simplify) (lv' := [some (vr 32), some (vi p0_0), some (vi p1_0), some (vi p2_0), some (vr 359), none]) (M' := M_X11_simplify) (as := [vi p0_0, vi p1_0, vi p2_0]) (rest := [vi 0, vr 359]) rfl dL_simplify_7 m_X11_simplify t_2187 t_2188 t_2189 (e := 2) (c_X11_simplify hl hc_1) rfl rfl ly_32 rfl (Nat.le_of_ble_eq_true rfl) (Nat.le_of_ble_eq_true rfl) (Nat.le_of_ble_eq_true rfl) (Nat.le_of_ble_eq_true rfl) (en_hdm (k0 := 5) [(0, 12, 15, 24), (0, 12, 19, 13)] [] rfl (List.forall_mem_cons.mpr ⟨⟨by decide, "java/lang/IndexOutOfBoundsException", t_739, by decide +kernel, by decide +kernel, by decide +kernel⟩, (List.forall_mem_cons.mpr ⟨⟨by decide, "java/lang/IllegalStateException", t_637, by decide +kernel, by decide +kernel, by decide +kernel⟩, (fun _ h => nomatch h)⟩)⟩) (by decide +kernel) (by decide) t_716 n_723 dL_simplify_23) (by decide) rfl rfl ?_
          refine z_iconst (M := M_L_simplify) dL_simplify_25 ?_
          cases H
          exact z_iret (M := M_L_simplify) dL_simplify_26 rfl (Nat.le_of_ble_eq_true rfl) (Nat.le_of_ble_eq_true rfl) ⟨rfl, rfl⟩
        · cases H
theorem c_L_area (hl : l.stackTraces = false) {σ : SG} {p0_0 : Int} {r : Int} {σ' : SG} (H : fL_area σ p0_0 = some (r, σ')) : en_S l E M_L_area 8 2 12 [vr 32, vi p0_0, vr 359] σ (pS (some (vi r)) σ') := by
  unfold fL_area at H
  refine z_mkW (lv := [some (vr 32), some (vi p0_0), some (vr 359), none]) m_L_area rfl hl (Nat.le_of_ble_eq_true rfl) rfl ?_
  refine z_aload_n (M := M_L_area) dL_area_0 rfl ?_
  refine z_iconst (M := M_L_area) dL_area_1 ?_
  refine z_aload_n (M := M_L_area) dL_area_2 rfl ?_
  refine z_iload_n (M := M_L_area) dL_area_3 rfl ?_
  obtain ⟨z_6, σ_2, hc_1, K_4, K_5⟩ := bw_e H
  rcases z_6 with x_3 | z_6
  · have H := K_4 _ rfl
    refine z_callVHR (M := M_L_area) (M' := M_X11_area) (as := [vi p0_0]) (rest := [vi 0, vr 359]) rfl dL_area_4 m_X11_area t_2220 t_2221 t_2222 (v := some (vl x_3)) (c_X11_area hl hc_1) rfl rfl ly_32 rfl (Nat.le_of_ble_eq_true rfl) (Nat.le_of_ble_eq_true rfl) (Nat.le_of_ble_eq_true rfl) (Nat.le_of_ble_eq_true rfl) ?_
    refine z_st (st' := [vl x_3, vi 0, vr 359]) rfl ?_
    obtain ⟨σ_7, σ_7_e, hi_8, H⟩ := wa_e H
    refine z_last (M := M_L_area) dL_area_7 ly_359 rfl (by decide +kernel) rfl hi_8 σ_7_e ?_
    refine z_goto (M := M_L_area) (tgt := 17) dL_area_8 (by decide) ?_
    refine z_iconst (M := M_L_area) dL_area_17 ?_
    cases H
    exact z_iret (M := M_L_area) dL_area_18 rfl (Nat.le_of_ble_eq_true rfl) (Nat.le_of_ble_eq_true rfl) ⟨rfl, rfl⟩
  · have H := K_5 _ rfl
    rcases if_e H with ⟨h_9, H⟩ | ⟨h_9, H⟩
    · subst h_9
      refine z_callVHX (M := M_L_area) (lv' := [some (vr 32), some (vi p0_0), some (vr 359), none]) (M' := M_X11_area) (as := [vi p0_0]) (rest := [vi 0, vr 359]) rfl dL_area_4 m_X11_area t_2220 t_2221 t_2222 (e := 0) (c_X11_area hl hc_1) rfl rfl ly_32 rfl (Nat.le_of_ble_eq_true rfl) (Nat.le_of_ble_eq_true rfl) (Nat.le_of_ble_eq_true rfl) (Nat.le_of_ble_eq_true rfl) (en_hdn (k0 := 3) [] [(0, 8, 14, 13)] rfl (fun _ h => nomatch h) (by decide +kernel) (by decide) t_739 n_750 dL_area_11) (by decide) rfl rfl ?_
      refine z_iconst (M := M_L_area) dL_area_12 ?_
      cases H
      exact z_iret (M := M_L_area) dL_area_13 rfl (Nat.le_of_ble_eq_true rfl) (Nat.le_of_ble_eq_true rfl) ⟨rfl, rfl⟩
    · rcases if_e H with ⟨h_10, H⟩ | ⟨h_10, H⟩
      · subst h_10
        refine z_callVHX (M := M_L_area) (lv' := [some (vr 32), some (vi p0_0), some (vr 359), none]) (M' := M_X11_area) (as := [vi p0_0]) (rest := [vi 0, vr 359]) rfl dL_area_4 m_X11_area t_2220 t_2221 t_2222 (e := 1) (c_X11_area hl hc_1) rfl rfl ly_32 rfl (Nat.le_of_ble_eq_true rfl) (Nat.le_of_ble_eq_true rfl) (Nat.le_of_ble_eq_true rfl) (Nat.le_of_ble_eq_true rfl) (en_hdn (k0 := 3) [(0, 8, 11, 24)] [] rfl (List.forall_mem_cons.mpr ⟨⟨by decide, "java/lang/IndexOutOfBoundsException", t_739, by decide +kernel, by decide +kernel, by decide +kernel⟩, (fun _ h => nomatch h)⟩) (by decide +kernel) (by decide) t_637 n_645 dL_area_14) (by decide) rfl rfl ?_
        refine z_iconst (M := M_L_area) dL_area_15 ?_
        cases H
        exact z_iret (M := M_L_area) dL_area_16 rfl (Nat.le_of_ble_eq_true rfl) (Nat.le_of_ble_eq_true rfl) ⟨rfl, rfl⟩
      · cases H
theorem c_L_bounds (hl : l.stackTraces = false) {σ : SG} {p0_0 : Int} {p1_0 : Int} {r : Int} {σ' : SG} (H : fL_bounds σ p0_0 p1_0 = some (r, σ')) : en_S l E M_L_bounds 8 3 18 [vr 32, vi p0_0, vi p1_0, vr 359] σ (pS (some (vi r)) σ') := by
  unfold fL_bounds at H
  refine z_mkW (lv := [some (vr 32), some (vi p0_0), some (vi p1_0), some (vr 359), none]) m_L_bounds rfl hl (Nat.le_of_ble_eq_true rfl) rfl ?_
  refine z_aload_n (M := M_L_bounds) dL_bounds_0 rfl ?_
  refine z_iconst (M := M_L_bounds) dL_bounds_1 ?_
  refine z_aload_n (M := M_L_bounds) dL_bounds_2 rfl ?_
  refine z_iload_n (M := M_L_bounds) dL_bounds_3 rfl ?_
  refine z_iload_n (M := M_L_bounds) dL_bounds_4 rfl ?_
  obtain ⟨z_6, σ_2, hc_1, K_4, K_5⟩ := bw_e H
  rcases z_6 with x_3 | z_6
  · have H := K_4 _ rfl
    refine z_callVHR (M := M_L_bounds) (M' := M_X11_bounds) (as := [vi p0_0, vi p1_0]) (rest := [vi 0, vr 359]) rfl dL_bounds_5 m_X11_bounds t_2232 t_2233 t_2234 (v := some (vi x_3)) (c_X11_bounds hl hc_1) rfl rfl ly_32 rfl (Nat.le_of_ble_eq_true rfl) (Nat.le_of_ble_eq_true rfl) (Nat.le_of_ble_eq_true rfl) (Nat.le_of_ble_eq_true rfl) ?_
    refine z_st (st' := [vi x_3, vi 0, vr 359]) rfl ?_
    refine z_i2l (M := M_L_bounds) dL_bounds_8 ?_
    obtain ⟨σ_7, σ_7_e, hi_8, H⟩ := wa_e H
    refine z_last (M := M_L_bounds) dL_bounds_9 ly_359 rfl (by decide +kernel) rfl hi_8 σ_7_e ?_
    refine z_goto (M := M_L_bounds) (tgt := 25) dL_bounds_10 (by decide) ?_
    refine z_iconst (M := M_L_bounds) dL_bounds_25 ?_
    cases H
    exact z_iret (M := M_L_bounds) dL_bounds_26 rfl (Nat.le_of_ble_eq_true rfl) (Nat.le_of_ble_eq_true rfl) ⟨rfl, rfl⟩
  · have H := K_5 _ rfl
    rcases if_e H with ⟨h_9, H⟩ | ⟨h_9, H⟩
    · subst h_9
      refine z_callVHX (M := M_L_bounds) (lv' := [some (vr 32), some (vi p0_0), some (vi p1_0), some (vr 359), none]) (M' := M_X11_bounds) (as := [vi p0_0, vi p1_0]) (rest := [vi 0, vr 359]) rfl dL_bounds_5 m_X11_bounds t_2232 t_2233 t_2234 (e := 0) (c_X11_bounds hl hc_1) rfl rfl ly_32 rfl (Nat.le_of_ble_eq_true rfl) (Nat.le_of_ble_eq_true rfl) (Nat.le_of_ble_eq_true rfl) (Nat.le_of_ble_eq_true rfl) (en_hdm (k0 := 4) [] [(0, 10, 17, 13), (0, 10, 21, 19)] rfl (fun _ h => nomatch h) (by decide +kernel) (by decide) t_739 n_750 dL_bounds_13) (by decide) rfl rfl ?_
      refine z_iconst (M := M_L_bounds) dL_bounds_15 ?_
      cases H
      exact z_iret (M := M_L_bounds) dL_bounds_16 rfl (Nat.le_of_ble_eq_true rfl) (Nat.le_of_ble_eq_true rfl) ⟨rfl, rfl⟩
    · rcases if_e H with ⟨h_10, H⟩ | ⟨h_10, H⟩
      · subst h_10
        refine z_callVHX (M := M_L_bounds) (lv' := [some (vr 32), some (vi p0_0), some (vi p1_0), some (vr 359), none]) (M' := M_X11_bounds) (as := [vi p0_0, vi p1_0]) (rest := [vi 0, vr 359]) rfl dL_bounds_5 m_X11_bounds t_2232 t_2233 t_2234 (e := 1) (c_X11_bounds hl hc_1) rfl rfl ly_32 rfl (Nat.le_of_ble_eq_true rfl) (Nat.le_of_ble_eq_true rfl) (Nat.le_of_ble_eq_true rfl) (Nat.le_of_ble_eq_true rfl) (en_hdm (k0 := 4) [(0, 10, 13, 24)] [(0, 10, 21, 19)] rfl (List.forall_mem_cons.mpr ⟨⟨by decide, "java/lang/IndexOutOfBoundsException", t_739, by decide +kernel, by decide +kernel, by decide +kernel⟩, (fun _ h => nomatch h)⟩) (by decide +kernel) (by decide) t_637 n_645 dL_bounds_17) (by decide) rfl rfl ?_
        refine z_iconst (M := M_L_bounds) dL_bounds_19 ?_
        cases H
        exact z_iret (M := M_L_bounds) dL_bounds_20 rfl (Nat.le_of_ble_eq_true rfl) (Nat.le_of_ble_eq_true rfl) ⟨rfl, rfl⟩
      · rcases if_e H with ⟨h_11, H⟩ | ⟨h_11, H⟩
        · subst h_11
          refine z_callVHX (M := M_L_bounds) (lv' := [some (vr 32), some (vi p0_0), some (vi p1_0), some (vr 359), none]) (M' := M_X11_bounds) (as := [vi p0_0, vi p1_0]) (rest := [vi 0, vr 359]) rfl dL_bounds_5 m_X11_bounds t_2232 t_2233 t_2234 (e := 2) (c_X11_bounds hl hc_1) rfl rfl ly_32 rfl (Nat.le_of_ble_eq_true rfl) (Nat.le_of_ble_eq_true rfl) (Nat.le_of_ble_eq_true rfl) (Nat.le_of_ble_eq_true rfl) (en_hdm (k0 := 4) [(0, 10, 13, 24), (0, 10, 17, 13)] [] rfl (List.forall_mem_cons.mpr ⟨⟨by decide, "java/lang/IndexOutOfBoundsException", t_739, by decide +kernel, by decide +kernel, by decide +kernel⟩, (List.forall_mem_cons.mpr ⟨⟨by decide, "java/lang/IllegalStateException", t_637, by decide +kernel, by decide +kernel, by decide +kernel⟩, (fun _ h => nomatch h)⟩)⟩) (by decide +kernel) (by decide) t_716 n_723 dL_bounds_21) (by decide) rfl rfl ?_
          refine z_iconst (M := M_L_bounds) dL_bounds_23 ?_
          cases H
          exact z_iret (M := M_L_bounds) dL_bounds_24 rfl (Nat.le_of_ble_eq_true rfl) (Nat.le_of_ble_eq_true rfl) ⟨rfl, rfl⟩
        · cases H
theorem c_L_find (hl : l.stackTraces = false) {σ : SG} {p0_0 : Int} {p1_0 : Int} {p2_0 : Int} {p3_0 : Int} {p4_0 : Int} {r : Int} {σ' : SG} (H : fL_find σ p0_0 p1_0 p2_0 p3_0 p4_0 = some (r, σ')) : en_S l E M_L_find 7 1 6 [vr 32, vi p0_0, vi p1_0, vi p2_0, vi p3_0, vi p4_0, vr 359] σ (pS (some (vi r)) σ') := by
  unfold fL_find at H
  refine z_mkW (lv := [some (vr 32), some (vi p0_0), some (vi p1_0), some (vi p2_0), some (vi p3_0), some (vi p4_0), some (vr 359), none]) m_L_find rfl hl (Nat.le_of_ble_eq_true rfl) rfl ?_
  refine z_aload (M := M_L_find) dL_find_0 rfl ?_
  refine z_iconst (M := M_L_find) dL_find_2 ?_
  refine z_aload_n (M := M_L_find) dL_find_3 rfl ?_
  refine z_iload_n (M := M_L_find) dL_find_4 rfl ?_
  refine z_iload_n (M := M_L_find) dL_find_5 rfl ?_
  refine z_iload_n (M := M_L_find) dL_find_6 rfl ?_
  refine z_iload (M := M_L_find) dL_find_7 rfl ?_
  refine z_iload (M := M_L_find) dL_find_9 rfl ?_
  obtain ⟨z_6, σ_2, hc_1, K_4, K_5⟩ := bw_e H
  rcases z_6 with x_3 | z_6
  · have H := K_4 _ rfl
    refine z_callVHR (M := M_L_find) (M' := M_X11_find) (as := [vi p0_0, vi p1_0, vi p2_0, vi p3_0, vi p4_0]) (rest := [vi 0, vr 359]) rfl dL_find_11 m_X11_find t_2245 t_2246 t_2247 (v := some (vi x_3)) (c_X11_find hl hc_1) rfl rfl ly_32 rfl (Nat.le_of_ble_eq_true rfl) (Nat.le_of_ble_eq_true rfl) (Nat.le_of_ble_eq_true rfl) (Nat.le_of_ble_eq_true rfl) ?_
    refine z_st (st' := [vi x_3, vi 0, vr 359]) rfl ?_
    refine z_i2l (M := M_L_find) dL_find_14 ?_
    obtain ⟨σ_7, σ_7_e, hi_8, H⟩ := wa_e H
    refine z_last (M := M_L_find) dL_find_15 ly_359 rfl (by decide +kernel) rfl hi_8 σ_7_e ?_
    refine z_goto (M := M_L_find) (tgt := 23) dL_find_16 (by decide) ?_
    refine z_iconst (M := M_L_find) dL_find_23 ?_
    cases H
    exact z_iret (M := M_L_find) dL_find_24 rfl (Nat.le_of_ble_eq_true rfl) (Nat.le_of_ble_eq_true rfl) ⟨rfl, rfl⟩
  · have H := K_5 _ rfl
    rcases if_e H with ⟨h_9, H⟩ | ⟨h_9, H⟩
    · subst h_9
      refine z_callVHX (M := M_L_find) (lv' := [some (vr 32), some (vi p0_0), some (vi p1_0), some (vi p2_0), some (vi p3_0), some (vi p4_0), some (vr 359), none]) (M' := M_X11_find) (as := [vi p0_0, vi p1_0, vi p2_0, vi p3_0, vi p4_0]) (rest := [vi 0, vr 359]) rfl dL_find_11 m_X11_find t_2245 t_2246 t_2247 (e := 2) (c_X11_find hl hc_1) rfl rfl ly_32 rfl (Nat.le_of_ble_eq_true rfl) (Nat.le_of_ble_eq_true rfl) (Nat.le_of_ble_eq_true rfl) (Nat.le_of_ble_eq_true rfl) (en_hdm (k0 := 7) [] [] rfl (fun _ h => nomatch h) (by decide +kernel) (by decide) t_716 n_723 dL_find_19) (by decide) rfl rfl ?_
      refine z_iconst (M := M_L_find) dL_find_21 ?_
      cases H
      exact z_iret (M := M_L_find) dL_find_22 rfl (Nat.le_of_ble_eq_true rfl) (Nat.le_of_ble_eq_true rfl) ⟨rfl, rfl⟩
    · cases H
theorem c_L_nearest (hl : l.stackTraces = false) {σ : SG} {p0_0 : Int} {p1_0 : Int} {p2_0 : Int} {r : Int} {σ' : SG} (H : fL_nearest σ p0_0 p1_0 p2_0 = some (r, σ')) : en_S l E M_L_nearest 7 1 6 [vr 32, vi p0_0, vi p1_0, vi p2_0, vr 359] σ (pS (some (vi r)) σ') := by
  unfold fL_nearest at H
  refine z_mkW (lv := [some (vr 32), some (vi p0_0), some (vi p1_0), some (vi p2_0), some (vr 359), none]) m_L_nearest rfl hl (Nat.le_of_ble_eq_true rfl) rfl ?_
  refine z_aload (M := M_L_nearest) dL_nearest_0 rfl ?_
  refine z_iconst (M := M_L_nearest) dL_nearest_2 ?_
  refine z_aload_n (M := M_L_nearest) dL_nearest_3 rfl ?_
  refine z_iload_n (M := M_L_nearest) dL_nearest_4 rfl ?_
  refine z_iload_n (M := M_L_nearest) dL_nearest_5 rfl ?_
  refine z_iload_n (M := M_L_nearest) dL_nearest_6 rfl ?_
  obtain ⟨z_6, σ_2, hc_1, K_4, K_5⟩ := bw_e H
  rcases z_6 with x_3 | z_6
  · have H := K_4 _ rfl
    refine z_callVHR (M := M_L_nearest) (M' := M_X11_nearest) (as := [vi p0_0, vi p1_0, vi p2_0]) (rest := [vi 0, vr 359]) rfl dL_nearest_7 m_X11_nearest t_2257 t_2258 t_2259 (v := some (vi x_3)) (c_X11_nearest hl hc_1) rfl rfl ly_32 rfl (Nat.le_of_ble_eq_true rfl) (Nat.le_of_ble_eq_true rfl) (Nat.le_of_ble_eq_true rfl) (Nat.le_of_ble_eq_true rfl) ?_
    refine z_st (st' := [vi x_3, vi 0, vr 359]) rfl ?_
    refine z_i2l (M := M_L_nearest) dL_nearest_10 ?_
    obtain ⟨σ_7, σ_7_e, hi_8, H⟩ := wa_e H
    refine z_last (M := M_L_nearest) dL_nearest_11 ly_359 rfl (by decide +kernel) rfl hi_8 σ_7_e ?_
    refine z_goto (M := M_L_nearest) (tgt := 19) dL_nearest_12 (by decide) ?_
    refine z_iconst (M := M_L_nearest) dL_nearest_19 ?_
    cases H
    exact z_iret (M := M_L_nearest) dL_nearest_20 rfl (Nat.le_of_ble_eq_true rfl) (Nat.le_of_ble_eq_true rfl) ⟨rfl, rfl⟩
  · have H := K_5 _ rfl
    rcases if_e H with ⟨h_9, H⟩ | ⟨h_9, H⟩
    · subst h_9
      refine z_callVHX (M := M_L_nearest) (lv' := [some (vr 32), some (vi p0_0), some (vi p1_0), some (vi p2_0), some (vr 359), none]) (M' := M_X11_nearest) (as := [vi p0_0, vi p1_0, vi p2_0]) (rest := [vi 0, vr 359]) rfl dL_nearest_7 m_X11_nearest t_2257 t_2258 t_2259 (e := 2) (c_X11_nearest hl hc_1) rfl rfl ly_32 rfl (Nat.le_of_ble_eq_true rfl) (Nat.le_of_ble_eq_true rfl) (Nat.le_of_ble_eq_true rfl) (Nat.le_of_ble_eq_true rfl) (en_hdm (k0 := 5) [] [] rfl (fun _ h => nomatch h) (by decide +kernel) (by decide) t_716 n_723 dL_nearest_15) (by decide) rfl rfl ?_
      refine z_iconst (M := M_L_nearest) dL_nearest_17 ?_
      cases H
      exact z_iret (M := M_L_nearest) dL_nearest_18 rfl (Nat.le_of_ble_eq_true rfl) (Nat.le_of_ble_eq_true rfl) ⟨rfl, rfl⟩
    · cases H
theorem c_L_found (hl : l.stackTraces = false) {σ : SG} {p0_0 : Int} {r : Int} {σ' : SG} (H : fL_found σ p0_0 = some (r, σ')) : en_S l E M_L_found 7 1 6 [vr 32, vi p0_0, vr 359] σ (pS (some (vi r)) σ') := by
  unfold fL_found at H
  refine z_mkW (lv := [some (vr 32), some (vi p0_0), some (vr 359), none]) m_L_found rfl hl (Nat.le_of_ble_eq_true rfl) rfl ?_
  refine z_aload_n (M := M_L_found) dL_found_0 rfl ?_
  refine z_iconst (M := M_L_found) dL_found_1 ?_
  refine z_aload_n (M := M_L_found) dL_found_2 rfl ?_
  refine z_iload_n (M := M_L_found) dL_found_3 rfl ?_
  obtain ⟨z_6, σ_2, hc_1, K_4, K_5⟩ := bw_e H
  rcases z_6 with x_3 | z_6
  · have H := K_4 _ rfl
    refine z_callVHR (M := M_L_found) (M' := M_X11_found) (as := [vi p0_0]) (rest := [vi 0, vr 359]) rfl dL_found_4 m_X11_found t_2273 t_2274 t_2275 (v := some (vi x_3)) (c_X11_found hl hc_1) rfl rfl ly_32 rfl (Nat.le_of_ble_eq_true rfl) (Nat.le_of_ble_eq_true rfl) (Nat.le_of_ble_eq_true rfl) (Nat.le_of_ble_eq_true rfl) ?_
    refine z_st (st' := [vi x_3, vi 0, vr 359]) rfl ?_
    refine z_i2l (M := M_L_found) dL_found_7 ?_
    obtain ⟨σ_7, σ_7_e, hi_8, H⟩ := wa_e H
    refine z_last (M := M_L_found) dL_found_8 ly_359 rfl (by decide +kernel) rfl hi_8 σ_7_e ?_
    refine z_goto (M := M_L_found) (tgt := 15) dL_found_9 (by decide) ?_
    refine z_iconst (M := M_L_found) dL_found_15 ?_
    cases H
    exact z_iret (M := M_L_found) dL_found_16 rfl (Nat.le_of_ble_eq_true rfl) (Nat.le_of_ble_eq_true rfl) ⟨rfl, rfl⟩
  · have H := K_5 _ rfl
    rcases if_e H with ⟨h_9, H⟩ | ⟨h_9, H⟩
    · subst h_9
      refine z_callVHX (M := M_L_found) (lv' := [some (vr 32), some (vi p0_0), some (vr 359), none]) (M' := M_X11_found) (as := [vi p0_0]) (rest := [vi 0, vr 359]) rfl dL_found_4 m_X11_found t_2273 t_2274 t_2275 (e := 0) (c_X11_found hl hc_1) rfl rfl ly_32 rfl (Nat.le_of_ble_eq_true rfl) (Nat.le_of_ble_eq_true rfl) (Nat.le_of_ble_eq_true rfl) (Nat.le_of_ble_eq_true rfl) (en_hdn (k0 := 3) [] [] rfl (fun _ h => nomatch h) (by decide +kernel) (by decide) t_739 n_750 dL_found_12) (by decide) rfl rfl ?_
      refine z_iconst (M := M_L_found) dL_found_13 ?_
      cases H
      exact z_iret (M := M_L_found) dL_found_14 rfl (Nat.le_of_ble_eq_true rfl) (Nat.le_of_ble_eq_true rfl) ⟨rfl, rfl⟩
    · cases H
theorem c_L_plan (hl : l.stackTraces = false) {σ : SG} {p0_0 : Int} {p1_0 : Int} {r : Int} {σ' : SG} (H : fL_plan σ p0_0 p1_0 = some (r, σ')) : en_S l E M_L_plan 8 2 12 [vr 32, vi p0_0, vi p1_0, vr 359] σ (pS (some (vi r)) σ') := by
  unfold fL_plan at H
  refine z_mkW (lv := [some (vr 32), some (vi p0_0), some (vi p1_0), some (vr 359), none]) m_L_plan rfl hl (Nat.le_of_ble_eq_true rfl) rfl ?_
  refine z_aload_n (M := M_L_plan) dL_plan_0 rfl ?_
  refine z_iconst (M := M_L_plan) dL_plan_1 ?_
  refine z_aload_n (M := M_L_plan) dL_plan_2 rfl ?_
  refine z_iload_n (M := M_L_plan) dL_plan_3 rfl ?_
  refine z_iload_n (M := M_L_plan) dL_plan_4 rfl ?_
  obtain ⟨z_6, σ_2, hc_1, K_4, K_5⟩ := bw_e H
  rcases z_6 with x_3 | z_6
  · have H := K_4 _ rfl
    refine z_callVHR (M := M_L_plan) (M' := M_X11_plan) (as := [vi p0_0, vi p1_0]) (rest := [vi 0, vr 359]) rfl dL_plan_5 m_X11_plan t_2280 t_2281 t_2282 (v := some (vi x_3)) (c_X11_plan hl hc_1) rfl rfl ly_32 rfl (Nat.le_of_ble_eq_true rfl) (Nat.le_of_ble_eq_true rfl) (Nat.le_of_ble_eq_true rfl) (Nat.le_of_ble_eq_true rfl) ?_
    refine z_st (st' := [vi x_3, vi 0, vr 359]) rfl ?_
    refine z_i2l (M := M_L_plan) dL_plan_8 ?_
    obtain ⟨σ_7, σ_7_e, hi_8, H⟩ := wa_e H
    refine z_last (M := M_L_plan) dL_plan_9 ly_359 rfl (by decide +kernel) rfl hi_8 σ_7_e ?_
    refine z_goto (M := M_L_plan) (tgt := 17) dL_plan_10 (by decide) ?_
    refine z_iconst (M := M_L_plan) dL_plan_17 ?_
    cases H
    exact z_iret (M := M_L_plan) dL_plan_18 rfl (Nat.le_of_ble_eq_true rfl) (Nat.le_of_ble_eq_true rfl) ⟨rfl, rfl⟩
  · have H := K_5 _ rfl
    rcases if_e H with ⟨h_9, H⟩ | ⟨h_9, H⟩
    · subst h_9
      refine z_callVHX (M := M_L_plan) (lv' := [some (vr 32), some (vi p0_0), some (vi p1_0), some (vr 359), none]) (M' := M_X11_plan) (as := [vi p0_0, vi p1_0]) (rest := [vi 0, vr 359]) rfl dL_plan_5 m_X11_plan t_2280 t_2281 t_2282 (e := 0) (c_X11_plan hl hc_1) rfl rfl ly_32 rfl (Nat.le_of_ble_eq_true rfl) (Nat.le_of_ble_eq_true rfl) (Nat.le_of_ble_eq_true rfl) (Nat.le_of_ble_eq_true rfl) (en_hdm (k0 := 4) [] [] rfl (fun _ h => nomatch h) (by decide +kernel) (by decide) t_739 n_750 dL_plan_13) (by decide) rfl rfl ?_
      refine z_iconst (M := M_L_plan) dL_plan_15 ?_
      cases H
      exact z_iret (M := M_L_plan) dL_plan_16 rfl (Nat.le_of_ble_eq_true rfl) (Nat.le_of_ble_eq_true rfl) ⟨rfl, rfl⟩
    · cases H
theorem c_L_ordinate (hl : l.stackTraces = false) {σ : SG} {p0_0 : Int} {p1_0 : Int} {p2_0 : Int} {r : Int} {σ' : SG} (H : fL_ordinate σ p0_0 p1_0 p2_0 = some (r, σ')) : en_S l E M_L_ordinate 8 2 12 [vr 32, vi p0_0, vi p1_0, vi p2_0, vr 359] σ (pS (some (vi r)) σ') := by
  unfold fL_ordinate at H
  refine z_mkW (lv := [some (vr 32), some (vi p0_0), some (vi p1_0), some (vi p2_0), some (vr 359), none]) m_L_ordinate rfl hl (Nat.le_of_ble_eq_true rfl) rfl ?_
  refine z_aload (M := M_L_ordinate) dL_ordinate_0 rfl ?_
  refine z_iconst (M := M_L_ordinate) dL_ordinate_2 ?_
  refine z_aload_n (M := M_L_ordinate) dL_ordinate_3 rfl ?_
  refine z_iload_n (M := M_L_ordinate) dL_ordinate_4 rfl ?_
  refine z_iload_n (M := M_L_ordinate) dL_ordinate_5 rfl ?_
  refine z_iload_n (M := M_L_ordinate) dL_ordinate_6 rfl ?_
  obtain ⟨z_6, σ_2, hc_1, K_4, K_5⟩ := bw_e H
  rcases z_6 with x_3 | z_6
  · have H := K_4 _ rfl
    refine z_callVHR (M := M_L_ordinate) (M' := M_X11_ordinate) (as := [vi p0_0, vi p1_0, vi p2_0]) (rest := [vi 0, vr 359]) rfl dL_ordinate_7 m_X11_ordinate t_2287 t_2288 t_2289 (v := some (vi x_3)) (c_X11_ordinate hl hc_1) rfl rfl ly_32 rfl (Nat.le_of_ble_eq_true rfl) (Nat.le_of_ble_eq_true rfl) (Nat.le_of_ble_eq_true rfl) (Nat.le_of_ble_eq_true rfl) ?_
    refine z_st (st' := [vi x_3, vi 0, vr 359]) rfl ?_
    refine z_i2l (M := M_L_ordinate) dL_ordinate_10 ?_
    obtain ⟨σ_7, σ_7_e, hi_8, H⟩ := wa_e H
    refine z_last (M := M_L_ordinate) dL_ordinate_11 ly_359 rfl (by decide +kernel) rfl hi_8 σ_7_e ?_
    refine z_goto (M := M_L_ordinate) (tgt := 19) dL_ordinate_12 (by decide) ?_
    refine z_iconst (M := M_L_ordinate) dL_ordinate_19 ?_
    cases H
    exact z_iret (M := M_L_ordinate) dL_ordinate_20 rfl (Nat.le_of_ble_eq_true rfl) (Nat.le_of_ble_eq_true rfl) ⟨rfl, rfl⟩
  · have H := K_5 _ rfl
    rcases if_e H with ⟨h_9, H⟩ | ⟨h_9, H⟩
    · subst h_9
      refine z_callVHX (M := M_L_ordinate) (lv' := [some (vr 32), some (vi p0_0), some (vi p1_0), some (vi p2_0), some (vr 359), none]) (M' := M_X11_ordinate) (as := [vi p0_0, vi p1_0, vi p2_0]) (rest := [vi 0, vr 359]) rfl dL_ordinate_7 m_X11_ordinate t_2287 t_2288 t_2289 (e := 0) (c_X11_ordinate hl hc_1) rfl rfl ly_32 rfl (Nat.le_of_ble_eq_true rfl) (Nat.le_of_ble_eq_true rfl) (Nat.le_of_ble_eq_true rfl) (Nat.le_of_ble_eq_true rfl) (en_hdm (k0 := 5) [] [] rfl (fun _ h => nomatch h) (by decide +kernel) (by decide) t_739 n_750 dL_ordinate_15) (by decide) rfl rfl ?_
      refine z_iconst (M := M_L_ordinate) dL_ordinate_17 ?_
      cases H
      exact z_iret (M := M_L_ordinate) dL_ordinate_18 rfl (Nat.le_of_ble_eq_true rfl) (Nat.le_of_ble_eq_true rfl) ⟨rfl, rfl⟩
    · cases H
theorem c_L_count (hl : l.stackTraces = false) {σ : SG} {p0_0 : Int} {p1_0 : Int} {r : Int} {σ' : SG} (H : fL_count σ p0_0 p1_0 = some (r, σ')) : en_S l E M_L_count 8 2 12 [vr 32, vi p0_0, vi p1_0, vr 359] σ (pS (some (vi r)) σ') := by
  unfold fL_count at H
  refine z_mkW (lv := [some (vr 32), some (vi p0_0), some (vi p1_0), some (vr 359), none]) m_L_count rfl hl (Nat.le_of_ble_eq_true rfl) rfl ?_
  refine z_aload_n (M := M_L_count) dL_count_0 rfl ?_
  refine z_iconst (M := M_L_count) dL_count_1 ?_
  refine z_aload_n (M := M_L_count) dL_count_2 rfl ?_
  refine z_iload_n (M := M_L_count) dL_count_3 rfl ?_
  refine z_iload_n (M := M_L_count) dL_count_4 rfl ?_
  obtain ⟨z_6, σ_2, hc_1, K_4, K_5⟩ := bw_e H
  rcases z_6 with x_3 | z_6
  · have H := K_4 _ rfl
    refine z_callVHR (M := M_L_count) (M' := M_X11_count) (as := [vi p0_0, vi p1_0]) (rest := [vi 0, vr 359]) rfl dL_count_5 m_X11_count t_2294 t_2295 t_2296 (v := some (vi x_3)) (c_X11_count hl hc_1) rfl rfl ly_32 rfl (Nat.le_of_ble_eq_true rfl) (Nat.le_of_ble_eq_true rfl) (Nat.le_of_ble_eq_true rfl) (Nat.le_of_ble_eq_true rfl) ?_
    refine z_st (st' := [vi x_3, vi 0, vr 359]) rfl ?_
    refine z_i2l (M := M_L_count) dL_count_8 ?_
    obtain ⟨σ_7, σ_7_e, hi_8, H⟩ := wa_e H
    refine z_last (M := M_L_count) dL_count_9 ly_359 rfl (by decide +kernel) rfl hi_8 σ_7_e ?_
    refine z_goto (M := M_L_count) (tgt := 17) dL_count_10 (by decide) ?_
    refine z_iconst (M := M_L_count) dL_count_17 ?_
    cases H
    exact z_iret (M := M_L_count) dL_count_18 rfl (Nat.le_of_ble_eq_true rfl) (Nat.le_of_ble_eq_true rfl) ⟨rfl, rfl⟩
  · have H := K_5 _ rfl
    rcases if_e H with ⟨h_9, H⟩ | ⟨h_9, H⟩
    · subst h_9
      refine z_callVHX (M := M_L_count) (lv' := [some (vr 32), some (vi p0_0), some (vi p1_0), some (vr 359), none]) (M' := M_X11_count) (as := [vi p0_0, vi p1_0]) (rest := [vi 0, vr 359]) rfl dL_count_5 m_X11_count t_2294 t_2295 t_2296 (e := 0) (c_X11_count hl hc_1) rfl rfl ly_32 rfl (Nat.le_of_ble_eq_true rfl) (Nat.le_of_ble_eq_true rfl) (Nat.le_of_ble_eq_true rfl) (Nat.le_of_ble_eq_true rfl) (en_hdm (k0 := 4) [] [] rfl (fun _ h => nomatch h) (by decide +kernel) (by decide) t_739 n_750 dL_count_13) (by decide) rfl rfl ?_
      refine z_iconst (M := M_L_count) dL_count_15 ?_
      cases H
      exact z_iret (M := M_L_count) dL_count_16 rfl (Nat.le_of_ble_eq_true rfl) (Nat.le_of_ble_eq_true rfl) ⟨rfl, rfl⟩
    · cases H
theorem c_L_point (hl : l.stackTraces = false) {σ : SG} {p0_0 : Int} {p1_0 : Int} {p2_0 : Int} {r : Int} {σ' : SG} (H : fL_point σ p0_0 p1_0 p2_0 = some (r, σ')) : en_S l E M_L_point 7 1 6 [vr 32, vi p0_0, vl p1_0, vl p2_0] σ (pS (some (vi r)) σ') := by
  unfold fL_point at H
  refine z_mkW (lv := [some (vr 32), some (vi p0_0), some (vl p1_0), none, some (vl p2_0), none, none]) m_L_point rfl hl (Nat.le_of_ble_eq_true rfl) rfl ?_
  refine z_aload_n (M := M_L_point) dL_point_0 rfl ?_
  refine z_iload_n (M := M_L_point) dL_point_1 rfl ?_
  refine z_lload_n (M := M_L_point) dL_point_2 rfl ?_
  refine z_lload (M := M_L_point) dL_point_3 rfl ?_
  obtain ⟨z_6, σ_2, hc_1, K_4, K_5⟩ := bw_e H
  rcases z_6 with x_3 | z_6
  · have H := K_4 _ rfl
    refine z_callVHR (M := M_L_point) (M' := M_X11_point) (as := [vi p0_0, vl p1_0, vl p2_0]) (rest := []) rfl dL_point_5 m_X11_point t_2305 t_2306 t_2307 (v := none) (c_X11_point hl hc_1) rfl rfl ly_32 rfl (Nat.le_of_ble_eq_true rfl) (Nat.le_of_ble_eq_true rfl) (Nat.le_of_ble_eq_true rfl) (Nat.le_of_ble_eq_true rfl) ?_
    refine z_st (st' := []) rfl ?_
    refine z_goto (M := M_L_point) (tgt := 19) dL_point_8 (by decide) ?_
    refine z_iconst (M := M_L_point) dL_point_19 ?_
    cases H
    exact z_iret (M := M_L_point) dL_point_20 rfl (Nat.le_of_ble_eq_true rfl) (Nat.le_of_ble_eq_true rfl) ⟨rfl, rfl⟩
  · have H := K_5 _ rfl
    rcases if_e H with ⟨h_7, H⟩ | ⟨h_7, H⟩
    · subst h_7
      refine z_callVHX (M := M_L_point) (lv' := [some (vr 32), some (vi p0_0), some (vl p1_0), none, some (vl p2_0), none, none]) (M' := M_X11_point) (as := [vi p0_0, vl p1_0, vl p2_0]) (rest := []) rfl dL_point_5 m_X11_point t_2305 t_2306 t_2307 (e := 0) (c_X11_point hl hc_1) rfl rfl ly_32 rfl (Nat.le_of_ble_eq_true rfl) (Nat.le_of_ble_eq_true rfl) (Nat.le_of_ble_eq_true rfl) (Nat.le_of_ble_eq_true rfl) (en_hdm (k0 := 6) [] [(0, 8, 15, 19)] rfl (fun _ h => nomatch h) (by decide +kernel) (by decide) t_739 n_750 dL_point_11) (by decide) rfl rfl ?_
      refine z_iconst (M := M_L_point) dL_point_13 ?_
      cases H
      exact z_iret (M := M_L_point) dL_point_14 rfl (Nat.le_of_ble_eq_true rfl) (Nat.le_of_ble_eq_true rfl) ⟨rfl, rfl⟩
    · rcases if_e H with ⟨h_8, H⟩ | ⟨h_8, H⟩
      · subst h_8
        refine z_callVHX (M := M_L_point) (lv' := [some (vr 32), some (vi p0_0), some (vl p1_0), none, some (vl p2_0), none, none]) (M' := M_X11_point) (as := [vi p0_0, vl p1_0, vl p2_0]) (rest := []) rfl dL_point_5 m_X11_point t_2305 t_2306 t_2307 (e := 2) (c_X11_point hl hc_1) rfl rfl ly_32 rfl (Nat.le_of_ble_eq_true rfl) (Nat.le_of_ble_eq_true rfl) (Nat.le_of_ble_eq_true rfl) (Nat.le_of_ble_eq_true rfl) (en_hdm (k0 := 6) [(0, 8, 11, 24)] [] rfl (List.forall_mem_cons.mpr ⟨⟨by decide, "java/lang/IndexOutOfBoundsException", t_739, by decide +kernel, by decide +kernel, by decide +kernel⟩, (fun _ h => nomatch h)⟩) (by decide +kernel) (by decide) t_716 n_723 dL_point_15) (by decide) rfl rfl ?_
        refine z_iconst (M := M_L_point) dL_point_17 ?_
        cases H
        exact z_iret (M := M_L_point) dL_point_18 rfl (Nat.le_of_ble_eq_true rfl) (Nat.le_of_ble_eq_true rfl) ⟨rfl, rfl⟩
      · cases H
theorem c_L_side (hl : l.stackTraces = false) {σ : SG} {p0_0 : Int} {p1_0 : Int} {p2_0 : Int} {r : Int} {σ' : SG} (H : fL_side σ p0_0 p1_0 p2_0 = some (r, σ')) : en_S l E M_L_side 7 1 6 [vr 32, vi p0_0, vi p1_0, vi p2_0, vr 359] σ (pS (some (vi r)) σ') := by
  unfold fL_side at H
  refine z_mkW (lv := [some (vr 32), some (vi p0_0), some (vi p1_0), some (vi p2_0), some (vr 359), none]) m_L_side rfl hl (Nat.le_of_ble_eq_true rfl) rfl ?_
  refine z_aload (M := M_L_side) dL_side_0 rfl ?_
  refine z_iconst (M := M_L_side) dL_side_2 ?_
  refine z_aload_n (M := M_L_side) dL_side_3 rfl ?_
  refine z_iload_n (M := M_L_side) dL_side_4 rfl ?_
  refine z_iload_n (M := M_L_side) dL_side_5 rfl ?_
  refine z_iload_n (M := M_L_side) dL_side_6 rfl ?_
  obtain ⟨z_6, σ_2, hc_1, K_4, K_5⟩ := bw_e H
  rcases z_6 with x_3 | z_6
  · have H := K_4 _ rfl
    refine z_callVHR (M := M_L_side) (M' := M_X11_side) (as := [vi p0_0, vi p1_0, vi p2_0]) (rest := [vi 0, vr 359]) rfl dL_side_7 m_X11_side t_2319 t_2320 t_2321 (v := some (vi x_3)) (c_X11_side hl hc_1) rfl rfl ly_32 rfl (Nat.le_of_ble_eq_true rfl) (Nat.le_of_ble_eq_true rfl) (Nat.le_of_ble_eq_true rfl) (Nat.le_of_ble_eq_true rfl) ?_
    refine z_st (st' := [vi x_3, vi 0, vr 359]) rfl ?_
    refine z_i2l (M := M_L_side) dL_side_10 ?_
    obtain ⟨σ_7, σ_7_e, hi_8, H⟩ := wa_e H
    refine z_last (M := M_L_side) dL_side_11 ly_359 rfl (by decide +kernel) rfl hi_8 σ_7_e ?_
    refine z_goto (M := M_L_side) (tgt := 19) dL_side_12 (by decide) ?_
    refine z_iconst (M := M_L_side) dL_side_19 ?_
    cases H
    exact z_iret (M := M_L_side) dL_side_20 rfl (Nat.le_of_ble_eq_true rfl) (Nat.le_of_ble_eq_true rfl) ⟨rfl, rfl⟩
  · have H := K_5 _ rfl
    rcases if_e H with ⟨h_9, H⟩ | ⟨h_9, H⟩
    · subst h_9
      refine z_callVHX (M := M_L_side) (lv' := [some (vr 32), some (vi p0_0), some (vi p1_0), some (vi p2_0), some (vr 359), none]) (M' := M_X11_side) (as := [vi p0_0, vi p1_0, vi p2_0]) (rest := [vi 0, vr 359]) rfl dL_side_7 m_X11_side t_2319 t_2320 t_2321 (e := 0) (c_X11_side hl hc_1) rfl rfl ly_32 rfl (Nat.le_of_ble_eq_true rfl) (Nat.le_of_ble_eq_true rfl) (Nat.le_of_ble_eq_true rfl) (Nat.le_of_ble_eq_true rfl) (en_hdm (k0 := 5) [] [] rfl (fun _ h => nomatch h) (by decide +kernel) (by decide) t_739 n_750 dL_side_15) (by decide) rfl rfl ?_
      refine z_iconst (M := M_L_side) dL_side_17 ?_
      cases H
      exact z_iret (M := M_L_side) dL_side_18 rfl (Nat.le_of_ble_eq_true rfl) (Nat.le_of_ble_eq_true rfl) ⟨rfl, rfl⟩
    · cases H
theorem c_L_circle (hl : l.stackTraces = false) {σ : SG} {p0_0 : Int} {p1_0 : Int} {p2_0 : Int} {p3_0 : Int} {r : Int} {σ' : SG} (H : fL_circle σ p0_0 p1_0 p2_0 p3_0 = some (r, σ')) : en_S l E M_L_circle 7 1 6 [vr 32, vi p0_0, vi p1_0, vi p2_0, vi p3_0, vr 359] σ (pS (some (vi r)) σ') := by
  unfold fL_circle at H
  refine z_mkW (lv := [some (vr 32), some (vi p0_0), some (vi p1_0), some (vi p2_0), some (vi p3_0), some (vr 359), none]) m_L_circle rfl hl (Nat.le_of_ble_eq_true rfl) rfl ?_
  refine z_aload (M := M_L_circle) dL_circle_0 rfl ?_
  refine z_iconst (M := M_L_circle) dL_circle_2 ?_
  refine z_aload_n (M := M_L_circle) dL_circle_3 rfl ?_
  refine z_iload_n (M := M_L_circle) dL_circle_4 rfl ?_
  refine z_iload_n (M := M_L_circle) dL_circle_5 rfl ?_
  refine z_iload_n (M := M_L_circle) dL_circle_6 rfl ?_
  refine z_iload (M := M_L_circle) dL_circle_7 rfl ?_
  obtain ⟨z_6, σ_2, hc_1, K_4, K_5⟩ := bw_e H
  rcases z_6 with x_3 | z_6
  · have H := K_4 _ rfl
    refine z_callVHR (M := M_L_circle) (M' := M_X11_circle) (as := [vi p0_0, vi p1_0, vi p2_0, vi p3_0]) (rest := [vi 0, vr 359]) rfl dL_circle_9 m_X11_circle t_2367 t_2368 t_2369 (v := some (vi x_3)) (c_X11_circle hl hc_1) rfl rfl ly_32 rfl (Nat.le_of_ble_eq_true rfl) (Nat.le_of_ble_eq_true rfl) (Nat.le_of_ble_eq_true rfl) (Nat.le_of_ble_eq_true rfl) ?_
    refine z_st (st' := [vi x_3, vi 0, vr 359]) rfl ?_
    refine z_i2l (M := M_L_circle) dL_circle_12 ?_
    obtain ⟨σ_7, σ_7_e, hi_8, H⟩ := wa_e H
    refine z_last (M := M_L_circle) dL_circle_13 ly_359 rfl (by decide +kernel) rfl hi_8 σ_7_e ?_
    refine z_goto (M := M_L_circle) (tgt := 21) dL_circle_14 (by decide) ?_
    refine z_iconst (M := M_L_circle) dL_circle_21 ?_
    cases H
    exact z_iret (M := M_L_circle) dL_circle_22 rfl (Nat.le_of_ble_eq_true rfl) (Nat.le_of_ble_eq_true rfl) ⟨rfl, rfl⟩
  · have H := K_5 _ rfl
    rcases if_e H with ⟨h_9, H⟩ | ⟨h_9, H⟩
    · subst h_9
      refine z_callVHX (M := M_L_circle) (lv' := [some (vr 32), some (vi p0_0), some (vi p1_0), some (vi p2_0), some (vi p3_0), some (vr 359), none]) (M' := M_X11_circle) (as := [vi p0_0, vi p1_0, vi p2_0, vi p3_0]) (rest := [vi 0, vr 359]) rfl dL_circle_9 m_X11_circle t_2367 t_2368 t_2369 (e := 0) (c_X11_circle hl hc_1) rfl rfl ly_32 rfl (Nat.le_of_ble_eq_true rfl) (Nat.le_of_ble_eq_true rfl) (Nat.le_of_ble_eq_true rfl) (Nat.le_of_ble_eq_true rfl) (en_hdm (k0 := 6) [] [] rfl (fun _ h => nomatch h) (by decide +kernel) (by decide) t_739 n_750 dL_circle_17) (by decide) rfl rfl ?_
      refine z_iconst (M := M_L_circle) dL_circle_19 ?_
      cases H
      exact z_iret (M := M_L_circle) dL_circle_20 rfl (Nat.le_of_ble_eq_true rfl) (Nat.le_of_ble_eq_true rfl) ⟨rfl, rfl⟩
    · cases H
end LWR
