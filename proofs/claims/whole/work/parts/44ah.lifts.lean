section LFAH
variable {l : Launch} {E : EE}
theorem c_X2_tellTriangles (hl : l.stackTraces = false) {σ : SG} {into_0 : Nat} {r : Int} {σ' : SG} (h_into : isS into_0) (H : fP_tellTriangles σ into_0 = some (r, σ')) : en_S l E M_X2_tellTriangles 2 0 0 [vr 238, vr into_0] σ (pS (some (vi r)) σ') := by
  unfold fP_tellTriangles at H
  refine z_mk (lv := [some (vr 238), some (vr into_0), none, none, none, none]) m_X2_tellTriangles rfl hl (Nat.le_of_ble_eq_true rfl) rfl ?_
  refine z_aload_n (M := M_X2_tellTriangles) dX2_tellTriangles_0 rfl ?_
  obtain ⟨σ_2, hc_1, H⟩ := bd_e H
  refine z_callV (M := M_X2_tellTriangles) (M' := M_X6_clear) (as := []) (rest := []) rfl rfl dX2_tellTriangles_1 m_X6_clear t_2118 t_768 t_769 (c_X6_clear hl h_into hc_1) rfl rfl (ly_S h_into) rfl (Nat.le_of_ble_eq_true rfl) (Nat.le_of_ble_eq_true rfl) (Nat.le_of_ble_eq_true rfl) (Nat.le_of_ble_eq_true rfl) ?_
  refine z_st (st' := []) rfl ?_
  refine z_aload_n (M := M_X2_tellTriangles) dX2_tellTriangles_4 rfl ?_
  refine z_bipush (M := M_X2_tellTriangles) dX2_tellTriangles_5 (by decide +kernel) ?_
  refine z_aload_n (M := M_X2_tellTriangles) dX2_tellTriangles_7 rfl ?_
  refine z_getI (M := M_X2_tellTriangles) (ci := 5) (C := RX2) (T := TX2) (Nf := 17) (ty := tyX2) cl5 dX2_tellTriangles_8 ly_238 14 (by decide) t_499 rfl rfl ?_
  obtain ⟨⟨x_5, σ_4⟩, hc_3, H⟩ := bd_e H
  refine z_callV (M := M_X2_tellTriangles) (M' := M_X6_addShape) (as := [vi 6, vi (σ_2 kP_triangleCount 0)]) (rest := []) rfl rfl dX2_tellTriangles_11 m_X6_addShape t_2119 t_872 t_873 (c_X6_addShape hl h_into hc_3) rfl rfl (ly_S h_into) rfl (Nat.le_of_ble_eq_true rfl) (Nat.le_of_ble_eq_true rfl) (Nat.le_of_ble_eq_true rfl) (Nat.le_of_ble_eq_true rfl) ?_
  refine z_st (st' := [zv x_5]) rfl ?_
  refine z_pop (M := M_X2_tellTriangles) dX2_tellTriangles_14 rfl ?_
  refine z_iconst (M := M_X2_tellTriangles) dX2_tellTriangles_15 ?_
  refine z_istore_n (M := M_X2_tellTriangles) (lv' := [some (vr 238), some (vr into_0), some (vi 0), none, none, none]) dX2_tellTriangles_16 (Nat.le_of_ble_eq_true rfl) rfl rfl ?_
  obtain ⟨rl_11, hw_8, hk_9⟩ := bd_e H
  have J_54 : ∀ i_52 σ_53, rl_11 = (i_52, σ_53) → YY l E M_X2_tellTriangles 2 0 0 (pS (some (vi r)) σ') 111 [some (vr 238), some (vr into_0), some (vi i_52), none, none, none] [] σ_53 0 0 := by
    intro i_52 σ_53 e
    have H := hk_9
    rw [e] at H
    refine z_aload_n (M := M_X2_tellTriangles) dX2_tellTriangles_111 rfl ?_
    refine z_getI (M := M_X2_tellTriangles) (ci := 5) (C := RX2) (T := TX2) (Nf := 17) (ty := tyX2) cl5 dX2_tellTriangles_112 ly_238 14 (by decide) t_499 rfl rfl ?_
    cases H
    exact z_iret (M := M_X2_tellTriangles) dX2_tellTriangles_115 rfl (Nat.le_of_ble_eq_true rfl) (Nat.le_of_ble_eq_true rfl) ⟨rfl, rfl⟩
  refine whl_go hw_8 (fun (i_6, σ_7) => YY l E M_X2_tellTriangles 2 0 0 (pS (some (vi r)) σ') 17 [some (vr 238), some (vr into_0), some (vi i_6), none, none, none] [] σ_7 0 0) ?_
  rintro ⟨i_6, σ_7⟩ o_12 H K_13 K_14
  refine z_iload_n (M := M_X2_tellTriangles) dX2_tellTriangles_17 rfl ?_
  refine z_aload_n (M := M_X2_tellTriangles) dX2_tellTriangles_18 rfl ?_
  refine z_getI (M := M_X2_tellTriangles) (ci := 5) (C := RX2) (T := TX2) (Nf := 17) (ty := tyX2) cl5 dX2_tellTriangles_19 ly_238 14 (by decide) t_499 rfl rfl ?_
  rcases if_e H with ⟨h_15, H⟩ | ⟨h_15, H⟩
  · refine z_icmp_ge_f (M := M_X2_tellTriangles) (tgt := 111) dX2_tellTriangles_22 (by decide) rfl rfl h_15 ?_
    refine z_aload_n (M := M_X2_tellTriangles) dX2_tellTriangles_25 rfl ?_
    refine z_iconst (M := M_X2_tellTriangles) dX2_tellTriangles_26 ?_
    refine z_iconst (M := M_X2_tellTriangles) dX2_tellTriangles_27 ?_
    obtain ⟨⟨x_18, σ_17⟩, hc_16, H⟩ := bd_e H
    refine z_callV (M := M_X2_tellTriangles) (M' := M_X6_addShape) (as := [vi 3, vi 1]) (rest := []) rfl rfl dX2_tellTriangles_28 m_X6_addShape t_2119 t_872 t_873 (c_X6_addShape hl h_into hc_16) rfl rfl (ly_S h_into) rfl (Nat.le_of_ble_eq_true rfl) (Nat.le_of_ble_eq_true rfl) (Nat.le_of_ble_eq_true rfl) (Nat.le_of_ble_eq_true rfl) ?_
    refine z_st (st' := [zv x_18]) rfl ?_
    refine z_pop (M := M_X2_tellTriangles) dX2_tellTriangles_31 rfl ?_
    refine z_aload_n (M := M_X2_tellTriangles) dX2_tellTriangles_32 rfl ?_
    refine z_iconst (M := M_X2_tellTriangles) dX2_tellTriangles_33 ?_
    obtain ⟨⟨x_21, σ_20⟩, hc_19, H⟩ := bd_e H
    refine z_callV (M := M_X2_tellTriangles) (M' := M_X6_addRing) (as := [vi 4]) (rest := []) rfl rfl dX2_tellTriangles_34 m_X6_addRing t_2120 t_893 t_894 (c_X6_addRing hl h_into hc_19) rfl rfl (ly_S h_into) rfl (Nat.le_of_ble_eq_true rfl) (Nat.le_of_ble_eq_true rfl) (Nat.le_of_ble_eq_true rfl) (Nat.le_of_ble_eq_true rfl) ?_
    refine z_st (st' := [zv x_21]) rfl ?_
    refine z_pop (M := M_X2_tellTriangles) dX2_tellTriangles_37 rfl ?_
    refine z_iconst (M := M_X2_tellTriangles) dX2_tellTriangles_38 ?_
    refine z_istore_n (M := M_X2_tellTriangles) (lv' := [some (vr 238), some (vr into_0), some (vi i_6), some (vi 2), none, none]) dX2_tellTriangles_39 (Nat.le_of_ble_eq_true rfl) rfl rfl ?_
    obtain ⟨rl_27, hw_24, hk_25⟩ := bd_e H
    have J_50 : ∀ k_47 σ_48, rl_27 = (k_47, σ_48) → YY l E M_X2_tellTriangles 2 0 0 (pS (some (vi r)) σ') 105 [some (vr 238), some (vr into_0), some (vi i_6), some (vi k_47), none, none] [] σ_48 0 0 := by
      intro k_47 σ_48 e
      have H := hk_25
      rw [e] at H
      refine z_iinc (M := M_X2_tellTriangles) (lv' := [some (vr 238), some (vr into_0), some (vi (i_6 + 1)), some (vi k_47), none, none]) dX2_tellTriangles_105 rfl (Nat.le_of_ble_eq_true rfl) rfl rfl ?_
      refine z_goto (M := M_X2_tellTriangles) (tgt := 17) dX2_tellTriangles_108 (by decide) ?_
      refine z_le (lv' := [some (vr 238), some (vr into_0), some (vi (i_6 + 1)), none, none, none]) ⟨Or.inr rfl, Or.inr rfl, Or.inr rfl, Or.inl rfl, Or.inl rfl, Or.inl rfl, trivial⟩ ?_
      exact K_13 _ (Option.some.inj H).symm
    refine whl_go hw_24 (fun (k_22, σ_23) => YY l E M_X2_tellTriangles 2 0 0 (pS (some (vi r)) σ') 40 [some (vr 238), some (vr into_0), some (vi i_6), some (vi k_22), none, none] [] σ_23 0 0) ?_
    rintro ⟨k_22, σ_23⟩ o_28 H K_29 K_30
    refine z_iload_n (M := M_X2_tellTriangles) dX2_tellTriangles_40 rfl ?_
    refine z_iconst (M := M_X2_tellTriangles) dX2_tellTriangles_41 ?_
    rcases if_e H with ⟨h_31, H⟩ | ⟨h_31, H⟩
    · refine z_icmp_lt_f (M := M_X2_tellTriangles) (tgt := 105) dX2_tellTriangles_42 (by decide) rfl (by decide +kernel) h_31 ?_
      refine z_bipush (M := M_X2_tellTriangles) dX2_tellTriangles_45 (by decide +kernel) ?_
      have J_32 : YY l E M_X2_tellTriangles 2 0 0 (pS (some (vi r)) σ') 56 [some (vr 238), some (vr into_0), some (vi i_6), some (vi k_22), none, none] [vi (if (w32 k_22) < 0 then 2 else k_22), vi 10] σ_23 0 0 := by
        refine z_imul (M := M_X2_tellTriangles) dX2_tellTriangles_56 ?_
        refine z_istore (M := M_X2_tellTriangles) (lv' := [some (vr 238), some (vr into_0), some (vi i_6), some (vi k_22), some (vi (10 * (if (w32 k_22) < 0 then 2 else k_22))), none]) dX2_tellTriangles_57 (Nat.le_of_ble_eq_true rfl) rfl rfl ?_
        refine z_aload_n (M := M_X2_tellTriangles) dX2_tellTriangles_59 rfl ?_
        refine z_getR (M := M_X2_tellTriangles) (ci := 5) (C := RX2) (T := TX2) (Nf := 17) (ty := tyX2) cl5 dX2_tellTriangles_60 ly_238 5 (by decide) t_490 rfl ?_
        refine z_aload_n (M := M_X2_tellTriangles) dX2_tellTriangles_63 rfl ?_
        refine z_getR (M := M_X2_tellTriangles) (ci := 5) (C := RX2) (T := TX2) (Nf := 17) (ty := tyX2) cl5 dX2_tellTriangles_64 ly_238 13 (by decide) t_498 rfl ?_
        refine z_iload_n (M := M_X2_tellTriangles) dX2_tellTriangles_67 rfl ?_
        obtain ⟨x_33, x_33_e, hi_34, H⟩ := rd_e H
        refine z_lald (M := M_X2_tellTriangles) dX2_tellTriangles_68 ly_249 rfl rfl rfl hi_34 x_33_e ?_
        refine z_iload (M := M_X2_tellTriangles) dX2_tellTriangles_69 rfl ?_
        refine z_lshr (M := M_X2_tellTriangles) dX2_tellTriangles_71 ?_
        refine z_l2i (M := M_X2_tellTriangles) dX2_tellTriangles_72 ?_
        refine z_sipush (M := M_X2_tellTriangles) dX2_tellTriangles_73 (by decide +kernel) ?_
        refine z_iand (M := M_X2_tellTriangles) dX2_tellTriangles_76 ?_
        obtain ⟨x_35, x_35_e, hi_36, H⟩ := rd_e H
        refine z_iald (M := M_X2_tellTriangles) dX2_tellTriangles_77 ly_243 rfl rfl rfl hi_36 x_35_e ?_
        refine z_istore (M := M_X2_tellTriangles) (lv' := [some (vr 238), some (vr into_0), some (vi i_6), some (vi k_22), some (vi (10 * (if (w32 k_22) < 0 then 2 else k_22))), some (vi x_35)]) dX2_tellTriangles_78 (Nat.le_of_ble_eq_true rfl) rfl rfl ?_
        refine z_aload_n (M := M_X2_tellTriangles) dX2_tellTriangles_80 rfl ?_
        refine z_aload_n (M := M_X2_tellTriangles) dX2_tellTriangles_81 rfl ?_
        refine z_getR (M := M_X2_tellTriangles) (ci := 5) (C := RX2) (T := TX2) (Nf := 17) (ty := tyX2) cl5 dX2_tellTriangles_82 ly_238 1 (by decide) t_486 rfl ?_
        refine z_iload (M := M_X2_tellTriangles) dX2_tellTriangles_85 rfl ?_
        obtain ⟨x_37, x_37_e, hi_38, H⟩ := rd_e H
        refine z_iald (M := M_X2_tellTriangles) dX2_tellTriangles_87 ly_240 rfl rfl rfl hi_38 x_37_e ?_
        refine z_aload_n (M := M_X2_tellTriangles) dX2_tellTriangles_88 rfl ?_
        refine z_getR (M := M_X2_tellTriangles) (ci := 5) (C := RX2) (T := TX2) (Nf := 17) (ty := tyX2) cl5 dX2_tellTriangles_89 ly_238 2 (by decide) t_487 rfl ?_
        refine z_iload (M := M_X2_tellTriangles) dX2_tellTriangles_92 rfl ?_
        obtain ⟨x_39, x_39_e, hi_40, H⟩ := rd_e H
        refine z_iald (M := M_X2_tellTriangles) dX2_tellTriangles_94 ly_241 rfl rfl rfl hi_40 x_39_e ?_
        obtain ⟨⟨x_43, σ_42⟩, hc_41, H⟩ := bd_e H
        refine z_callV (M := M_X2_tellTriangles) (M' := M_X6_addPoint) (as := [vi x_37, vi x_39]) (rest := []) rfl rfl dX2_tellTriangles_95 m_X6_addPoint t_2121 t_938 t_939 (c_X6_addPoint hl h_into hc_41) rfl rfl (ly_S h_into) rfl (Nat.le_of_ble_eq_true rfl) (Nat.le_of_ble_eq_true rfl) (Nat.le_of_ble_eq_true rfl) (Nat.le_of_ble_eq_true rfl) ?_
        refine z_st (st' := [zv x_43]) rfl ?_
        refine z_pop (M := M_X2_tellTriangles) dX2_tellTriangles_98 rfl ?_
        refine z_iinc (M := M_X2_tellTriangles) (lv' := [some (vr 238), some (vr into_0), some (vi i_6), some (vi (k_22 + (-1))), some (vi (10 * (if (w32 k_22) < 0 then 2 else k_22))), some (vi x_35)]) dX2_tellTriangles_99 rfl (Nat.le_of_ble_eq_true rfl) rfl rfl ?_
        refine z_goto (M := M_X2_tellTriangles) (tgt := 40) dX2_tellTriangles_102 (by decide) ?_
        refine z_le (lv' := [some (vr 238), some (vr into_0), some (vi i_6), some (vi (k_22 + (-1))), none, none]) ⟨Or.inr rfl, Or.inr rfl, Or.inr rfl, Or.inr rfl, Or.inl rfl, Or.inl rfl, trivial⟩ ?_
        exact K_29 _ (Option.some.inj H).symm
      refine z_iload_n (M := M_X2_tellTriangles) dX2_tellTriangles_47 rfl ?_
      by_cases h_45 : (w32 k_22) < 0
      · refine z_if_ge_f (M := M_X2_tellTriangles) (tgt := 55) dX2_tellTriangles_48 (by decide) rfl h_45 ?_
        refine z_iconst (M := M_X2_tellTriangles) dX2_tellTriangles_51 ?_
        refine z_goto (M := M_X2_tellTriangles) (tgt := 56) dX2_tellTriangles_52 (by decide) ?_
        exact z_st (by rw [if_pos (c := (w32 k_22) < 0) h_45]) J_32
      · refine z_if_ge_t (M := M_X2_tellTriangles) (tgt := 55) dX2_tellTriangles_48 (by decide) rfl (Int.not_lt.mp h_45) ?_
        refine z_iload_n (M := M_X2_tellTriangles) dX2_tellTriangles_55 rfl ?_
        exact z_st (by rw [if_neg (c := (w32 k_22) < 0) h_45]) J_32
    · refine z_icmp_lt_t (M := M_X2_tellTriangles) (tgt := 105) dX2_tellTriangles_42 (by decide) rfl (by decide +kernel) (Int.not_le.mp h_31) ?_
      exact J_50 _ _ (K_30 _ (Option.some.inj H).symm).symm
  · refine z_icmp_ge_t (M := M_X2_tellTriangles) (tgt := 111) dX2_tellTriangles_22 (by decide) rfl rfl (Int.not_lt.mp h_15) ?_
    exact J_54 _ _ (K_14 _ (Option.some.inj H).symm).symm
theorem c_J7_fill_bad5a (hl : l.stackTraces = false) {σ : SG} {a_0 : Nat} {a_n : Nat} {fromIndex_0 : Int} {toIndex_0 : Int} {val_0 : Int} {σ' : SG} (h_a : lay a_0 = some (.inr (1, a_n, 0, 0))) (H : fU_fillJR σ a_0 a_n fromIndex_0 toIndex_0 val_0 = some σ') : en_S l E M_J7_fill_bad5a 2 0 0 [vr a_0, vi fromIndex_0, vi toIndex_0, vl val_0] σ (pS (none) σ') := by
  unfold fU_fillJR at H
  refine z_mk (lv := [some (vr a_0), some (vi fromIndex_0), some (vi toIndex_0), some (vl val_0), none, none]) m_J7_fill_bad5a rfl hl (Nat.le_of_ble_eq_true rfl) rfl ?_
  refine z_aload_n (M := M_J7_fill_bad5a) dJ7_fill_bad5a_0 rfl ?_
  refine z_alen (M := M_J7_fill_bad5a) (N := (a_n : Int)) dJ7_fill_bad5a_1 h_a (by decide) rfl ?_
  refine z_iload_n (M := M_J7_fill_bad5a) dJ7_fill_bad5a_2 rfl ?_
  refine z_iload_n (M := M_J7_fill_bad5a) dJ7_fill_bad5a_3 rfl ?_
  obtain ⟨_, hc_1, H⟩ := bd_e H
  refine z_callS (M := M_J7_fill_bad5a) (M' := M_J7_rangeCheck_23922) (as := [vi (a_n : Int), vi fromIndex_0, vi toIndex_0]) (rest := []) rfl rfl dJ7_fill_bad5a_4 m_J7_rangeCheck_23922 t_1524 t_1525 (c_J7_rangeCheck_23922 hl  hc_1) rfl rfl (Nat.le_of_ble_eq_true rfl) (Nat.le_of_ble_eq_true rfl) (Nat.le_of_ble_eq_true rfl) (Nat.le_of_ble_eq_true rfl) ?_
  refine z_st (st' := []) rfl ?_
  refine z_iload_n (M := M_J7_fill_bad5a) dJ7_fill_bad5a_7 rfl ?_
  refine z_istore (M := M_J7_fill_bad5a) (lv' := [some (vr a_0), some (vi fromIndex_0), some (vi toIndex_0), some (vl val_0), none, some (vi fromIndex_0)]) dJ7_fill_bad5a_8 (Nat.le_of_ble_eq_true rfl) rfl rfl ?_
  obtain ⟨rl_7, hw_4, hk_5⟩ := bd_e H
  have J_18 : ∀ i_16 σ_17, rl_7 = (i_16, σ_17) → YY l E M_J7_fill_bad5a 2 0 0 (pS (none) σ') 27 [some (vr a_0), some (vi fromIndex_0), some (vi toIndex_0), some (vl val_0), none, some (vi i_16)] [] σ_17 0 0 := by
    intro i_16 σ_17 e
    have H := hk_5
    rw [e] at H
    cases H
    exact z_vret (M := M_J7_fill_bad5a) dJ7_fill_bad5a_27 rfl (Nat.le_of_ble_eq_true rfl) (Nat.le_of_ble_eq_true rfl) ⟨rfl, rfl⟩
  refine whl_go hw_4 (fun (i_2, σ_3) => YY l E M_J7_fill_bad5a 2 0 0 (pS (none) σ') 10 [some (vr a_0), some (vi fromIndex_0), some (vi toIndex_0), some (vl val_0), none, some (vi i_2)] [] σ_3 0 0) ?_
  rintro ⟨i_2, σ_3⟩ o_8 H K_9 K_10
  refine z_iload (M := M_J7_fill_bad5a) dJ7_fill_bad5a_10 rfl ?_
  refine z_iload_n (M := M_J7_fill_bad5a) dJ7_fill_bad5a_12 rfl ?_
  rcases if_e H with ⟨h_11, H⟩ | ⟨h_11, H⟩
  · refine z_icmp_ge_f (M := M_J7_fill_bad5a) (tgt := 27) dJ7_fill_bad5a_13 (by decide) rfl rfl h_11 ?_
    refine z_aload_n (M := M_J7_fill_bad5a) dJ7_fill_bad5a_16 rfl ?_
    refine z_iload (M := M_J7_fill_bad5a) dJ7_fill_bad5a_17 rfl ?_
    refine z_lload_n (M := M_J7_fill_bad5a) dJ7_fill_bad5a_19 rfl ?_
    obtain ⟨σ_12, σ_12_e, hi_13, H⟩ := wa_e H
    refine z_last (M := M_J7_fill_bad5a) dJ7_fill_bad5a_20 h_a rfl rfl rfl hi_13 σ_12_e ?_
    refine z_iinc (M := M_J7_fill_bad5a) (lv' := [some (vr a_0), some (vi fromIndex_0), some (vi toIndex_0), some (vl val_0), none, some (vi (i_2 + 1))]) dJ7_fill_bad5a_21 rfl (Nat.le_of_ble_eq_true rfl) rfl rfl ?_
    refine z_goto (M := M_J7_fill_bad5a) (tgt := 10) dJ7_fill_bad5a_24 (by decide) ?_
    exact K_9 _ (Option.some.inj H).symm
  · refine z_icmp_ge_t (M := M_J7_fill_bad5a) (tgt := 27) dJ7_fill_bad5a_13 (by decide) rfl rfl (Int.not_lt.mp h_11) ?_
    exact J_18 _ _ (K_10 _ (Option.some.inj H).symm).symm
theorem c_X2_areOnOneLine (hl : l.stackTraces = false) {σ : SG} {r : Bool}  (H : fP_areOnOneLine σ = some r) : en_S l E M_X2_areOnOneLine 4 0 0 [vr 238] σ (pS (some (zv r)) σ) := by
  unfold fP_areOnOneLine at H
  refine z_mk (lv := [some (vr 238), none]) m_X2_areOnOneLine rfl hl (Nat.le_of_ble_eq_true rfl) rfl ?_
  refine z_iconst (M := M_X2_areOnOneLine) dX2_areOnOneLine_0 ?_
  refine z_istore_n (M := M_X2_areOnOneLine) (lv' := [some (vr 238), some (vi 2)]) dX2_areOnOneLine_1 (Nat.le_of_ble_eq_true rfl) rfl rfl ?_
  obtain ⟨rl_5, hw_2, hk_3, hk_4⟩ := bx_e H
  have J_16 : ∀ i_15, rl_5 = (.inl i_15) → YY l E M_X2_areOnOneLine 4 0 0 (pS (some (zv r)) σ) 28 [some (vr 238), some (vi i_15)] [] σ 0 0 := by
    intro i_15 e
    have H := hk_3 _ e
    refine z_zconst (M := M_X2_areOnOneLine) (b := true) dX2_areOnOneLine_28 rfl ?_
    cases H
    exact z_zret (M := M_X2_areOnOneLine) dX2_areOnOneLine_29 rfl (Nat.le_of_ble_eq_true rfl) (Nat.le_of_ble_eq_true rfl) ⟨rfl, rfl⟩
  refine whl_go hw_2 (fun i_1 => YY l E M_X2_areOnOneLine 4 0 0 (pS (some (zv r)) σ) 2 [some (vr 238), some (vi i_1)] [] σ 0 0) ?_
  rintro i_1 o_6 H K_7 K_8
  refine z_iload_n (M := M_X2_areOnOneLine) dX2_areOnOneLine_2 rfl ?_
  refine z_aload_n (M := M_X2_areOnOneLine) dX2_areOnOneLine_3 rfl ?_
  refine z_getI (M := M_X2_areOnOneLine) (ci := 5) (C := RX2) (T := TX2) (Nf := 17) (ty := tyX2) cl5 dX2_areOnOneLine_4 ly_238 3 (by decide) t_488 rfl rfl ?_
  rcases if_e H with ⟨h_9, H⟩ | ⟨h_9, H⟩
  · refine z_icmp_ge_f (M := M_X2_areOnOneLine) (tgt := 28) dX2_areOnOneLine_7 (by decide) rfl rfl h_9 ?_
    refine z_aload_n (M := M_X2_areOnOneLine) dX2_areOnOneLine_10 rfl ?_
    refine z_iconst (M := M_X2_areOnOneLine) dX2_areOnOneLine_11 ?_
    refine z_iconst (M := M_X2_areOnOneLine) dX2_areOnOneLine_12 ?_
    refine z_iload_n (M := M_X2_areOnOneLine) dX2_areOnOneLine_13 rfl ?_
    obtain ⟨x_11, hc_10, H⟩ := bd_e H
    refine z_callV (M := M_X2_areOnOneLine) (M' := M_X2_turnAt) (as := [vi 0, vi 1, vi i_1]) (rest := []) rfl rfl dX2_areOnOneLine_14 m_X2_turnAt t_2113 t_2115 s_132 (c_X2_turnAt hl  hc_10) rfl rfl ly_238 rfl (Nat.le_of_ble_eq_true rfl) (Nat.le_of_ble_eq_true rfl) (Nat.le_of_ble_eq_true rfl) (Nat.le_of_ble_eq_true rfl) ?_
    refine z_st (st' := [vi x_11]) rfl ?_
    rcases if_e H with ⟨h_12, H⟩ | ⟨h_12, H⟩
    · refine z_if_eq_f (M := M_X2_areOnOneLine) (tgt := 22) dX2_areOnOneLine_17 (by decide) rfl h_12 ?_
      refine z_zconst (M := M_X2_areOnOneLine) (b := false) dX2_areOnOneLine_20 rfl ?_
      have H := congrArg some (hk_4 _ ((K_8 _ (Option.some.inj H).symm).symm))
      cases H
      exact z_zret (M := M_X2_areOnOneLine) dX2_areOnOneLine_21 rfl (Nat.le_of_ble_eq_true rfl) (Nat.le_of_ble_eq_true rfl) ⟨rfl, rfl⟩
    · refine z_if_eq_t (M := M_X2_areOnOneLine) (tgt := 22) dX2_areOnOneLine_17 (by decide) rfl (Decidable.not_not.mp h_12) ?_
      refine z_iinc (M := M_X2_areOnOneLine) (lv' := [some (vr 238), some (vi (i_1 + 1))]) dX2_areOnOneLine_22 rfl (Nat.le_of_ble_eq_true rfl) rfl rfl ?_
      refine z_goto (M := M_X2_areOnOneLine) (tgt := 2) dX2_areOnOneLine_25 (by decide) ?_
      exact K_7 _ (Option.some.inj H).symm
  · refine z_icmp_ge_t (M := M_X2_areOnOneLine) (tgt := 28) dX2_areOnOneLine_7 (by decide) rfl rfl (Int.not_lt.mp h_9) ?_
    exact J_16 _ (K_8 _ (Option.some.inj H).symm).symm
theorem c_X11_carryOf (hl : l.stackTraces = false) {σ : SG} {sum_0 : Int} {added_0 : Int} {r : Int}  (H : fQ_carryOf sum_0 added_0 = r) : en_S l E M_X11_carryOf 1 0 0 [vl sum_0, vl added_0] σ (pS (some (vi r)) σ) := by
  unfold fQ_carryOf at H
  refine z_mk (lv := [some (vl sum_0), none, some (vl added_0), none]) m_X11_carryOf rfl hl (Nat.le_of_ble_eq_true rfl) rfl ?_
  have J_1 : YY l E M_X11_carryOf 1 0 0 (pS (some (vi r)) σ) 19 [some (vl sum_0), none, some (vl added_0), none] [vi (if (w64 (sum_0 + (-9223372036854775808))) < (w64 (added_0 + (-9223372036854775808))) then 1 else 0)] σ 0 0 := by
    cases H
    exact z_iret (M := M_X11_carryOf) dX11_carryOf_19 rfl (Nat.le_of_ble_eq_true rfl) (Nat.le_of_ble_eq_true rfl) ⟨rfl, rfl⟩
  refine z_lload_n (M := M_X11_carryOf) dX11_carryOf_0 rfl ?_
  refine z_ldc2 (M := M_X11_carryOf) (n := (-9223372036854775808)) dX11_carryOf_1 t_1946 (by decide +kernel) ?_
  refine z_ladd (M := M_X11_carryOf) dX11_carryOf_4 ?_
  refine z_lload_n (M := M_X11_carryOf) dX11_carryOf_5 rfl ?_
  refine z_ldc2 (M := M_X11_carryOf) (n := (-9223372036854775808)) dX11_carryOf_6 t_1946 (by decide +kernel) ?_
  refine z_ladd (M := M_X11_carryOf) dX11_carryOf_9 ?_
  refine z_lcmp (M := M_X11_carryOf) dX11_carryOf_10 ?_
  by_cases h_2 : (w64 (sum_0 + (-9223372036854775808))) < (w64 (added_0 + (-9223372036854775808)))
  · refine z_lif_ge_f (M := M_X11_carryOf) (tgt := 18) dX11_carryOf_11 (by decide) rfl rfl h_2 ?_
    refine z_iconst (M := M_X11_carryOf) dX11_carryOf_14 ?_
    refine z_goto (M := M_X11_carryOf) (tgt := 19) dX11_carryOf_15 (by decide) ?_
    exact z_st (by rw [if_pos (c := (w64 (sum_0 + (-9223372036854775808))) < (w64 (added_0 + (-9223372036854775808)))) h_2]) J_1
  · refine z_lif_ge_t (M := M_X11_carryOf) (tgt := 18) dX11_carryOf_11 (by decide) rfl rfl (Int.not_lt.mp h_2) ?_
    refine z_iconst (M := M_X11_carryOf) dX11_carryOf_18 ?_
    exact z_st (by rw [if_neg (c := (w64 (sum_0 + (-9223372036854775808))) < (w64 (added_0 + (-9223372036854775808)))) h_2]) J_1
theorem c_X11_highOf (hl : l.stackTraces = false) {σ : SG} {a_0 : Int} {b_0 : Int} {r : Int}  (H : fQ_highOf a_0 b_0 = r) : en_S l E M_X11_highOf 1 0 0 [vl a_0, vl b_0] σ (pS (some (vl r)) σ) := by
  unfold fQ_highOf at H
  refine z_mk (lv := [some (vl a_0), none, some (vl b_0), none, none, none, none, none, none, none, none, none, none, none, none, none, none, none]) m_X11_highOf rfl hl (Nat.le_of_ble_eq_true rfl) rfl ?_
  refine z_ldc2 (M := M_X11_highOf) (n := 4294967295) dX11_highOf_0 t_1429 (by decide +kernel) ?_
  refine z_lstore (M := M_X11_highOf) (lv' := [some (vl a_0), none, some (vl b_0), none, some (vl 4294967295), none, none, none, none, none, none, none, none, none, none, none, none, none]) dX11_highOf_3 (Nat.le_of_ble_eq_true rfl) rfl rfl ?_
  refine z_lload_n (M := M_X11_highOf) dX11_highOf_5 rfl ?_
  refine z_lload (M := M_X11_highOf) dX11_highOf_6 rfl ?_
  refine z_land (M := M_X11_highOf) dX11_highOf_8 ?_
  refine z_lstore (M := M_X11_highOf) (lv' := [some (vl a_0), none, some (vl b_0), none, some (vl 4294967295), none, some (vl (q_lan a_0 4294967295)), none, none, none, none, none, none, none, none, none, none, none]) dX11_highOf_9 (Nat.le_of_ble_eq_true rfl) rfl rfl ?_
  refine z_lload_n (M := M_X11_highOf) dX11_highOf_11 rfl ?_
  refine z_bipush (M := M_X11_highOf) dX11_highOf_12 (by decide +kernel) ?_
  refine z_lshr (M := M_X11_highOf) dX11_highOf_14 ?_
  refine z_lstore (M := M_X11_highOf) (lv' := [some (vl a_0), none, some (vl b_0), none, some (vl 4294967295), none, some (vl (q_lan a_0 4294967295)), none, some (vl (q_lsr a_0 32)), none, none, none, none, none, none, none, none, none]) dX11_highOf_15 (Nat.le_of_ble_eq_true rfl) rfl rfl ?_
  refine z_lload_n (M := M_X11_highOf) dX11_highOf_17 rfl ?_
  refine z_lload (M := M_X11_highOf) dX11_highOf_18 rfl ?_
  refine z_land (M := M_X11_highOf) dX11_highOf_20 ?_
  refine z_lstore (M := M_X11_highOf) (lv' := [some (vl a_0), none, some (vl b_0), none, some (vl 4294967295), none, some (vl (q_lan a_0 4294967295)), none, some (vl (q_lsr a_0 32)), none, some (vl (q_lan b_0 4294967295)), none, none, none, none, none, none, none]) dX11_highOf_21 (Nat.le_of_ble_eq_true rfl) rfl rfl ?_
  refine z_lload_n (M := M_X11_highOf) dX11_highOf_23 rfl ?_
  refine z_bipush (M := M_X11_highOf) dX11_highOf_24 (by decide +kernel) ?_
  refine z_lshr (M := M_X11_highOf) dX11_highOf_26 ?_
  refine z_lstore (M := M_X11_highOf) (lv' := [some (vl a_0), none, some (vl b_0), none, some (vl 4294967295), none, some (vl (q_lan a_0 4294967295)), none, some (vl (q_lsr a_0 32)), none, some (vl (q_lan b_0 4294967295)), none, some (vl (q_lsr b_0 32)), none, none, none, none, none]) dX11_highOf_27 (Nat.le_of_ble_eq_true rfl) rfl rfl ?_
  refine z_lload (M := M_X11_highOf) dX11_highOf_29 rfl ?_
  refine z_lload (M := M_X11_highOf) dX11_highOf_31 rfl ?_
  refine z_lmul (M := M_X11_highOf) dX11_highOf_33 ?_
  refine z_lload (M := M_X11_highOf) dX11_highOf_34 rfl ?_
  refine z_lload (M := M_X11_highOf) dX11_highOf_36 rfl ?_
  refine z_lmul (M := M_X11_highOf) dX11_highOf_38 ?_
  refine z_bipush (M := M_X11_highOf) dX11_highOf_39 (by decide +kernel) ?_
  refine z_lushr (M := M_X11_highOf) dX11_highOf_41 ?_
  refine z_ladd (M := M_X11_highOf) dX11_highOf_42 ?_
  refine z_lstore (M := M_X11_highOf) (lv' := [some (vl a_0), none, some (vl b_0), none, some (vl 4294967295), none, some (vl (q_lan a_0 4294967295)), none, some (vl (q_lsr a_0 32)), none, some (vl (q_lan b_0 4294967295)), none, some (vl (q_lsr b_0 32)), none, some (vl (((q_lsr a_0 32) * (q_lan b_0 4294967295)) + (q_lus ((q_lan a_0 4294967295) * (q_lan b_0 4294967295)) 32))), none, none, none]) dX11_highOf_43 (Nat.le_of_ble_eq_true rfl) rfl rfl ?_
  refine z_lload (M := M_X11_highOf) dX11_highOf_45 rfl ?_
  refine z_lload (M := M_X11_highOf) dX11_highOf_47 rfl ?_
  refine z_lmul (M := M_X11_highOf) dX11_highOf_49 ?_
  refine z_lload (M := M_X11_highOf) dX11_highOf_50 rfl ?_
  refine z_lload (M := M_X11_highOf) dX11_highOf_52 rfl ?_
  refine z_land (M := M_X11_highOf) dX11_highOf_54 ?_
  refine z_ladd (M := M_X11_highOf) dX11_highOf_55 ?_
  refine z_lstore (M := M_X11_highOf) (lv' := [some (vl a_0), none, some (vl b_0), none, some (vl 4294967295), none, some (vl (q_lan a_0 4294967295)), none, some (vl (q_lsr a_0 32)), none, some (vl (q_lan b_0 4294967295)), none, some (vl (q_lsr b_0 32)), none, some (vl (((q_lsr a_0 32) * (q_lan b_0 4294967295)) + (q_lus ((q_lan a_0 4294967295) * (q_lan b_0 4294967295)) 32))), none, some (vl (((q_lan a_0 4294967295) * (q_lsr b_0 32)) + (q_lan (((q_lsr a_0 32) * (q_lan b_0 4294967295)) + (q_lus ((q_lan a_0 4294967295) * (q_lan b_0 4294967295)) 32)) 4294967295))), none]) dX11_highOf_56 (Nat.le_of_ble_eq_true rfl) rfl rfl ?_
  refine z_lload (M := M_X11_highOf) dX11_highOf_58 rfl ?_
  refine z_lload (M := M_X11_highOf) dX11_highOf_60 rfl ?_
  refine z_lmul (M := M_X11_highOf) dX11_highOf_62 ?_
  refine z_lload (M := M_X11_highOf) dX11_highOf_63 rfl ?_
  refine z_bipush (M := M_X11_highOf) dX11_highOf_65 (by decide +kernel) ?_
  refine z_lshr (M := M_X11_highOf) dX11_highOf_67 ?_
  refine z_ladd (M := M_X11_highOf) dX11_highOf_68 ?_
  refine z_lload (M := M_X11_highOf) dX11_highOf_69 rfl ?_
  refine z_bipush (M := M_X11_highOf) dX11_highOf_71 (by decide +kernel) ?_
  refine z_lshr (M := M_X11_highOf) dX11_highOf_73 ?_
  refine z_ladd (M := M_X11_highOf) dX11_highOf_74 ?_
  cases H
  exact z_lret (M := M_X11_highOf) dX11_highOf_75 rfl (Nat.le_of_ble_eq_true rfl) (Nat.le_of_ble_eq_true rfl) ⟨rfl, rfl⟩
theorem c_X11_signOfSum (hl : l.stackTraces = false) {σ : SG} {a_0 : Int} {b_0 : Int} {c_0 : Int} {d_0 : Int} {e_0 : Int} {f_0 : Int} {r : Int}  (H : fQ_signOfSum a_0 b_0 c_0 d_0 e_0 f_0 = r) : en_S l E M_X11_signOfSum 2 0 0 [vl a_0, vl b_0, vl c_0, vl d_0, vl e_0, vl f_0] σ (pS (some (vi r)) σ) := by
  unfold fQ_signOfSum at H
  refine z_mk (lv := [some (vl a_0), none, some (vl b_0), none, some (vl c_0), none, some (vl d_0), none, some (vl e_0), none, some (vl f_0), none, none, none, none, none, none, none]) m_X11_signOfSum rfl hl (Nat.le_of_ble_eq_true rfl) rfl ?_
  refine z_lload_n (M := M_X11_signOfSum) dX11_signOfSum_0 rfl ?_
  refine z_lload_n (M := M_X11_signOfSum) dX11_signOfSum_1 rfl ?_
  refine z_lmul (M := M_X11_signOfSum) dX11_signOfSum_2 ?_
  refine z_lstore (M := M_X11_signOfSum) (lv' := [some (vl a_0), none, some (vl b_0), none, some (vl c_0), none, some (vl d_0), none, some (vl e_0), none, some (vl f_0), none, some (vl (a_0 * b_0)), none, none, none, none, none]) dX11_signOfSum_3 (Nat.le_of_ble_eq_true rfl) rfl rfl ?_
  refine z_lload_n (M := M_X11_signOfSum) dX11_signOfSum_5 rfl ?_
  refine z_lload_n (M := M_X11_signOfSum) dX11_signOfSum_6 rfl ?_
  refine z_callS (M := M_X11_signOfSum) (M' := M_X11_highOf) (as := [vl a_0, vl b_0]) (rest := []) rfl rfl dX11_signOfSum_7 m_X11_highOf t_1940 t_1941 (c_X11_highOf hl  rfl) rfl rfl (Nat.le_of_ble_eq_true rfl) (Nat.le_of_ble_eq_true rfl) (Nat.le_of_ble_eq_true rfl) (Nat.le_of_ble_eq_true rfl) ?_
  refine z_st (st' := [vl (fQ_highOf a_0 b_0)]) rfl ?_
  refine z_lstore (M := M_X11_signOfSum) (lv' := [some (vl a_0), none, some (vl b_0), none, some (vl c_0), none, some (vl d_0), none, some (vl e_0), none, some (vl f_0), none, some (vl (a_0 * b_0)), none, some (vl (fQ_highOf a_0 b_0)), none, none, none]) dX11_signOfSum_10 (Nat.le_of_ble_eq_true rfl) rfl rfl ?_
  refine z_lload (M := M_X11_signOfSum) dX11_signOfSum_12 rfl ?_
  refine z_lload (M := M_X11_signOfSum) dX11_signOfSum_14 rfl ?_
  refine z_lmul (M := M_X11_signOfSum) dX11_signOfSum_16 ?_
  refine z_lstore (M := M_X11_signOfSum) (lv' := [some (vl a_0), none, some (vl b_0), none, some (vl c_0), none, some (vl d_0), none, some (vl e_0), none, some (vl f_0), none, some (vl (a_0 * b_0)), none, some (vl (fQ_highOf a_0 b_0)), none, some (vl (c_0 * d_0)), none]) dX11_signOfSum_17 (Nat.le_of_ble_eq_true rfl) rfl rfl ?_
  refine z_lload (M := M_X11_signOfSum) dX11_signOfSum_19 rfl ?_
  refine z_lload (M := M_X11_signOfSum) dX11_signOfSum_21 rfl ?_
  refine z_ladd (M := M_X11_signOfSum) dX11_signOfSum_23 ?_
  refine z_lstore (M := M_X11_signOfSum) (lv' := [some (vl a_0), none, some (vl b_0), none, some (vl c_0), none, some (vl d_0), none, some (vl e_0), none, some (vl f_0), none, some (vl ((a_0 * b_0) + (c_0 * d_0))), none, some (vl (fQ_highOf a_0 b_0)), none, some (vl (c_0 * d_0)), none]) dX11_signOfSum_24 (Nat.le_of_ble_eq_true rfl) rfl rfl ?_
  refine z_lload (M := M_X11_signOfSum) dX11_signOfSum_26 rfl ?_
  refine z_lload (M := M_X11_signOfSum) dX11_signOfSum_28 rfl ?_
  refine z_lload (M := M_X11_signOfSum) dX11_signOfSum_30 rfl ?_
  refine z_callS (M := M_X11_signOfSum) (M' := M_X11_highOf) (as := [vl c_0, vl d_0]) (rest := [vl (fQ_highOf a_0 b_0)]) rfl rfl dX11_signOfSum_32 m_X11_highOf t_1940 t_1941 (c_X11_highOf hl  rfl) rfl rfl (Nat.le_of_ble_eq_true rfl) (Nat.le_of_ble_eq_true rfl) (Nat.le_of_ble_eq_true rfl) (Nat.le_of_ble_eq_true rfl) ?_
  refine z_st (st' := [vl (fQ_highOf c_0 d_0), vl (fQ_highOf a_0 b_0)]) rfl ?_
  refine z_lload (M := M_X11_signOfSum) dX11_signOfSum_35 rfl ?_
  refine z_lload (M := M_X11_signOfSum) dX11_signOfSum_37 rfl ?_
  refine z_callS (M := M_X11_signOfSum) (M' := M_X11_carryOf) (as := [vl ((a_0 * b_0) + (c_0 * d_0)), vl (c_0 * d_0)]) (rest := [vl (fQ_highOf c_0 d_0), vl (fQ_highOf a_0 b_0)]) rfl rfl dX11_signOfSum_39 m_X11_carryOf t_1943 t_1944 (c_X11_carryOf hl  rfl) rfl rfl (Nat.le_of_ble_eq_true rfl) (Nat.le_of_ble_eq_true rfl) (Nat.le_of_ble_eq_true rfl) (Nat.le_of_ble_eq_true rfl) ?_
  refine z_st (st' := [vi (fQ_carryOf ((a_0 * b_0) + (c_0 * d_0)) (c_0 * d_0)), vl (fQ_highOf c_0 d_0), vl (fQ_highOf a_0 b_0)]) rfl ?_
  refine z_i2l (M := M_X11_signOfSum) dX11_signOfSum_42 ?_
  refine z_ladd (M := M_X11_signOfSum) dX11_signOfSum_43 ?_
  refine z_ladd (M := M_X11_signOfSum) dX11_signOfSum_44 ?_
  refine z_lstore (M := M_X11_signOfSum) (lv' := [some (vl a_0), none, some (vl b_0), none, some (vl c_0), none, some (vl d_0), none, some (vl e_0), none, some (vl f_0), none, some (vl ((a_0 * b_0) + (c_0 * d_0))), none, some (vl ((fQ_highOf a_0 b_0) + ((fQ_highOf c_0 d_0) + (w32 (fQ_carryOf ((a_0 * b_0) + (c_0 * d_0)) (c_0 * d_0)))))), none, some (vl (c_0 * d_0)), none]) dX11_signOfSum_45 (Nat.le_of_ble_eq_true rfl) rfl rfl ?_
  refine z_lload (M := M_X11_signOfSum) dX11_signOfSum_47 rfl ?_
  refine z_lload (M := M_X11_signOfSum) dX11_signOfSum_49 rfl ?_
  refine z_lmul (M := M_X11_signOfSum) dX11_signOfSum_51 ?_
  refine z_lstore (M := M_X11_signOfSum) (lv' := [some (vl a_0), none, some (vl b_0), none, some (vl c_0), none, some (vl d_0), none, some (vl e_0), none, some (vl f_0), none, some (vl ((a_0 * b_0) + (c_0 * d_0))), none, some (vl ((fQ_highOf a_0 b_0) + ((fQ_highOf c_0 d_0) + (w32 (fQ_carryOf ((a_0 * b_0) + (c_0 * d_0)) (c_0 * d_0)))))), none, some (vl (e_0 * f_0)), none]) dX11_signOfSum_52 (Nat.le_of_ble_eq_true rfl) rfl rfl ?_
  refine z_lload (M := M_X11_signOfSum) dX11_signOfSum_54 rfl ?_
  refine z_lload (M := M_X11_signOfSum) dX11_signOfSum_56 rfl ?_
  refine z_ladd (M := M_X11_signOfSum) dX11_signOfSum_58 ?_
  refine z_lstore (M := M_X11_signOfSum) (lv' := [some (vl a_0), none, some (vl b_0), none, some (vl c_0), none, some (vl d_0), none, some (vl e_0), none, some (vl f_0), none, some (vl (((a_0 * b_0) + (c_0 * d_0)) + (e_0 * f_0))), none, some (vl ((fQ_highOf a_0 b_0) + ((fQ_highOf c_0 d_0) + (w32 (fQ_carryOf ((a_0 * b_0) + (c_0 * d_0)) (c_0 * d_0)))))), none, some (vl (e_0 * f_0)), none]) dX11_signOfSum_59 (Nat.le_of_ble_eq_true rfl) rfl rfl ?_
  refine z_lload (M := M_X11_signOfSum) dX11_signOfSum_61 rfl ?_
  refine z_lload (M := M_X11_signOfSum) dX11_signOfSum_63 rfl ?_
  refine z_lload (M := M_X11_signOfSum) dX11_signOfSum_65 rfl ?_
  refine z_callS (M := M_X11_signOfSum) (M' := M_X11_highOf) (as := [vl e_0, vl f_0]) (rest := [vl ((fQ_highOf a_0 b_0) + ((fQ_highOf c_0 d_0) + (w32 (fQ_carryOf ((a_0 * b_0) + (c_0 * d_0)) (c_0 * d_0)))))]) rfl rfl dX11_signOfSum_67 m_X11_highOf t_1940 t_1941 (c_X11_highOf hl  rfl) rfl rfl (Nat.le_of_ble_eq_true rfl) (Nat.le_of_ble_eq_true rfl) (Nat.le_of_ble_eq_true rfl) (Nat.le_of_ble_eq_true rfl) ?_
  refine z_st (st' := [vl (fQ_highOf e_0 f_0), vl ((fQ_highOf a_0 b_0) + ((fQ_highOf c_0 d_0) + (w32 (fQ_carryOf ((a_0 * b_0) + (c_0 * d_0)) (c_0 * d_0)))))]) rfl ?_
  refine z_lload (M := M_X11_signOfSum) dX11_signOfSum_70 rfl ?_
  refine z_lload (M := M_X11_signOfSum) dX11_signOfSum_72 rfl ?_
  refine z_callS (M := M_X11_signOfSum) (M' := M_X11_carryOf) (as := [vl (((a_0 * b_0) + (c_0 * d_0)) + (e_0 * f_0)), vl (e_0 * f_0)]) (rest := [vl (fQ_highOf e_0 f_0), vl ((fQ_highOf a_0 b_0) + ((fQ_highOf c_0 d_0) + (w32 (fQ_carryOf ((a_0 * b_0) + (c_0 * d_0)) (c_0 * d_0)))))]) rfl rfl dX11_signOfSum_74 m_X11_carryOf t_1943 t_1944 (c_X11_carryOf hl  rfl) rfl rfl (Nat.le_of_ble_eq_true rfl) (Nat.le_of_ble_eq_true rfl) (Nat.le_of_ble_eq_true rfl) (Nat.le_of_ble_eq_true rfl) ?_
  refine z_st (st' := [vi (fQ_carryOf (((a_0 * b_0) + (c_0 * d_0)) + (e_0 * f_0)) (e_0 * f_0)), vl (fQ_highOf e_0 f_0), vl ((fQ_highOf a_0 b_0) + ((fQ_highOf c_0 d_0) + (w32 (fQ_carryOf ((a_0 * b_0) + (c_0 * d_0)) (c_0 * d_0)))))]) rfl ?_
  refine z_i2l (M := M_X11_signOfSum) dX11_signOfSum_77 ?_
  refine z_ladd (M := M_X11_signOfSum) dX11_signOfSum_78 ?_
  refine z_ladd (M := M_X11_signOfSum) dX11_signOfSum_79 ?_
  refine z_lstore (M := M_X11_signOfSum) (lv' := [some (vl a_0), none, some (vl b_0), none, some (vl c_0), none, some (vl d_0), none, some (vl e_0), none, some (vl f_0), none, some (vl (((a_0 * b_0) + (c_0 * d_0)) + (e_0 * f_0))), none, some (vl (((fQ_highOf a_0 b_0) + ((fQ_highOf c_0 d_0) + (w32 (fQ_carryOf ((a_0 * b_0) + (c_0 * d_0)) (c_0 * d_0))))) + ((fQ_highOf e_0 f_0) + (w32 (fQ_carryOf (((a_0 * b_0) + (c_0 * d_0)) + (e_0 * f_0)) (e_0 * f_0)))))), none, some (vl (e_0 * f_0)), none]) dX11_signOfSum_80 (Nat.le_of_ble_eq_true rfl) rfl rfl ?_
  have J_3 : YY l E M_X11_signOfSum 2 0 0 (pS (some (vi r)) σ) 110 [some (vl a_0), none, some (vl b_0), none, some (vl c_0), none, some (vl d_0), none, some (vl e_0), none, some (vl f_0), none, some (vl (((a_0 * b_0) + (c_0 * d_0)) + (e_0 * f_0))), none, some (vl (((fQ_highOf a_0 b_0) + ((fQ_highOf c_0 d_0) + (w32 (fQ_carryOf ((a_0 * b_0) + (c_0 * d_0)) (c_0 * d_0))))) + ((fQ_highOf e_0 f_0) + (w32 (fQ_carryOf (((a_0 * b_0) + (c_0 * d_0)) + (e_0 * f_0)) (e_0 * f_0)))))), none, some (vl (e_0 * f_0)), none] [vi (if ¬ (w64 (((fQ_highOf a_0 b_0) + ((fQ_highOf c_0 d_0) + (w32 (fQ_carryOf ((a_0 * b_0) + (c_0 * d_0)) (c_0 * d_0))))) + ((fQ_highOf e_0 f_0) + (w32 (fQ_carryOf (((a_0 * b_0) + (c_0 * d_0)) + (e_0 * f_0)) (e_0 * f_0)))))) = 0 then (fL_compare (((fQ_highOf a_0 b_0) + ((fQ_highOf c_0 d_0) + (w32 (fQ_carryOf ((a_0 * b_0) + (c_0 * d_0)) (c_0 * d_0))))) + ((fQ_highOf e_0 f_0) + (w32 (fQ_carryOf (((a_0 * b_0) + (c_0 * d_0)) + (e_0 * f_0)) (e_0 * f_0))))) 0) else (if ¬ (w64 (((a_0 * b_0) + (c_0 * d_0)) + (e_0 * f_0))) = 0 then 1 else 0))] σ 0 0 := by
    cases H
    exact z_iret (M := M_X11_signOfSum) dX11_signOfSum_110 rfl (Nat.le_of_ble_eq_true rfl) (Nat.le_of_ble_eq_true rfl) ⟨rfl, rfl⟩
  refine z_lload (M := M_X11_signOfSum) dX11_signOfSum_82 rfl ?_
  refine z_lconst (M := M_X11_signOfSum) (m := 0) dX11_signOfSum_84 (by decide +kernel) ?_
  refine z_lcmp (M := M_X11_signOfSum) dX11_signOfSum_85 ?_
  by_cases h_4 : ¬ (w64 (((fQ_highOf a_0 b_0) + ((fQ_highOf c_0 d_0) + (w32 (fQ_carryOf ((a_0 * b_0) + (c_0 * d_0)) (c_0 * d_0))))) + ((fQ_highOf e_0 f_0) + (w32 (fQ_carryOf (((a_0 * b_0) + (c_0 * d_0)) + (e_0 * f_0)) (e_0 * f_0)))))) = 0
  · refine z_lif_eq_f (M := M_X11_signOfSum) (tgt := 98) dX11_signOfSum_86 (by decide) rfl (by decide +kernel) h_4 ?_
    refine z_lload (M := M_X11_signOfSum) dX11_signOfSum_89 rfl ?_
    refine z_lconst (M := M_X11_signOfSum) (m := 0) dX11_signOfSum_91 (by decide +kernel) ?_
    refine z_callS (M := M_X11_signOfSum) (M' := M_J13_compare_74951) (as := [vl (((fQ_highOf a_0 b_0) + ((fQ_highOf c_0 d_0) + (w32 (fQ_carryOf ((a_0 * b_0) + (c_0 * d_0)) (c_0 * d_0))))) + ((fQ_highOf e_0 f_0) + (w32 (fQ_carryOf (((a_0 * b_0) + (c_0 * d_0)) + (e_0 * f_0)) (e_0 * f_0))))), vl 0]) (rest := []) rfl rfl dX11_signOfSum_92 m_J13_compare_74951 t_1267 t_1268 (c_J13_compare_74951 hl  rfl) rfl rfl (Nat.le_of_ble_eq_true rfl) (Nat.le_of_ble_eq_true rfl) (Nat.le_of_ble_eq_true rfl) (Nat.le_of_ble_eq_true rfl) ?_
    refine z_st (st' := [vi (fL_compare (((fQ_highOf a_0 b_0) + ((fQ_highOf c_0 d_0) + (w32 (fQ_carryOf ((a_0 * b_0) + (c_0 * d_0)) (c_0 * d_0))))) + ((fQ_highOf e_0 f_0) + (w32 (fQ_carryOf (((a_0 * b_0) + (c_0 * d_0)) + (e_0 * f_0)) (e_0 * f_0))))) 0)]) rfl ?_
    refine z_goto (M := M_X11_signOfSum) (tgt := 110) dX11_signOfSum_95 (by decide) ?_
    exact z_st (by rw [if_pos (c := ¬ (w64 (((fQ_highOf a_0 b_0) + ((fQ_highOf c_0 d_0) + (w32 (fQ_carryOf ((a_0 * b_0) + (c_0 * d_0)) (c_0 * d_0))))) + ((fQ_highOf e_0 f_0) + (w32 (fQ_carryOf (((a_0 * b_0) + (c_0 * d_0)) + (e_0 * f_0)) (e_0 * f_0)))))) = 0) h_4]) J_3
  · refine z_lif_eq_t (M := M_X11_signOfSum) (tgt := 98) dX11_signOfSum_86 (by decide) rfl (by decide +kernel) (Decidable.not_not.mp h_4) ?_
    have J_5 : YY l E M_X11_signOfSum 2 0 0 (pS (some (vi r)) σ) 110 [some (vl a_0), none, some (vl b_0), none, some (vl c_0), none, some (vl d_0), none, some (vl e_0), none, some (vl f_0), none, some (vl (((a_0 * b_0) + (c_0 * d_0)) + (e_0 * f_0))), none, some (vl (((fQ_highOf a_0 b_0) + ((fQ_highOf c_0 d_0) + (w32 (fQ_carryOf ((a_0 * b_0) + (c_0 * d_0)) (c_0 * d_0))))) + ((fQ_highOf e_0 f_0) + (w32 (fQ_carryOf (((a_0 * b_0) + (c_0 * d_0)) + (e_0 * f_0)) (e_0 * f_0)))))), none, some (vl (e_0 * f_0)), none] [vi (if ¬ (w64 (((a_0 * b_0) + (c_0 * d_0)) + (e_0 * f_0))) = 0 then 1 else 0)] σ 0 0 := by
      exact z_st (by rw [if_neg (c := ¬ (w64 (((fQ_highOf a_0 b_0) + ((fQ_highOf c_0 d_0) + (w32 (fQ_carryOf ((a_0 * b_0) + (c_0 * d_0)) (c_0 * d_0))))) + ((fQ_highOf e_0 f_0) + (w32 (fQ_carryOf (((a_0 * b_0) + (c_0 * d_0)) + (e_0 * f_0)) (e_0 * f_0)))))) = 0) h_4]) J_3
    refine z_lload (M := M_X11_signOfSum) dX11_signOfSum_98 rfl ?_
    refine z_lconst (M := M_X11_signOfSum) (m := 0) dX11_signOfSum_100 (by decide +kernel) ?_
    refine z_lcmp (M := M_X11_signOfSum) dX11_signOfSum_101 ?_
    by_cases h_6 : ¬ (w64 (((a_0 * b_0) + (c_0 * d_0)) + (e_0 * f_0))) = 0
    · refine z_lif_eq_f (M := M_X11_signOfSum) (tgt := 109) dX11_signOfSum_102 (by decide) rfl (by decide +kernel) h_6 ?_
      refine z_iconst (M := M_X11_signOfSum) dX11_signOfSum_105 ?_
      refine z_goto (M := M_X11_signOfSum) (tgt := 110) dX11_signOfSum_106 (by decide) ?_
      exact z_st (by rw [if_pos (c := ¬ (w64 (((a_0 * b_0) + (c_0 * d_0)) + (e_0 * f_0))) = 0) h_6]) J_5
    · refine z_lif_eq_t (M := M_X11_signOfSum) (tgt := 109) dX11_signOfSum_102 (by decide) rfl (by decide +kernel) (Decidable.not_not.mp h_6) ?_
      refine z_iconst (M := M_X11_signOfSum) dX11_signOfSum_109 ?_
      exact z_st (by rw [if_neg (c := ¬ (w64 (((a_0 * b_0) + (c_0 * d_0)) + (e_0 * f_0))) = 0) h_6]) J_5
theorem c_X2_circleSign (hl : l.stackTraces = false) {σ : SG} {a_0 : Int} {b_0 : Int} {c_0 : Int} {d_0 : Int} {r : Int}  (H : fP_circleSign σ a_0 b_0 c_0 d_0 = some r) : en_S l E M_X2_circleSign 3 0 0 [vr 238, vi a_0, vi b_0, vi c_0, vi d_0] σ (pS (some (vi r)) σ) := by
  unfold fP_circleSign at H
  refine z_mk (lv := [some (vr 238), some (vi a_0), some (vi b_0), some (vi c_0), some (vi d_0), none, none, none, none, none, none, none, none, none, none, none, none]) m_X2_circleSign rfl hl (Nat.le_of_ble_eq_true rfl) rfl ?_
  refine z_aload_n (M := M_X2_circleSign) dX2_circleSign_0 rfl ?_
  refine z_getR (M := M_X2_circleSign) (ci := 5) (C := RX2) (T := TX2) (Nf := 17) (ty := tyX2) cl5 dX2_circleSign_1 ly_238 1 (by decide) t_486 rfl ?_
  refine z_iload_n (M := M_X2_circleSign) dX2_circleSign_4 rfl ?_
  obtain ⟨x_1, x_1_e, hi_2, H⟩ := rd_e H
  refine z_iald (M := M_X2_circleSign) dX2_circleSign_5 ly_240 rfl rfl rfl hi_2 x_1_e ?_
  refine z_i2l (M := M_X2_circleSign) dX2_circleSign_6 ?_
  refine z_aload_n (M := M_X2_circleSign) dX2_circleSign_7 rfl ?_
  refine z_getR (M := M_X2_circleSign) (ci := 5) (C := RX2) (T := TX2) (Nf := 17) (ty := tyX2) cl5 dX2_circleSign_8 ly_238 1 (by decide) t_486 rfl ?_
  refine z_iload (M := M_X2_circleSign) dX2_circleSign_11 rfl ?_
  obtain ⟨x_3, x_3_e, hi_4, H⟩ := rd_e H
  refine z_iald (M := M_X2_circleSign) dX2_circleSign_13 ly_240 rfl rfl rfl hi_4 x_3_e ?_
  refine z_i2l (M := M_X2_circleSign) dX2_circleSign_14 ?_
  refine z_lsub (M := M_X2_circleSign) dX2_circleSign_15 ?_
  refine z_lstore (M := M_X2_circleSign) (lv' := [some (vr 238), some (vi a_0), some (vi b_0), some (vi c_0), some (vi d_0), some (vl ((w32 x_1) - (w32 x_3))), none, none, none, none, none, none, none, none, none, none, none]) dX2_circleSign_16 (Nat.le_of_ble_eq_true rfl) rfl rfl ?_
  refine z_aload_n (M := M_X2_circleSign) dX2_circleSign_18 rfl ?_
  refine z_getR (M := M_X2_circleSign) (ci := 5) (C := RX2) (T := TX2) (Nf := 17) (ty := tyX2) cl5 dX2_circleSign_19 ly_238 2 (by decide) t_487 rfl ?_
  refine z_iload_n (M := M_X2_circleSign) dX2_circleSign_22 rfl ?_
  obtain ⟨x_5, x_5_e, hi_6, H⟩ := rd_e H
  refine z_iald (M := M_X2_circleSign) dX2_circleSign_23 ly_241 rfl rfl rfl hi_6 x_5_e ?_
  refine z_i2l (M := M_X2_circleSign) dX2_circleSign_24 ?_
  refine z_aload_n (M := M_X2_circleSign) dX2_circleSign_25 rfl ?_
  refine z_getR (M := M_X2_circleSign) (ci := 5) (C := RX2) (T := TX2) (Nf := 17) (ty := tyX2) cl5 dX2_circleSign_26 ly_238 2 (by decide) t_487 rfl ?_
  refine z_iload (M := M_X2_circleSign) dX2_circleSign_29 rfl ?_
  obtain ⟨x_7, x_7_e, hi_8, H⟩ := rd_e H
  refine z_iald (M := M_X2_circleSign) dX2_circleSign_31 ly_241 rfl rfl rfl hi_8 x_7_e ?_
  refine z_i2l (M := M_X2_circleSign) dX2_circleSign_32 ?_
  refine z_lsub (M := M_X2_circleSign) dX2_circleSign_33 ?_
  refine z_lstore (M := M_X2_circleSign) (lv' := [some (vr 238), some (vi a_0), some (vi b_0), some (vi c_0), some (vi d_0), some (vl ((w32 x_1) - (w32 x_3))), none, some (vl ((w32 x_5) - (w32 x_7))), none, none, none, none, none, none, none, none, none]) dX2_circleSign_34 (Nat.le_of_ble_eq_true rfl) rfl rfl ?_
  refine z_aload_n (M := M_X2_circleSign) dX2_circleSign_36 rfl ?_
  refine z_getR (M := M_X2_circleSign) (ci := 5) (C := RX2) (T := TX2) (Nf := 17) (ty := tyX2) cl5 dX2_circleSign_37 ly_238 1 (by decide) t_486 rfl ?_
  refine z_iload_n (M := M_X2_circleSign) dX2_circleSign_40 rfl ?_
  obtain ⟨x_9, x_9_e, hi_10, H⟩ := rd_e H
  refine z_iald (M := M_X2_circleSign) dX2_circleSign_41 ly_240 rfl rfl rfl hi_10 x_9_e ?_
  refine z_i2l (M := M_X2_circleSign) dX2_circleSign_42 ?_
  refine z_aload_n (M := M_X2_circleSign) dX2_circleSign_43 rfl ?_
  refine z_getR (M := M_X2_circleSign) (ci := 5) (C := RX2) (T := TX2) (Nf := 17) (ty := tyX2) cl5 dX2_circleSign_44 ly_238 1 (by decide) t_486 rfl ?_
  refine z_iload (M := M_X2_circleSign) dX2_circleSign_47 rfl ?_
  obtain ⟨x_11, x_11_e, hi_12, H⟩ := rd_e H
  refine z_iald (M := M_X2_circleSign) dX2_circleSign_49 ly_240 rfl rfl rfl hi_12 x_11_e ?_
  refine z_i2l (M := M_X2_circleSign) dX2_circleSign_50 ?_
  refine z_lsub (M := M_X2_circleSign) dX2_circleSign_51 ?_
  refine z_lstore (M := M_X2_circleSign) (lv' := [some (vr 238), some (vi a_0), some (vi b_0), some (vi c_0), some (vi d_0), some (vl ((w32 x_1) - (w32 x_3))), none, some (vl ((w32 x_5) - (w32 x_7))), none, some (vl ((w32 x_9) - (w32 x_11))), none, none, none, none, none, none, none]) dX2_circleSign_52 (Nat.le_of_ble_eq_true rfl) rfl rfl ?_
  refine z_aload_n (M := M_X2_circleSign) dX2_circleSign_54 rfl ?_
  refine z_getR (M := M_X2_circleSign) (ci := 5) (C := RX2) (T := TX2) (Nf := 17) (ty := tyX2) cl5 dX2_circleSign_55 ly_238 2 (by decide) t_487 rfl ?_
  refine z_iload_n (M := M_X2_circleSign) dX2_circleSign_58 rfl ?_
  obtain ⟨x_13, x_13_e, hi_14, H⟩ := rd_e H
  refine z_iald (M := M_X2_circleSign) dX2_circleSign_59 ly_241 rfl rfl rfl hi_14 x_13_e ?_
  refine z_i2l (M := M_X2_circleSign) dX2_circleSign_60 ?_
  refine z_aload_n (M := M_X2_circleSign) dX2_circleSign_61 rfl ?_
  refine z_getR (M := M_X2_circleSign) (ci := 5) (C := RX2) (T := TX2) (Nf := 17) (ty := tyX2) cl5 dX2_circleSign_62 ly_238 2 (by decide) t_487 rfl ?_
  refine z_iload (M := M_X2_circleSign) dX2_circleSign_65 rfl ?_
  obtain ⟨x_15, x_15_e, hi_16, H⟩ := rd_e H
  refine z_iald (M := M_X2_circleSign) dX2_circleSign_67 ly_241 rfl rfl rfl hi_16 x_15_e ?_
  refine z_i2l (M := M_X2_circleSign) dX2_circleSign_68 ?_
  refine z_lsub (M := M_X2_circleSign) dX2_circleSign_69 ?_
  refine z_lstore (M := M_X2_circleSign) (lv' := [some (vr 238), some (vi a_0), some (vi b_0), some (vi c_0), some (vi d_0), some (vl ((w32 x_1) - (w32 x_3))), none, some (vl ((w32 x_5) - (w32 x_7))), none, some (vl ((w32 x_9) - (w32 x_11))), none, some (vl ((w32 x_13) - (w32 x_15))), none, none, none, none, none]) dX2_circleSign_70 (Nat.le_of_ble_eq_true rfl) rfl rfl ?_
  refine z_aload_n (M := M_X2_circleSign) dX2_circleSign_72 rfl ?_
  refine z_getR (M := M_X2_circleSign) (ci := 5) (C := RX2) (T := TX2) (Nf := 17) (ty := tyX2) cl5 dX2_circleSign_73 ly_238 1 (by decide) t_486 rfl ?_
  refine z_iload_n (M := M_X2_circleSign) dX2_circleSign_76 rfl ?_
  obtain ⟨x_17, x_17_e, hi_18, H⟩ := rd_e H
  refine z_iald (M := M_X2_circleSign) dX2_circleSign_77 ly_240 rfl rfl rfl hi_18 x_17_e ?_
  refine z_i2l (M := M_X2_circleSign) dX2_circleSign_78 ?_
  refine z_aload_n (M := M_X2_circleSign) dX2_circleSign_79 rfl ?_
  refine z_getR (M := M_X2_circleSign) (ci := 5) (C := RX2) (T := TX2) (Nf := 17) (ty := tyX2) cl5 dX2_circleSign_80 ly_238 1 (by decide) t_486 rfl ?_
  refine z_iload (M := M_X2_circleSign) dX2_circleSign_83 rfl ?_
  obtain ⟨x_19, x_19_e, hi_20, H⟩ := rd_e H
  refine z_iald (M := M_X2_circleSign) dX2_circleSign_85 ly_240 rfl rfl rfl hi_20 x_19_e ?_
  refine z_i2l (M := M_X2_circleSign) dX2_circleSign_86 ?_
  refine z_lsub (M := M_X2_circleSign) dX2_circleSign_87 ?_
  refine z_lstore (M := M_X2_circleSign) (lv' := [some (vr 238), some (vi a_0), some (vi b_0), some (vi c_0), some (vi d_0), some (vl ((w32 x_1) - (w32 x_3))), none, some (vl ((w32 x_5) - (w32 x_7))), none, some (vl ((w32 x_9) - (w32 x_11))), none, some (vl ((w32 x_13) - (w32 x_15))), none, some (vl ((w32 x_17) - (w32 x_19))), none, none, none]) dX2_circleSign_88 (Nat.le_of_ble_eq_true rfl) rfl rfl ?_
  refine z_aload_n (M := M_X2_circleSign) dX2_circleSign_90 rfl ?_
  refine z_getR (M := M_X2_circleSign) (ci := 5) (C := RX2) (T := TX2) (Nf := 17) (ty := tyX2) cl5 dX2_circleSign_91 ly_238 2 (by decide) t_487 rfl ?_
  refine z_iload_n (M := M_X2_circleSign) dX2_circleSign_94 rfl ?_
  obtain ⟨x_21, x_21_e, hi_22, H⟩ := rd_e H
  refine z_iald (M := M_X2_circleSign) dX2_circleSign_95 ly_241 rfl rfl rfl hi_22 x_21_e ?_
  refine z_i2l (M := M_X2_circleSign) dX2_circleSign_96 ?_
  refine z_aload_n (M := M_X2_circleSign) dX2_circleSign_97 rfl ?_
  refine z_getR (M := M_X2_circleSign) (ci := 5) (C := RX2) (T := TX2) (Nf := 17) (ty := tyX2) cl5 dX2_circleSign_98 ly_238 2 (by decide) t_487 rfl ?_
  refine z_iload (M := M_X2_circleSign) dX2_circleSign_101 rfl ?_
  obtain ⟨x_23, x_23_e, hi_24, H⟩ := rd_e H
  refine z_iald (M := M_X2_circleSign) dX2_circleSign_103 ly_241 rfl rfl rfl hi_24 x_23_e ?_
  refine z_i2l (M := M_X2_circleSign) dX2_circleSign_104 ?_
  refine z_lsub (M := M_X2_circleSign) dX2_circleSign_105 ?_
  refine z_lstore (M := M_X2_circleSign) (lv' := [some (vr 238), some (vi a_0), some (vi b_0), some (vi c_0), some (vi d_0), some (vl ((w32 x_1) - (w32 x_3))), none, some (vl ((w32 x_5) - (w32 x_7))), none, some (vl ((w32 x_9) - (w32 x_11))), none, some (vl ((w32 x_13) - (w32 x_15))), none, some (vl ((w32 x_17) - (w32 x_19))), none, some (vl ((w32 x_21) - (w32 x_23))), none]) dX2_circleSign_106 (Nat.le_of_ble_eq_true rfl) rfl rfl ?_
  refine z_lload (M := M_X2_circleSign) dX2_circleSign_108 rfl ?_
  refine z_lload (M := M_X2_circleSign) dX2_circleSign_110 rfl ?_
  refine z_lmul (M := M_X2_circleSign) dX2_circleSign_112 ?_
  refine z_lload (M := M_X2_circleSign) dX2_circleSign_113 rfl ?_
  refine z_lload (M := M_X2_circleSign) dX2_circleSign_115 rfl ?_
  refine z_lmul (M := M_X2_circleSign) dX2_circleSign_117 ?_
  refine z_ladd (M := M_X2_circleSign) dX2_circleSign_118 ?_
  refine z_lload (M := M_X2_circleSign) dX2_circleSign_119 rfl ?_
  refine z_lload (M := M_X2_circleSign) dX2_circleSign_121 rfl ?_
  refine z_lmul (M := M_X2_circleSign) dX2_circleSign_123 ?_
  refine z_lload (M := M_X2_circleSign) dX2_circleSign_124 rfl ?_
  refine z_lload (M := M_X2_circleSign) dX2_circleSign_126 rfl ?_
  refine z_lmul (M := M_X2_circleSign) dX2_circleSign_128 ?_
  refine z_lsub (M := M_X2_circleSign) dX2_circleSign_129 ?_
  refine z_lload (M := M_X2_circleSign) dX2_circleSign_130 rfl ?_
  refine z_lload (M := M_X2_circleSign) dX2_circleSign_132 rfl ?_
  refine z_lmul (M := M_X2_circleSign) dX2_circleSign_134 ?_
  refine z_lload (M := M_X2_circleSign) dX2_circleSign_135 rfl ?_
  refine z_lload (M := M_X2_circleSign) dX2_circleSign_137 rfl ?_
  refine z_lmul (M := M_X2_circleSign) dX2_circleSign_139 ?_
  refine z_ladd (M := M_X2_circleSign) dX2_circleSign_140 ?_
  refine z_lload (M := M_X2_circleSign) dX2_circleSign_141 rfl ?_
  refine z_lload (M := M_X2_circleSign) dX2_circleSign_143 rfl ?_
  refine z_lmul (M := M_X2_circleSign) dX2_circleSign_145 ?_
  refine z_lload (M := M_X2_circleSign) dX2_circleSign_146 rfl ?_
  refine z_lload (M := M_X2_circleSign) dX2_circleSign_148 rfl ?_
  refine z_lmul (M := M_X2_circleSign) dX2_circleSign_150 ?_
  refine z_lsub (M := M_X2_circleSign) dX2_circleSign_151 ?_
  refine z_lload (M := M_X2_circleSign) dX2_circleSign_152 rfl ?_
  refine z_lload (M := M_X2_circleSign) dX2_circleSign_154 rfl ?_
  refine z_lmul (M := M_X2_circleSign) dX2_circleSign_156 ?_
  refine z_lload (M := M_X2_circleSign) dX2_circleSign_157 rfl ?_
  refine z_lload (M := M_X2_circleSign) dX2_circleSign_159 rfl ?_
  refine z_lmul (M := M_X2_circleSign) dX2_circleSign_161 ?_
  refine z_ladd (M := M_X2_circleSign) dX2_circleSign_162 ?_
  refine z_lload (M := M_X2_circleSign) dX2_circleSign_163 rfl ?_
  refine z_lload (M := M_X2_circleSign) dX2_circleSign_165 rfl ?_
  refine z_lmul (M := M_X2_circleSign) dX2_circleSign_167 ?_
  refine z_lload (M := M_X2_circleSign) dX2_circleSign_168 rfl ?_
  refine z_lload (M := M_X2_circleSign) dX2_circleSign_170 rfl ?_
  refine z_lmul (M := M_X2_circleSign) dX2_circleSign_172 ?_
  refine z_lsub (M := M_X2_circleSign) dX2_circleSign_173 ?_
  refine z_callSN (M := M_X2_circleSign) (M' := M_X11_signOfSum) (as := [vl ((((w32 x_1) - (w32 x_3)) * ((w32 x_1) - (w32 x_3))) + (((w32 x_5) - (w32 x_7)) * ((w32 x_5) - (w32 x_7)))), vl ((((w32 x_9) - (w32 x_11)) * ((w32 x_21) - (w32 x_23))) - (((w32 x_13) - (w32 x_15)) * ((w32 x_17) - (w32 x_19)))), vl ((((w32 x_9) - (w32 x_11)) * ((w32 x_9) - (w32 x_11))) + (((w32 x_13) - (w32 x_15)) * ((w32 x_13) - (w32 x_15)))), vl ((((w32 x_17) - (w32 x_19)) * ((w32 x_5) - (w32 x_7))) - (((w32 x_21) - (w32 x_23)) * ((w32 x_1) - (w32 x_3)))), vl ((((w32 x_17) - (w32 x_19)) * ((w32 x_17) - (w32 x_19))) + (((w32 x_21) - (w32 x_23)) * ((w32 x_21) - (w32 x_23)))), vl ((((w32 x_1) - (w32 x_3)) * ((w32 x_13) - (w32 x_15))) - (((w32 x_5) - (w32 x_7)) * ((w32 x_9) - (w32 x_11))))]) (rest := []) rfl rfl dX2_circleSign_174 m_X11_signOfSum n_2161 t_1938 (c_X11_signOfSum hl  rfl) rfl rfl (Nat.le_of_ble_eq_true rfl) (Nat.le_of_ble_eq_true rfl) (Nat.le_of_ble_eq_true rfl) (Nat.le_of_ble_eq_true rfl) ?_
  refine z_st (st' := [vi (fQ_signOfSum ((((w32 x_1) - (w32 x_3)) * ((w32 x_1) - (w32 x_3))) + (((w32 x_5) - (w32 x_7)) * ((w32 x_5) - (w32 x_7)))) ((((w32 x_9) - (w32 x_11)) * ((w32 x_21) - (w32 x_23))) - (((w32 x_13) - (w32 x_15)) * ((w32 x_17) - (w32 x_19)))) ((((w32 x_9) - (w32 x_11)) * ((w32 x_9) - (w32 x_11))) + (((w32 x_13) - (w32 x_15)) * ((w32 x_13) - (w32 x_15)))) ((((w32 x_17) - (w32 x_19)) * ((w32 x_5) - (w32 x_7))) - (((w32 x_21) - (w32 x_23)) * ((w32 x_1) - (w32 x_3)))) ((((w32 x_17) - (w32 x_19)) * ((w32 x_17) - (w32 x_19))) + (((w32 x_21) - (w32 x_23)) * ((w32 x_21) - (w32 x_23)))) ((((w32 x_1) - (w32 x_3)) * ((w32 x_13) - (w32 x_15))) - (((w32 x_5) - (w32 x_7)) * ((w32 x_9) - (w32 x_11)))))]) rfl ?_
  cases H
  exact z_iret (M := M_X2_circleSign) dX2_circleSign_177 rfl (Nat.le_of_ble_eq_true rfl) (Nat.le_of_ble_eq_true rfl) ⟨rfl, rfl⟩
theorem c_X2_insertInRound (hl : l.stackTraces = false) {σ : SG} {place_0 : Int} {σ' : SG}  (H : fP_insertInRound σ place_0 = some σ') : en_S l E M_X2_insertInRound 4 0 0 [vr 238, vi place_0] σ (pS (none) σ') := by
  unfold fP_insertInRound at H
  refine z_mk (lv := [some (vr 238), some (vi place_0), none]) m_X2_insertInRound rfl hl (Nat.le_of_ble_eq_true rfl) rfl ?_
  refine z_aload_n (M := M_X2_insertInRound) dX2_insertInRound_0 rfl ?_
  refine z_getI (M := M_X2_insertInRound) (ci := 5) (C := RX2) (T := TX2) (Nf := 17) (ty := tyX2) cl5 dX2_insertInRound_1 ly_238 12 (by decide) t_497 rfl rfl ?_
  refine z_istore_n (M := M_X2_insertInRound) (lv' := [some (vr 238), some (vi place_0), some (vi (σ kP_roundSize 0))]) dX2_insertInRound_4 (Nat.le_of_ble_eq_true rfl) rfl rfl ?_
  obtain ⟨rl_6, hw_3, hk_4⟩ := bd_e H
  have J_42 : ∀ at_37 σ_38, rl_6 = (at_37, σ_38) → YY l E M_X2_insertInRound 4 0 0 (pS (none) σ') 52 [some (vr 238), some (vi place_0), some (vi at_37)] [] σ_38 0 0 := by
    intro at_37 σ_38 e
    have H := hk_4
    rw [e] at H
    refine z_aload_n (M := M_X2_insertInRound) dX2_insertInRound_52 rfl ?_
    refine z_getR (M := M_X2_insertInRound) (ci := 5) (C := RX2) (T := TX2) (Nf := 17) (ty := tyX2) cl5 dX2_insertInRound_53 ly_238 11 (by decide) t_496 rfl ?_
    refine z_iload_n (M := M_X2_insertInRound) dX2_insertInRound_56 rfl ?_
    refine z_iload_n (M := M_X2_insertInRound) dX2_insertInRound_57 rfl ?_
    obtain ⟨σ_39, σ_39_e, hi_40, H⟩ := wa_e H
    refine z_iast (M := M_X2_insertInRound) dX2_insertInRound_58 ly_248 rfl rfl rfl hi_40 σ_39_e ?_
    refine z_aload_n (M := M_X2_insertInRound) dX2_insertInRound_59 rfl ?_
    refine z_dup (M := M_X2_insertInRound) dX2_insertInRound_60 rfl ?_
    refine z_getI (M := M_X2_insertInRound) (ci := 5) (C := RX2) (T := TX2) (Nf := 17) (ty := tyX2) cl5 dX2_insertInRound_61 ly_238 12 (by decide) t_497 rfl rfl ?_
    refine z_iconst (M := M_X2_insertInRound) dX2_insertInRound_64 ?_
    refine z_iadd (M := M_X2_insertInRound) dX2_insertInRound_65 ?_
    obtain ⟨σ_41, σ_41_e, H⟩ := wf_e H
    refine z_putI (M := M_X2_insertInRound) (ci := 5) (C := RX2) (T := TX2) (Nf := 17) (ty := tyX2) cl5 dX2_insertInRound_66 ly_238 12 (by decide) t_497 rfl rfl rfl rfl σ_41_e ?_
    cases H
    exact z_vret (M := M_X2_insertInRound) dX2_insertInRound_69 rfl (Nat.le_of_ble_eq_true rfl) (Nat.le_of_ble_eq_true rfl) ⟨rfl, rfl⟩
  refine whl_go hw_3 (fun (at_1, σ_2) => YY l E M_X2_insertInRound 4 0 0 (pS (none) σ') 5 [some (vr 238), some (vi place_0), some (vi at_1)] [] σ_2 0 0) ?_
  rintro ⟨at_1, σ_2⟩ o_7 H K_8 K_9
  refine z_iload_n (M := M_X2_insertInRound) dX2_insertInRound_5 rfl ?_
  refine z_iconst (M := M_X2_insertInRound) dX2_insertInRound_6 ?_
  rcases if_e H with ⟨h_22, H⟩ | ⟨h_22, H⟩
  · refine z_icmp_le_f (M := M_X2_insertInRound) (tgt := 52) dX2_insertInRound_7 (by decide) rfl (by decide +kernel) h_22 ?_
    refine z_aload_n (M := M_X2_insertInRound) dX2_insertInRound_10 rfl ?_
    refine z_aload_n (M := M_X2_insertInRound) dX2_insertInRound_11 rfl ?_
    refine z_getR (M := M_X2_insertInRound) (ci := 5) (C := RX2) (T := TX2) (Nf := 17) (ty := tyX2) cl5 dX2_insertInRound_12 ly_238 11 (by decide) t_496 rfl ?_
    refine z_iconst (M := M_X2_insertInRound) dX2_insertInRound_15 ?_
    obtain ⟨x_23, x_23_e, hi_24, H⟩ := rd_e H
    refine z_iald (M := M_X2_insertInRound) dX2_insertInRound_16 ly_248 rfl (by decide +kernel) rfl hi_24 x_23_e ?_
    refine z_aload_n (M := M_X2_insertInRound) dX2_insertInRound_17 rfl ?_
    refine z_getR (M := M_X2_insertInRound) (ci := 5) (C := RX2) (T := TX2) (Nf := 17) (ty := tyX2) cl5 dX2_insertInRound_18 ly_238 11 (by decide) t_496 rfl ?_
    refine z_iload_n (M := M_X2_insertInRound) dX2_insertInRound_21 rfl ?_
    refine z_iconst (M := M_X2_insertInRound) dX2_insertInRound_22 ?_
    refine z_isub (M := M_X2_insertInRound) dX2_insertInRound_23 ?_
    obtain ⟨x_25, x_25_e, hi_26, H⟩ := rd_e H
    refine z_iald (M := M_X2_insertInRound) dX2_insertInRound_24 ly_248 rfl rfl rfl hi_26 x_25_e ?_
    refine z_iload_n (M := M_X2_insertInRound) dX2_insertInRound_25 rfl ?_
    obtain ⟨x_28, hc_27, H⟩ := bd_e H
    refine z_callV (M := M_X2_insertInRound) (M' := M_X2_turnAt) (as := [vi x_23, vi x_25, vi place_0]) (rest := []) rfl rfl dX2_insertInRound_26 m_X2_turnAt t_2113 t_2115 s_132 (c_X2_turnAt hl  hc_27) rfl rfl ly_238 rfl (Nat.le_of_ble_eq_true rfl) (Nat.le_of_ble_eq_true rfl) (Nat.le_of_ble_eq_true rfl) (Nat.le_of_ble_eq_true rfl) ?_
    refine z_st (st' := [vi x_28]) rfl ?_
    rcases if_e H with ⟨h_29, H⟩ | ⟨h_29, H⟩
    · refine z_if_ge_f (M := M_X2_insertInRound) (tgt := 52) dX2_insertInRound_29 (by decide) rfl h_29 ?_
      refine z_aload_n (M := M_X2_insertInRound) dX2_insertInRound_32 rfl ?_
      refine z_getR (M := M_X2_insertInRound) (ci := 5) (C := RX2) (T := TX2) (Nf := 17) (ty := tyX2) cl5 dX2_insertInRound_33 ly_238 11 (by decide) t_496 rfl ?_
      refine z_iload_n (M := M_X2_insertInRound) dX2_insertInRound_36 rfl ?_
      refine z_aload_n (M := M_X2_insertInRound) dX2_insertInRound_37 rfl ?_
      refine z_getR (M := M_X2_insertInRound) (ci := 5) (C := RX2) (T := TX2) (Nf := 17) (ty := tyX2) cl5 dX2_insertInRound_38 ly_238 11 (by decide) t_496 rfl ?_
      refine z_iload_n (M := M_X2_insertInRound) dX2_insertInRound_41 rfl ?_
      refine z_iconst (M := M_X2_insertInRound) dX2_insertInRound_42 ?_
      refine z_isub (M := M_X2_insertInRound) dX2_insertInRound_43 ?_
      obtain ⟨x_30, x_30_e, hi_31, H⟩ := rd_e H
      refine z_iald (M := M_X2_insertInRound) dX2_insertInRound_44 ly_248 rfl rfl rfl hi_31 x_30_e ?_
      obtain ⟨σ_32, σ_32_e, hi_33, H⟩ := wa_e H
      refine z_iast (M := M_X2_insertInRound) dX2_insertInRound_45 ly_248 rfl rfl rfl hi_33 σ_32_e ?_
      refine z_iinc (M := M_X2_insertInRound) (lv' := [some (vr 238), some (vi place_0), some (vi (at_1 + (-1)))]) dX2_insertInRound_46 rfl (Nat.le_of_ble_eq_true rfl) rfl rfl ?_
      refine z_goto (M := M_X2_insertInRound) (tgt := 5) dX2_insertInRound_49 (by decide) ?_
      exact K_8 _ (Option.some.inj H).symm
    · refine z_if_ge_t (M := M_X2_insertInRound) (tgt := 52) dX2_insertInRound_29 (by decide) rfl (Int.not_lt.mp h_29) ?_
      exact J_42 _ _ (K_9 _ (Option.some.inj H).symm).symm
  · refine z_icmp_le_t (M := M_X2_insertInRound) (tgt := 52) dX2_insertInRound_7 (by decide) rfl (by decide +kernel) (Int.not_lt.mp h_22) ?_
    exact J_42 _ _ (K_9 _ (Option.some.inj H).symm).symm
theorem c_X2_findRound (hl : l.stackTraces = false) {σ : SG} {from_0 : Int} {to_0 : Int} {r : Bool} {σ' : SG}  (H : fP_findRound σ from_0 to_0 = some (r, σ')) : en_S l E M_X2_findRound 5 0 0 [vr 238, vi from_0, vi to_0] σ (pS (some (zv r)) σ') := by
  unfold fP_findRound at H
  refine z_mk (lv := [some (vr 238), some (vi from_0), some (vi to_0), none, none]) m_X2_findRound rfl hl (Nat.le_of_ble_eq_true rfl) rfl ?_
  refine z_aload_n (M := M_X2_findRound) dX2_findRound_0 rfl ?_
  refine z_getR (M := M_X2_findRound) (ci := 5) (C := RX2) (T := TX2) (Nf := 17) (ty := tyX2) cl5 dX2_findRound_1 ly_238 11 (by decide) t_496 rfl ?_
  refine z_iconst (M := M_X2_findRound) dX2_findRound_4 ?_
  refine z_iload_n (M := M_X2_findRound) dX2_findRound_5 rfl ?_
  obtain ⟨σ_1, σ_1_e, hi_2, H⟩ := wa_e H
  refine z_iast (M := M_X2_findRound) dX2_findRound_6 ly_248 rfl (by decide +kernel) rfl hi_2 σ_1_e ?_
  refine z_aload_n (M := M_X2_findRound) dX2_findRound_7 rfl ?_
  refine z_getR (M := M_X2_findRound) (ci := 5) (C := RX2) (T := TX2) (Nf := 17) (ty := tyX2) cl5 dX2_findRound_8 ly_238 11 (by decide) t_496 rfl ?_
  refine z_iconst (M := M_X2_findRound) dX2_findRound_11 ?_
  refine z_iload_n (M := M_X2_findRound) dX2_findRound_12 rfl ?_
  obtain ⟨σ_3, σ_3_e, hi_4, H⟩ := wa_e H
  refine z_iast (M := M_X2_findRound) dX2_findRound_13 ly_248 rfl (by decide +kernel) rfl hi_4 σ_3_e ?_
  refine z_aload_n (M := M_X2_findRound) dX2_findRound_14 rfl ?_
  refine z_iconst (M := M_X2_findRound) dX2_findRound_15 ?_
  obtain ⟨σ_5, σ_5_e, H⟩ := wf_e H
  refine z_putI (M := M_X2_findRound) (ci := 5) (C := RX2) (T := TX2) (Nf := 17) (ty := tyX2) cl5 dX2_findRound_16 ly_238 12 (by decide) t_497 rfl rfl rfl rfl σ_5_e ?_
  refine z_iconst (M := M_X2_findRound) dX2_findRound_19 ?_
  refine z_istore_n (M := M_X2_findRound) (lv' := [some (vr 238), some (vi from_0), some (vi to_0), some (vi 0), none]) dX2_findRound_20 (Nat.le_of_ble_eq_true rfl) rfl rfl ?_
  obtain ⟨rl_11, hw_8, hk_9⟩ := bd_e H
  have J_69 : ∀ i_65 σ_66, rl_11 = (i_65, σ_66) → YY l E M_X2_findRound 5 0 0 (pS (some (zv r)) σ') 105 [some (vr 238), some (vi from_0), some (vi to_0), some (vi i_65), none] [] σ_66 0 0 := by
    intro i_65 σ_66 e
    have H := hk_9
    rw [e] at H
    have J_67 : YY l E M_X2_findRound 5 0 0 (pS (some (zv r)) σ') 118 [some (vr 238), some (vi from_0), some (vi to_0), some (vi i_65), none] [zv (decide (2 < (w32 (σ_66 kP_roundSize 0))))] σ_66 0 0 := by
      cases H
      exact z_zret (M := M_X2_findRound) dX2_findRound_118 rfl (Nat.le_of_ble_eq_true rfl) (Nat.le_of_ble_eq_true rfl) ⟨rfl, rfl⟩
    refine z_aload_n (M := M_X2_findRound) dX2_findRound_105 rfl ?_
    refine z_getI (M := M_X2_findRound) (ci := 5) (C := RX2) (T := TX2) (Nf := 17) (ty := tyX2) cl5 dX2_findRound_106 ly_238 12 (by decide) t_497 rfl rfl ?_
    refine z_iconst (M := M_X2_findRound) dX2_findRound_109 ?_
    by_cases h_68 : 2 < (w32 (σ_66 kP_roundSize 0))
    · refine z_icmp_le_f (M := M_X2_findRound) (tgt := 117) dX2_findRound_110 (by decide) rfl (by decide +kernel) h_68 ?_
      refine z_iconst (M := M_X2_findRound) dX2_findRound_113 ?_
      refine z_goto (M := M_X2_findRound) (tgt := 118) dX2_findRound_114 (by decide) ?_
      exact z_st (by rw [zv_t (p := 2 < (w32 (σ_66 kP_roundSize 0))) h_68]) J_67
    · refine z_icmp_le_t (M := M_X2_findRound) (tgt := 117) dX2_findRound_110 (by decide) rfl (by decide +kernel) (Int.not_lt.mp h_68) ?_
      refine z_iconst (M := M_X2_findRound) dX2_findRound_117 ?_
      exact z_st (by rw [zv_f (p := 2 < (w32 (σ_66 kP_roundSize 0))) h_68]) J_67
  refine whl_go hw_8 (fun (i_6, σ_7) => YY l E M_X2_findRound 5 0 0 (pS (some (zv r)) σ') 21 [some (vr 238), some (vi from_0), some (vi to_0), some (vi i_6), none] [] σ_7 0 0) ?_
  rintro ⟨i_6, σ_7⟩ o_12 H K_13 K_14
  refine z_iload_n (M := M_X2_findRound) dX2_findRound_21 rfl ?_
  refine z_aload_n (M := M_X2_findRound) dX2_findRound_22 rfl ?_
  refine z_getI (M := M_X2_findRound) (ci := 5) (C := RX2) (T := TX2) (Nf := 17) (ty := tyX2) cl5 dX2_findRound_23 ly_238 3 (by decide) t_488 rfl rfl ?_
  rcases if_e H with ⟨h_15, H⟩ | ⟨h_15, H⟩
  · refine z_icmp_ge_f (M := M_X2_findRound) (tgt := 105) dX2_findRound_26 (by decide) rfl rfl h_15 ?_
    refine z_aload_n (M := M_X2_findRound) dX2_findRound_29 rfl ?_
    refine z_iload_n (M := M_X2_findRound) dX2_findRound_30 rfl ?_
    refine z_iload_n (M := M_X2_findRound) dX2_findRound_31 rfl ?_
    refine z_iload_n (M := M_X2_findRound) dX2_findRound_32 rfl ?_
    obtain ⟨x_17, hc_16, H⟩ := bd_e H
    refine z_callV (M := M_X2_findRound) (M' := M_X2_turnAt) (as := [vi from_0, vi to_0, vi i_6]) (rest := []) rfl rfl dX2_findRound_33 m_X2_turnAt t_2113 t_2115 s_132 (c_X2_turnAt hl  hc_16) rfl rfl ly_238 rfl (Nat.le_of_ble_eq_true rfl) (Nat.le_of_ble_eq_true rfl) (Nat.le_of_ble_eq_true rfl) (Nat.le_of_ble_eq_true rfl) ?_
    refine z_st (st' := [vi x_17]) rfl ?_
    rcases if_e H with ⟨h_18, H⟩ | ⟨h_18, H⟩
    · refine z_if_gt_f (M := M_X2_findRound) (tgt := 42) dX2_findRound_36 (by decide) rfl h_18 ?_
      refine z_goto (M := M_X2_findRound) (tgt := 99) dX2_findRound_39 (by decide) ?_
      refine z_iinc (M := M_X2_findRound) (lv' := [some (vr 238), some (vi from_0), some (vi to_0), some (vi (i_6 + 1)), none]) dX2_findRound_99 rfl (Nat.le_of_ble_eq_true rfl) rfl rfl ?_
      refine z_goto (M := M_X2_findRound) (tgt := 21) dX2_findRound_102 (by decide) ?_
      exact K_13 _ (Option.some.inj H).symm
    · refine z_if_gt_t (M := M_X2_findRound) (tgt := 42) dX2_findRound_36 (by decide) rfl (Int.not_le.mp h_18) ?_
      obtain ⟨v_60, he_61, hk_62⟩ := bd_e H
      have J_63 : ∀ x_31, v_60 = x_31 → YY l E M_X2_findRound 5 0 0 (pS (some (zv r)) σ') 67 [some (vr 238), some (vi from_0), some (vi to_0), some (vi i_6), none] [vi x_31] σ_7 0 0 := by
        intro x_31 e
        have H := hk_62
        rw [e] at H
        refine z_istore (M := M_X2_findRound) (lv' := [some (vr 238), some (vi from_0), some (vi to_0), some (vi i_6), some (vi x_31)]) dX2_findRound_67 (Nat.le_of_ble_eq_true rfl) rfl rfl ?_
        obtain ⟨v_35, he_32, hk_33⟩ := bd_e H
        have J_59 : ∀ σ_40, v_35 = σ_40 → YY l E M_X2_findRound 5 0 0 (pS (some (zv r)) σ') 79 [some (vr 238), some (vi from_0), some (vi to_0), some (vi i_6), some (vi x_31)] [] σ_40 0 0 := by
          intro σ_40 e
          have H := hk_33
          rw [e] at H
          obtain ⟨v_44, he_41, hk_42⟩ := bd_e H
          have J_58 : ∀ σ_56, v_44 = σ_56 → YY l E M_X2_findRound 5 0 0 (pS (some (zv r)) σ') 99 [some (vr 238), some (vi from_0), some (vi to_0), some (vi i_6), some (vi x_31)] [] σ_56 0 0 := by
            intro σ_56 e
            have H := hk_42
            rw [e] at H
            refine z_iinc (M := M_X2_findRound) (lv' := [some (vr 238), some (vi from_0), some (vi to_0), some (vi (i_6 + 1)), some (vi x_31)]) dX2_findRound_99 rfl (Nat.le_of_ble_eq_true rfl) rfl rfl ?_
            refine z_goto (M := M_X2_findRound) (tgt := 21) dX2_findRound_102 (by decide) ?_
            refine z_le (lv' := [some (vr 238), some (vi from_0), some (vi to_0), some (vi (i_6 + 1)), none]) ⟨Or.inr rfl, Or.inr rfl, Or.inr rfl, Or.inr rfl, Or.inl rfl, trivial⟩ ?_
            exact K_13 _ (Option.some.inj H).symm
          have H := he_41
          rcases if_e H with ⟨h_49, H⟩ | ⟨h_49, H⟩
          · have J_50 : YY l E M_X2_findRound 5 0 0 (pS (some (zv r)) σ') 94 [some (vr 238), some (vi from_0), some (vi to_0), some (vi i_6), some (vi x_31)] [] σ_40 0 0 := by
              refine z_aload_n (M := M_X2_findRound) dX2_findRound_94 rfl ?_
              refine z_iload_n (M := M_X2_findRound) dX2_findRound_95 rfl ?_
              obtain ⟨σ_46, hc_45, H⟩ := bd_e H
              refine z_callV (M := M_X2_findRound) (M' := M_X2_insertInRound) (as := [vi i_6]) (rest := []) rfl rfl dX2_findRound_96 m_X2_insertInRound t_2162 t_2164 s_139 (c_X2_insertInRound hl  hc_45) rfl rfl ly_238 rfl (Nat.le_of_ble_eq_true rfl) (Nat.le_of_ble_eq_true rfl) (Nat.le_of_ble_eq_true rfl) (Nat.le_of_ble_eq_true rfl) ?_
              refine z_st (st' := []) rfl ?_
              exact J_58 _ (Option.some.inj H).symm
            refine z_iload (M := M_X2_findRound) dX2_findRound_79 rfl ?_
            by_cases h_52 : 0 ≤ (w32 x_31)
            · refine z_if_lt_f (M := M_X2_findRound) (tgt := 99) dX2_findRound_81 (by decide) rfl h_52 ?_
              refine z_aload_n (M := M_X2_findRound) dX2_findRound_84 rfl ?_
              refine z_getI (M := M_X2_findRound) (ci := 5) (C := RX2) (T := TX2) (Nf := 17) (ty := tyX2) cl5 dX2_findRound_85 ly_238 12 (by decide) t_497 rfl rfl ?_
              refine z_sipush (M := M_X2_findRound) dX2_findRound_88 (by decide +kernel) ?_
              by_cases h_53 : (w32 (σ_40 kP_roundSize 0)) < 514
              · refine z_icmp_ge_f (M := M_X2_findRound) (tgt := 99) dX2_findRound_91 (by decide) rfl (by decide +kernel) h_53 ?_
                exact J_50
              · refine z_icmp_ge_t (M := M_X2_findRound) (tgt := 99) dX2_findRound_91 (by decide) rfl (by decide +kernel) (Int.not_lt.mp h_53) ?_
                exact absurd h_49 (fun q => h_53 q.2)
            · refine z_if_lt_t (M := M_X2_findRound) (tgt := 99) dX2_findRound_81 (by decide) rfl (Int.not_le.mp h_52) ?_
              exact absurd h_49 (fun q => h_52 q.1)
          · have J_51 : YY l E M_X2_findRound 5 0 0 (pS (some (zv r)) σ') 99 [some (vr 238), some (vi from_0), some (vi to_0), some (vi i_6), some (vi x_31)] [] σ_40 0 0 := by
              exact J_58 _ (Option.some.inj H).symm
            refine z_iload (M := M_X2_findRound) dX2_findRound_79 rfl ?_
            by_cases h_54 : 0 ≤ (w32 x_31)
            · refine z_if_lt_f (M := M_X2_findRound) (tgt := 99) dX2_findRound_81 (by decide) rfl h_54 ?_
              refine z_aload_n (M := M_X2_findRound) dX2_findRound_84 rfl ?_
              refine z_getI (M := M_X2_findRound) (ci := 5) (C := RX2) (T := TX2) (Nf := 17) (ty := tyX2) cl5 dX2_findRound_85 ly_238 12 (by decide) t_497 rfl rfl ?_
              refine z_sipush (M := M_X2_findRound) dX2_findRound_88 (by decide +kernel) ?_
              by_cases h_55 : (w32 (σ_40 kP_roundSize 0)) < 514
              · refine z_icmp_ge_f (M := M_X2_findRound) (tgt := 99) dX2_findRound_91 (by decide) rfl (by decide +kernel) h_55 ?_
                exact absurd ⟨h_54, h_55⟩ h_49
              · refine z_icmp_ge_t (M := M_X2_findRound) (tgt := 99) dX2_findRound_91 (by decide) rfl (by decide +kernel) (Int.not_lt.mp h_55) ?_
                exact J_51
            · refine z_if_lt_t (M := M_X2_findRound) (tgt := 99) dX2_findRound_81 (by decide) rfl (Int.not_le.mp h_54) ?_
              exact J_51
        have H := he_32
        refine z_iload (M := M_X2_findRound) dX2_findRound_69 rfl ?_
        rcases if_e H with ⟨h_36, H⟩ | ⟨h_36, H⟩
        · refine z_if_le_f (M := M_X2_findRound) (tgt := 79) dX2_findRound_71 (by decide) rfl h_36 ?_
          refine z_aload_n (M := M_X2_findRound) dX2_findRound_74 rfl ?_
          refine z_iconst (M := M_X2_findRound) dX2_findRound_75 ?_
          obtain ⟨σ_37, σ_37_e, H⟩ := wf_e H
          refine z_putI (M := M_X2_findRound) (ci := 5) (C := RX2) (T := TX2) (Nf := 17) (ty := tyX2) cl5 dX2_findRound_76 ly_238 12 (by decide) t_497 rfl rfl rfl rfl σ_37_e ?_
          exact J_59 _ (Option.some.inj H).symm
        · refine z_if_le_t (M := M_X2_findRound) (tgt := 79) dX2_findRound_71 (by decide) rfl (Int.not_lt.mp h_36) ?_
          exact J_59 _ (Option.some.inj H).symm
      have H := he_61
      refine z_aload_n (M := M_X2_findRound) dX2_findRound_42 rfl ?_
      refine z_getI (M := M_X2_findRound) (ci := 5) (C := RX2) (T := TX2) (Nf := 17) (ty := tyX2) cl5 dX2_findRound_43 ly_238 12 (by decide) t_497 rfl rfl ?_
      refine z_iconst (M := M_X2_findRound) dX2_findRound_46 ?_
      rcases if_e H with ⟨h_24, H⟩ | ⟨h_24, H⟩
      · refine z_icmp_ne_f (M := M_X2_findRound) (tgt := 54) dX2_findRound_47 (by decide) rfl (by decide +kernel) h_24 ?_
        refine z_iconst (M := M_X2_findRound) dX2_findRound_50 ?_
        refine z_goto (M := M_X2_findRound) (tgt := 67) dX2_findRound_51 (by decide) ?_
        exact J_63 _ (Option.some.inj H).symm
      · refine z_icmp_ne_t (M := M_X2_findRound) (tgt := 54) dX2_findRound_47 (by decide) rfl (by decide +kernel) h_24 ?_
        refine z_aload_n (M := M_X2_findRound) dX2_findRound_54 rfl ?_
        refine z_iload_n (M := M_X2_findRound) dX2_findRound_55 rfl ?_
        refine z_iload_n (M := M_X2_findRound) dX2_findRound_56 rfl ?_
        refine z_aload_n (M := M_X2_findRound) dX2_findRound_57 rfl ?_
        refine z_getR (M := M_X2_findRound) (ci := 5) (C := RX2) (T := TX2) (Nf := 17) (ty := tyX2) cl5 dX2_findRound_58 ly_238 11 (by decide) t_496 rfl ?_
        refine z_iconst (M := M_X2_findRound) dX2_findRound_61 ?_
        obtain ⟨x_26, x_26_e, hi_27, H⟩ := rd_e H
        refine z_iald (M := M_X2_findRound) dX2_findRound_62 ly_248 rfl (by decide +kernel) rfl hi_27 x_26_e ?_
        refine z_iload_n (M := M_X2_findRound) dX2_findRound_63 rfl ?_
        obtain ⟨x_29, hc_28, H⟩ := bd_e H
        refine z_callV (M := M_X2_findRound) (M' := M_X2_circleSign) (as := [vi from_0, vi to_0, vi x_26, vi i_6]) (rest := []) rfl rfl dX2_findRound_64 m_X2_circleSign t_2157 t_2159 s_138 (c_X2_circleSign hl  hc_28) rfl rfl ly_238 rfl (Nat.le_of_ble_eq_true rfl) (Nat.le_of_ble_eq_true rfl) (Nat.le_of_ble_eq_true rfl) (Nat.le_of_ble_eq_true rfl) ?_
        refine z_st (st' := [vi x_29]) rfl ?_
        exact J_63 _ (Option.some.inj H).symm
  · refine z_icmp_ge_t (M := M_X2_findRound) (tgt := 105) dX2_findRound_26 (by decide) rfl rfl (Int.not_lt.mp h_15) ?_
    exact J_69 _ _ (K_14 _ (Option.some.inj H).symm).symm
theorem c_X2_firstNeighbour (hl : l.stackTraces = false) {σ : SG} {r : Int}  (H : fP_firstNeighbour σ = some r) : en_S l E M_X2_firstNeighbour 4 0 0 [vr 238] σ (pS (some (vi r)) σ) := by
  unfold fP_firstNeighbour at H
  refine z_mk (lv := [some (vr 238), none, none]) m_X2_firstNeighbour rfl hl (Nat.le_of_ble_eq_true rfl) rfl ?_
  refine z_iconst (M := M_X2_firstNeighbour) dX2_firstNeighbour_0 ?_
  refine z_istore_n (M := M_X2_firstNeighbour) (lv' := [some (vr 238), some (vi 1), none]) dX2_firstNeighbour_1 (Nat.le_of_ble_eq_true rfl) rfl rfl ?_
  refine z_iconst (M := M_X2_firstNeighbour) dX2_firstNeighbour_2 ?_
  refine z_istore_n (M := M_X2_firstNeighbour) (lv' := [some (vr 238), some (vi 1), some (vi 2)]) dX2_firstNeighbour_3 (Nat.le_of_ble_eq_true rfl) rfl rfl ?_
  obtain ⟨rl_6, hw_3, hk_4⟩ := bd_e H
  have J_26 : ∀ best_24 i_25, rl_6 = (best_24, i_25) → YY l E M_X2_firstNeighbour 4 0 0 (pS (some (vi r)) σ) 30 [some (vr 238), some (vi best_24), some (vi i_25)] [] σ 0 0 := by
    intro best_24 i_25 e
    have H := hk_4
    rw [e] at H
    refine z_iload_n (M := M_X2_firstNeighbour) dX2_firstNeighbour_30 rfl ?_
    cases H
    exact z_iret (M := M_X2_firstNeighbour) dX2_firstNeighbour_31 rfl (Nat.le_of_ble_eq_true rfl) (Nat.le_of_ble_eq_true rfl) ⟨rfl, rfl⟩
  refine whl_go hw_3 (fun (best_1, i_2) => YY l E M_X2_firstNeighbour 4 0 0 (pS (some (vi r)) σ) 4 [some (vr 238), some (vi best_1), some (vi i_2)] [] σ 0 0) ?_
  rintro ⟨best_1, i_2⟩ o_7 H K_8 K_9
  refine z_iload_n (M := M_X2_firstNeighbour) dX2_firstNeighbour_4 rfl ?_
  refine z_aload_n (M := M_X2_firstNeighbour) dX2_firstNeighbour_5 rfl ?_
  refine z_getI (M := M_X2_firstNeighbour) (ci := 5) (C := RX2) (T := TX2) (Nf := 17) (ty := tyX2) cl5 dX2_firstNeighbour_6 ly_238 3 (by decide) t_488 rfl rfl ?_
  rcases if_e H with ⟨h_10, H⟩ | ⟨h_10, H⟩
  · refine z_icmp_ge_f (M := M_X2_firstNeighbour) (tgt := 30) dX2_firstNeighbour_9 (by decide) rfl rfl h_10 ?_
    obtain ⟨v_14, he_11, hk_12⟩ := bd_e H
    have J_22 : ∀ best_20, v_14 = best_20 → YY l E M_X2_firstNeighbour 4 0 0 (pS (some (vi r)) σ) 24 [some (vr 238), some (vi best_20), some (vi i_2)] [] σ 0 0 := by
      intro best_20 e
      have H := hk_12
      rw [e] at H
      refine z_iinc (M := M_X2_firstNeighbour) (lv' := [some (vr 238), some (vi best_20), some (vi (i_2 + 1))]) dX2_firstNeighbour_24 rfl (Nat.le_of_ble_eq_true rfl) rfl rfl ?_
      refine z_goto (M := M_X2_firstNeighbour) (tgt := 4) dX2_firstNeighbour_27 (by decide) ?_
      exact K_8 _ (Option.some.inj H).symm
    have H := he_11
    refine z_aload_n (M := M_X2_firstNeighbour) dX2_firstNeighbour_12 rfl ?_
    refine z_iconst (M := M_X2_firstNeighbour) dX2_firstNeighbour_13 ?_
    refine z_iload_n (M := M_X2_firstNeighbour) dX2_firstNeighbour_14 rfl ?_
    refine z_iload_n (M := M_X2_firstNeighbour) dX2_firstNeighbour_15 rfl ?_
    obtain ⟨x_16, hc_15, H⟩ := bd_e H
    refine z_callV (M := M_X2_firstNeighbour) (M' := M_X2_turnAt) (as := [vi 0, vi best_1, vi i_2]) (rest := []) rfl rfl dX2_firstNeighbour_16 m_X2_turnAt t_2113 t_2115 s_132 (c_X2_turnAt hl  hc_15) rfl rfl ly_238 rfl (Nat.le_of_ble_eq_true rfl) (Nat.le_of_ble_eq_true rfl) (Nat.le_of_ble_eq_true rfl) (Nat.le_of_ble_eq_true rfl) ?_
    refine z_st (st' := [vi x_16]) rfl ?_
    rcases if_e H with ⟨h_17, H⟩ | ⟨h_17, H⟩
    · refine z_if_ge_f (M := M_X2_firstNeighbour) (tgt := 24) dX2_firstNeighbour_19 (by decide) rfl h_17 ?_
      refine z_iload_n (M := M_X2_firstNeighbour) dX2_firstNeighbour_22 rfl ?_
      refine z_istore_n (M := M_X2_firstNeighbour) (lv' := [some (vr 238), some (vi i_2), some (vi i_2)]) dX2_firstNeighbour_23 (Nat.le_of_ble_eq_true rfl) rfl rfl ?_
      exact J_22 _ (Option.some.inj H).symm
    · refine z_if_ge_t (M := M_X2_firstNeighbour) (tgt := 24) dX2_firstNeighbour_19 (by decide) rfl (Int.not_lt.mp h_17) ?_
      exact J_22 _ (Option.some.inj H).symm
  · refine z_icmp_ge_t (M := M_X2_firstNeighbour) (tgt := 30) dX2_firstNeighbour_9 (by decide) rfl rfl (Int.not_lt.mp h_10) ?_
    exact J_26 _ _ (K_9 _ (Option.some.inj H).symm).symm
theorem c_X2_isTold (hl : l.stackTraces = false) {σ : SG} {from_0 : Int} {to_0 : Int} {r : Bool}  (H : fP_isTold σ from_0 to_0 = some r) : en_S l E M_X2_isTold 1 0 0 [vr 238, vi from_0, vi to_0] σ (pS (some (zv r)) σ) := by
  unfold fP_isTold at H
  refine z_mk (lv := [some (vr 238), some (vi from_0), some (vi to_0), none]) m_X2_isTold rfl hl (Nat.le_of_ble_eq_true rfl) rfl ?_
  refine z_iload_n (M := M_X2_isTold) dX2_isTold_0 rfl ?_
  refine z_aload_n (M := M_X2_isTold) dX2_isTold_1 rfl ?_
  refine z_getI (M := M_X2_isTold) (ci := 5) (C := RX2) (T := TX2) (Nf := 17) (ty := tyX2) cl5 dX2_isTold_2 ly_238 3 (by decide) t_488 rfl rfl ?_
  refine z_imul (M := M_X2_isTold) dX2_isTold_5 ?_
  refine z_iload_n (M := M_X2_isTold) dX2_isTold_6 rfl ?_
  refine z_iadd (M := M_X2_isTold) dX2_isTold_7 ?_
  refine z_istore_n (M := M_X2_isTold) (lv' := [some (vr 238), some (vi from_0), some (vi to_0), some (vi ((from_0 * (σ kP_places 0)) + to_0))]) dX2_isTold_8 (Nat.le_of_ble_eq_true rfl) rfl rfl ?_
  obtain ⟨v_7, he_8, hk_9⟩ := bd_e H
  have J_10 : ∀ x_6, v_7 = x_6 → YY l E M_X2_isTold 1 0 0 (pS (some (zv r)) σ) 35 [some (vr 238), some (vi from_0), some (vi to_0), some (vi ((from_0 * (σ kP_places 0)) + to_0))] [zv x_6] σ 0 0 := by
    intro x_6 e
    have H := hk_9
    rw [e] at H
    cases H
    exact z_zret (M := M_X2_isTold) dX2_isTold_35 rfl (Nat.le_of_ble_eq_true rfl) (Nat.le_of_ble_eq_true rfl) ⟨rfl, rfl⟩
  have H := he_8
  refine z_aload_n (M := M_X2_isTold) dX2_isTold_9 rfl ?_
  refine z_getR (M := M_X2_isTold) (ci := 5) (C := RX2) (T := TX2) (Nf := 17) (ty := tyX2) cl5 dX2_isTold_10 ly_238 7 (by decide) t_492 rfl ?_
  refine z_iload_n (M := M_X2_isTold) dX2_isTold_13 rfl ?_
  refine z_bipush (M := M_X2_isTold) dX2_isTold_14 (by decide +kernel) ?_
  refine z_ishr (M := M_X2_isTold) dX2_isTold_16 ?_
  obtain ⟨x_1, x_1_e, hi_2, H⟩ := rd_e H
  refine z_lald (M := M_X2_isTold) dX2_isTold_17 ly_245 rfl rfl rfl hi_2 x_1_e ?_
  refine z_iload_n (M := M_X2_isTold) dX2_isTold_18 rfl ?_
  refine z_bipush (M := M_X2_isTold) dX2_isTold_19 (by decide +kernel) ?_
  refine z_iand (M := M_X2_isTold) dX2_isTold_21 ?_
  refine z_lshr (M := M_X2_isTold) dX2_isTold_22 ?_
  refine z_lconst (M := M_X2_isTold) (m := 1) dX2_isTold_23 (by decide +kernel) ?_
  refine z_land (M := M_X2_isTold) dX2_isTold_24 ?_
  refine z_lconst (M := M_X2_isTold) (m := 0) dX2_isTold_25 (by decide +kernel) ?_
  refine z_lcmp (M := M_X2_isTold) dX2_isTold_26 ?_
  rcases if_e H with ⟨h_3, H⟩ | ⟨h_3, H⟩
  · refine z_lif_eq_f (M := M_X2_isTold) (tgt := 34) dX2_isTold_27 (by decide) rfl (by decide +kernel) h_3 ?_
    refine z_zconst (M := M_X2_isTold) (b := true) dX2_isTold_30 rfl ?_
    refine z_goto (M := M_X2_isTold) (tgt := 35) dX2_isTold_31 (by decide) ?_
    exact J_10 _ (Option.some.inj H).symm
  · refine z_lif_eq_t (M := M_X2_isTold) (tgt := 34) dX2_isTold_27 (by decide) rfl (by decide +kernel) (Decidable.not_not.mp h_3) ?_
    refine z_zconst (M := M_X2_isTold) (b := false) dX2_isTold_34 rfl ?_
    exact J_10 _ (Option.some.inj H).symm
theorem c_X2_pushWay (hl : l.stackTraces = false) {σ : SG} {from_0 : Int} {to_0 : Int} {σ' : SG}  (H : fP_pushWay σ from_0 to_0 = some σ') : en_S l E M_X2_pushWay 2 0 0 [vr 238, vi from_0, vi to_0] σ (pS (none) σ') := by
  unfold fP_pushWay at H
  refine z_mk (lv := [some (vr 238), some (vi from_0), some (vi to_0)]) m_X2_pushWay rfl hl (Nat.le_of_ble_eq_true rfl) rfl ?_
  obtain ⟨v_4, he_1, hk_2⟩ := bd_e H
  have J_26 : ∀ σ_25, v_4 = σ_25 → YY l E M_X2_pushWay 2 0 0 (pS (none) σ') 51 [some (vr 238), some (vi from_0), some (vi to_0)] [] σ_25 0 0 := by
    intro σ_25 e
    have H := hk_2
    rw [e] at H
    cases H
    exact z_vret (M := M_X2_pushWay) dX2_pushWay_51 rfl (Nat.le_of_ble_eq_true rfl) (Nat.le_of_ble_eq_true rfl) ⟨rfl, rfl⟩
  have H := he_1
  refine z_aload_n (M := M_X2_pushWay) dX2_pushWay_0 rfl ?_
  refine z_getI (M := M_X2_pushWay) (ci := 5) (C := RX2) (T := TX2) (Nf := 17) (ty := tyX2) cl5 dX2_pushWay_1 ly_238 10 (by decide) t_495 rfl rfl ?_
  refine z_aload_n (M := M_X2_pushWay) dX2_pushWay_4 rfl ?_
  refine z_getR (M := M_X2_pushWay) (ci := 5) (C := RX2) (T := TX2) (Nf := 17) (ty := tyX2) cl5 dX2_pushWay_5 ly_238 8 (by decide) t_493 rfl ?_
  refine z_alen (M := M_X2_pushWay) (N := 3084) dX2_pushWay_8 ly_246 (by decide) rfl ?_
  rcases if_e H with ⟨h_13, H⟩ | ⟨h_13, H⟩
  · refine z_icmp_ge_f (M := M_X2_pushWay) (tgt := 51) dX2_pushWay_9 (by decide) rfl (by decide +kernel) h_13 ?_
    refine z_aload_n (M := M_X2_pushWay) dX2_pushWay_12 rfl ?_
    refine z_iload_n (M := M_X2_pushWay) dX2_pushWay_13 rfl ?_
    refine z_iload_n (M := M_X2_pushWay) dX2_pushWay_14 rfl ?_
    obtain ⟨x_15, hc_14, H⟩ := bd_e H
    refine z_callV (M := M_X2_pushWay) (M' := M_X2_isTold) (as := [vi from_0, vi to_0]) (rest := []) rfl rfl dX2_pushWay_15 m_X2_isTold t_2148 t_2150 s_136 (c_X2_isTold hl  hc_14) rfl rfl ly_238 rfl (Nat.le_of_ble_eq_true rfl) (Nat.le_of_ble_eq_true rfl) (Nat.le_of_ble_eq_true rfl) (Nat.le_of_ble_eq_true rfl) ?_
    refine z_st (st' := [zv x_15]) rfl ?_
    rcases if_e H with ⟨h_16, H⟩ | ⟨h_16, H⟩
    · refine z_zne_t (M := M_X2_pushWay) (tgt := 51) dX2_pushWay_18 (by decide) h_16 ?_
      exact J_26 _ (Option.some.inj H).symm
    · refine z_zne_f (M := M_X2_pushWay) (tgt := 51) dX2_pushWay_18 (by decide) h_16 ?_
      refine z_aload_n (M := M_X2_pushWay) dX2_pushWay_21 rfl ?_
      refine z_getR (M := M_X2_pushWay) (ci := 5) (C := RX2) (T := TX2) (Nf := 17) (ty := tyX2) cl5 dX2_pushWay_22 ly_238 8 (by decide) t_493 rfl ?_
      refine z_aload_n (M := M_X2_pushWay) dX2_pushWay_25 rfl ?_
      refine z_getI (M := M_X2_pushWay) (ci := 5) (C := RX2) (T := TX2) (Nf := 17) (ty := tyX2) cl5 dX2_pushWay_26 ly_238 10 (by decide) t_495 rfl rfl ?_
      refine z_iload_n (M := M_X2_pushWay) dX2_pushWay_29 rfl ?_
      obtain ⟨σ_18, σ_18_e, hi_19, H⟩ := wa_e H
      refine z_iast (M := M_X2_pushWay) dX2_pushWay_30 ly_246 rfl rfl rfl hi_19 σ_18_e ?_
      refine z_aload_n (M := M_X2_pushWay) dX2_pushWay_31 rfl ?_
      refine z_getR (M := M_X2_pushWay) (ci := 5) (C := RX2) (T := TX2) (Nf := 17) (ty := tyX2) cl5 dX2_pushWay_32 ly_238 9 (by decide) t_494 rfl ?_
      refine z_aload_n (M := M_X2_pushWay) dX2_pushWay_35 rfl ?_
      refine z_getI (M := M_X2_pushWay) (ci := 5) (C := RX2) (T := TX2) (Nf := 17) (ty := tyX2) cl5 dX2_pushWay_36 ly_238 10 (by decide) t_495 rfl rfl ?_
      refine z_iload_n (M := M_X2_pushWay) dX2_pushWay_39 rfl ?_
      obtain ⟨σ_20, σ_20_e, hi_21, H⟩ := wa_e H
      refine z_iast (M := M_X2_pushWay) dX2_pushWay_40 ly_247 rfl rfl rfl hi_21 σ_20_e ?_
      refine z_aload_n (M := M_X2_pushWay) dX2_pushWay_41 rfl ?_
      refine z_dup (M := M_X2_pushWay) dX2_pushWay_42 rfl ?_
      refine z_getI (M := M_X2_pushWay) (ci := 5) (C := RX2) (T := TX2) (Nf := 17) (ty := tyX2) cl5 dX2_pushWay_43 ly_238 10 (by decide) t_495 rfl rfl ?_
      refine z_iconst (M := M_X2_pushWay) dX2_pushWay_46 ?_
      refine z_iadd (M := M_X2_pushWay) dX2_pushWay_47 ?_
      obtain ⟨σ_22, σ_22_e, H⟩ := wf_e H
      refine z_putI (M := M_X2_pushWay) (ci := 5) (C := RX2) (T := TX2) (Nf := 17) (ty := tyX2) cl5 dX2_pushWay_48 ly_238 10 (by decide) t_495 rfl rfl rfl rfl σ_22_e ?_
      exact J_26 _ (Option.some.inj H).symm
  · refine z_icmp_ge_t (M := M_X2_pushWay) (tgt := 51) dX2_pushWay_9 (by decide) rfl (by decide +kernel) (Int.not_lt.mp h_13) ?_
    exact J_26 _ (Option.some.inj H).symm
theorem c_X2_setTold (hl : l.stackTraces = false) {σ : SG} {from_0 : Int} {to_0 : Int} {σ' : SG}  (H : fP_setTold σ from_0 to_0 = some σ') : en_S l E M_X2_setTold 1 0 0 [vr 238, vi from_0, vi to_0] σ (pS (none) σ') := by
  unfold fP_setTold at H
  refine z_mk (lv := [some (vr 238), some (vi from_0), some (vi to_0), none]) m_X2_setTold rfl hl (Nat.le_of_ble_eq_true rfl) rfl ?_
  refine z_iload_n (M := M_X2_setTold) dX2_setTold_0 rfl ?_
  refine z_aload_n (M := M_X2_setTold) dX2_setTold_1 rfl ?_
  refine z_getI (M := M_X2_setTold) (ci := 5) (C := RX2) (T := TX2) (Nf := 17) (ty := tyX2) cl5 dX2_setTold_2 ly_238 3 (by decide) t_488 rfl rfl ?_
  refine z_imul (M := M_X2_setTold) dX2_setTold_5 ?_
  refine z_iload_n (M := M_X2_setTold) dX2_setTold_6 rfl ?_
  refine z_iadd (M := M_X2_setTold) dX2_setTold_7 ?_
  refine z_istore_n (M := M_X2_setTold) (lv' := [some (vr 238), some (vi from_0), some (vi to_0), some (vi ((from_0 * (σ kP_places 0)) + to_0))]) dX2_setTold_8 (Nat.le_of_ble_eq_true rfl) rfl rfl ?_
  refine z_aload_n (M := M_X2_setTold) dX2_setTold_9 rfl ?_
  refine z_getR (M := M_X2_setTold) (ci := 5) (C := RX2) (T := TX2) (Nf := 17) (ty := tyX2) cl5 dX2_setTold_10 ly_238 7 (by decide) t_492 rfl ?_
  refine z_iload_n (M := M_X2_setTold) dX2_setTold_13 rfl ?_
  refine z_bipush (M := M_X2_setTold) dX2_setTold_14 (by decide +kernel) ?_
  refine z_ishr (M := M_X2_setTold) dX2_setTold_16 ?_
  refine z_dup2 (M := M_X2_setTold) dX2_setTold_17 rfl rfl ?_
  obtain ⟨x_1, x_1_e, hi_2, H⟩ := rd_e H
  refine z_lald (M := M_X2_setTold) dX2_setTold_18 ly_245 rfl rfl rfl hi_2 x_1_e ?_
  refine z_lconst (M := M_X2_setTold) (m := 1) dX2_setTold_19 (by decide +kernel) ?_
  refine z_iload_n (M := M_X2_setTold) dX2_setTold_20 rfl ?_
  refine z_bipush (M := M_X2_setTold) dX2_setTold_21 (by decide +kernel) ?_
  refine z_iand (M := M_X2_setTold) dX2_setTold_23 ?_
  refine z_lshl (M := M_X2_setTold) dX2_setTold_24 ?_
  refine z_lor (M := M_X2_setTold) dX2_setTold_25 ?_
  obtain ⟨σ_3, σ_3_e, hi_4, H⟩ := wa_e H
  refine z_last (M := M_X2_setTold) dX2_setTold_26 ly_245 rfl rfl rfl hi_4 σ_3_e ?_
  cases H
  exact z_vret (M := M_X2_setTold) dX2_setTold_27 rfl (Nat.le_of_ble_eq_true rfl) (Nat.le_of_ble_eq_true rfl) ⟨rfl, rfl⟩
theorem c_X2_triangleKeyFrom (hl : l.stackTraces = false) {σ : SG} {first_0 : Int} {second_0 : Int} {third_0 : Int} {r : Int}  (H : fP_triangleKeyFrom first_0 second_0 third_0 = r) : en_S l E M_X2_triangleKeyFrom 1 0 0 [vl first_0, vl second_0, vl third_0] σ (pS (some (vl r)) σ) := by
  unfold fP_triangleKeyFrom at H
  refine z_mk (lv := [some (vl first_0), none, some (vl second_0), none, some (vl third_0), none]) m_X2_triangleKeyFrom rfl hl (Nat.le_of_ble_eq_true rfl) rfl ?_
  refine z_lload_n (M := M_X2_triangleKeyFrom) dX2_triangleKeyFrom_0 rfl ?_
  refine z_bipush (M := M_X2_triangleKeyFrom) dX2_triangleKeyFrom_1 (by decide +kernel) ?_
  refine z_lshl (M := M_X2_triangleKeyFrom) dX2_triangleKeyFrom_3 ?_
  refine z_lload_n (M := M_X2_triangleKeyFrom) dX2_triangleKeyFrom_4 rfl ?_
  refine z_lor (M := M_X2_triangleKeyFrom) dX2_triangleKeyFrom_5 ?_
  refine z_bipush (M := M_X2_triangleKeyFrom) dX2_triangleKeyFrom_6 (by decide +kernel) ?_
  refine z_lshl (M := M_X2_triangleKeyFrom) dX2_triangleKeyFrom_8 ?_
  refine z_lload (M := M_X2_triangleKeyFrom) dX2_triangleKeyFrom_9 rfl ?_
  refine z_lor (M := M_X2_triangleKeyFrom) dX2_triangleKeyFrom_11 ?_
  cases H
  exact z_lret (M := M_X2_triangleKeyFrom) dX2_triangleKeyFrom_12 rfl (Nat.le_of_ble_eq_true rfl) (Nat.le_of_ble_eq_true rfl) ⟨rfl, rfl⟩
theorem c_X2_triangleKey (hl : l.stackTraces = false) {σ : SG} {a_0 : Int} {b_0 : Int} {c_0 : Int} {r : Int}  (H : fP_triangleKey a_0 b_0 c_0 = r) : en_S l E M_X2_triangleKey 2 0 0 [vl a_0, vl b_0, vl c_0] σ (pS (some (vl r)) σ) := by
  unfold fP_triangleKey at H
  refine z_mk (lv := [some (vl a_0), none, some (vl b_0), none, some (vl c_0), none]) m_X2_triangleKey rfl hl (Nat.le_of_ble_eq_true rfl) rfl ?_
  rcases if_e H with ⟨h_4, H⟩ | ⟨h_4, H⟩
  · have J_5 : YY l E M_X2_triangleKey 2 0 0 (pS (some (vl r)) σ) 13 [some (vl a_0), none, some (vl b_0), none, some (vl c_0), none] [] σ 0 0 := by
      refine z_lload_n (M := M_X2_triangleKey) dX2_triangleKey_13 rfl ?_
      refine z_lload (M := M_X2_triangleKey) dX2_triangleKey_14 rfl ?_
      refine z_lload_n (M := M_X2_triangleKey) dX2_triangleKey_16 rfl ?_
      refine z_callS (M := M_X2_triangleKey) (M' := M_X2_triangleKeyFrom) (as := [vl b_0, vl c_0, vl a_0]) (rest := []) rfl rfl dX2_triangleKey_17 m_X2_triangleKeyFrom t_2177 t_2178 (c_X2_triangleKeyFrom hl  rfl) rfl rfl (Nat.le_of_ble_eq_true rfl) (Nat.le_of_ble_eq_true rfl) (Nat.le_of_ble_eq_true rfl) (Nat.le_of_ble_eq_true rfl) ?_
      refine z_st (st' := [vl (fP_triangleKeyFrom b_0 c_0 a_0)]) rfl ?_
      cases H
      exact z_lret (M := M_X2_triangleKey) dX2_triangleKey_20 rfl (Nat.le_of_ble_eq_true rfl) (Nat.le_of_ble_eq_true rfl) ⟨rfl, rfl⟩
    refine z_lload_n (M := M_X2_triangleKey) dX2_triangleKey_0 rfl ?_
    refine z_lload_n (M := M_X2_triangleKey) dX2_triangleKey_1 rfl ?_
    refine z_lcmp (M := M_X2_triangleKey) dX2_triangleKey_2 ?_
    by_cases h_7 : (w64 b_0) < (w64 a_0)
    · refine z_lif_ge_f (M := M_X2_triangleKey) (tgt := 21) dX2_triangleKey_3 (by decide) rfl rfl h_7 ?_
      refine z_lload_n (M := M_X2_triangleKey) dX2_triangleKey_6 rfl ?_
      refine z_lload (M := M_X2_triangleKey) dX2_triangleKey_7 rfl ?_
      refine z_lcmp (M := M_X2_triangleKey) dX2_triangleKey_9 ?_
      by_cases h_8 : (w64 b_0) < (w64 c_0)
      · refine z_lif_ge_f (M := M_X2_triangleKey) (tgt := 21) dX2_triangleKey_10 (by decide) rfl rfl h_8 ?_
        exact J_5
      · refine z_lif_ge_t (M := M_X2_triangleKey) (tgt := 21) dX2_triangleKey_10 (by decide) rfl rfl (Int.not_lt.mp h_8) ?_
        exact absurd h_4 (fun q => h_8 q.2)
    · refine z_lif_ge_t (M := M_X2_triangleKey) (tgt := 21) dX2_triangleKey_3 (by decide) rfl rfl (Int.not_lt.mp h_7) ?_
      exact absurd h_4 (fun q => h_7 q.1)
  · have J_6 : YY l E M_X2_triangleKey 2 0 0 (pS (some (vl r)) σ) 21 [some (vl a_0), none, some (vl b_0), none, some (vl c_0), none] [] σ 0 0 := by
      have J_1 : YY l E M_X2_triangleKey 2 0 0 (pS (some (vl r)) σ) 52 [some (vl a_0), none, some (vl b_0), none, some (vl c_0), none] [vl (if ((w64 c_0) < (w64 a_0)) ∧ ((w64 c_0) < (w64 b_0)) then (fP_triangleKeyFrom c_0 a_0 b_0) else (fP_triangleKeyFrom a_0 b_0 c_0))] σ 0 0 := by
        cases H
        exact z_lret (M := M_X2_triangleKey) dX2_triangleKey_52 rfl (Nat.le_of_ble_eq_true rfl) (Nat.le_of_ble_eq_true rfl) ⟨rfl, rfl⟩
      refine z_lload (M := M_X2_triangleKey) dX2_triangleKey_21 rfl ?_
      refine z_lload_n (M := M_X2_triangleKey) dX2_triangleKey_23 rfl ?_
      refine z_lcmp (M := M_X2_triangleKey) dX2_triangleKey_24 ?_
      by_cases h_2 : (w64 c_0) < (w64 a_0)
      · refine z_lif_ge_f (M := M_X2_triangleKey) (tgt := 45) dX2_triangleKey_25 (by decide) rfl rfl h_2 ?_
        refine z_lload (M := M_X2_triangleKey) dX2_triangleKey_28 rfl ?_
        refine z_lload_n (M := M_X2_triangleKey) dX2_triangleKey_30 rfl ?_
        refine z_lcmp (M := M_X2_triangleKey) dX2_triangleKey_31 ?_
        by_cases h_3 : (w64 c_0) < (w64 b_0)
        · refine z_lif_ge_f (M := M_X2_triangleKey) (tgt := 45) dX2_triangleKey_32 (by decide) rfl rfl h_3 ?_
          refine z_lload (M := M_X2_triangleKey) dX2_triangleKey_35 rfl ?_
          refine z_lload_n (M := M_X2_triangleKey) dX2_triangleKey_37 rfl ?_
          refine z_lload_n (M := M_X2_triangleKey) dX2_triangleKey_38 rfl ?_
          refine z_callS (M := M_X2_triangleKey) (M' := M_X2_triangleKeyFrom) (as := [vl c_0, vl a_0, vl b_0]) (rest := []) rfl rfl dX2_triangleKey_39 m_X2_triangleKeyFrom t_2177 t_2178 (c_X2_triangleKeyFrom hl  rfl) rfl rfl (Nat.le_of_ble_eq_true rfl) (Nat.le_of_ble_eq_true rfl) (Nat.le_of_ble_eq_true rfl) (Nat.le_of_ble_eq_true rfl) ?_
          refine z_st (st' := [vl (fP_triangleKeyFrom c_0 a_0 b_0)]) rfl ?_
          refine z_goto (M := M_X2_triangleKey) (tgt := 52) dX2_triangleKey_42 (by decide) ?_
          exact z_st (by rw [if_pos (c := ((w64 c_0) < (w64 a_0)) ∧ ((w64 c_0) < (w64 b_0))) ⟨h_2, h_3⟩]) J_1
        · refine z_lif_ge_t (M := M_X2_triangleKey) (tgt := 45) dX2_triangleKey_32 (by decide) rfl rfl (Int.not_lt.mp h_3) ?_
          refine z_lload_n (M := M_X2_triangleKey) dX2_triangleKey_45 rfl ?_
          refine z_lload_n (M := M_X2_triangleKey) dX2_triangleKey_46 rfl ?_
          refine z_lload (M := M_X2_triangleKey) dX2_triangleKey_47 rfl ?_
          refine z_callS (M := M_X2_triangleKey) (M' := M_X2_triangleKeyFrom) (as := [vl a_0, vl b_0, vl c_0]) (rest := []) rfl rfl dX2_triangleKey_49 m_X2_triangleKeyFrom t_2177 t_2178 (c_X2_triangleKeyFrom hl  rfl) rfl rfl (Nat.le_of_ble_eq_true rfl) (Nat.le_of_ble_eq_true rfl) (Nat.le_of_ble_eq_true rfl) (Nat.le_of_ble_eq_true rfl) ?_
          refine z_st (st' := [vl (fP_triangleKeyFrom a_0 b_0 c_0)]) rfl ?_
          exact z_st (by rw [if_neg (c := ((w64 c_0) < (w64 a_0)) ∧ ((w64 c_0) < (w64 b_0))) (fun q => h_3 q.2)]) J_1
      · refine z_lif_ge_t (M := M_X2_triangleKey) (tgt := 45) dX2_triangleKey_25 (by decide) rfl rfl (Int.not_lt.mp h_2) ?_
        refine z_lload_n (M := M_X2_triangleKey) dX2_triangleKey_45 rfl ?_
        refine z_lload_n (M := M_X2_triangleKey) dX2_triangleKey_46 rfl ?_
        refine z_lload (M := M_X2_triangleKey) dX2_triangleKey_47 rfl ?_
        refine z_callS (M := M_X2_triangleKey) (M' := M_X2_triangleKeyFrom) (as := [vl a_0, vl b_0, vl c_0]) (rest := []) rfl rfl dX2_triangleKey_49 m_X2_triangleKeyFrom t_2177 t_2178 (c_X2_triangleKeyFrom hl  rfl) rfl rfl (Nat.le_of_ble_eq_true rfl) (Nat.le_of_ble_eq_true rfl) (Nat.le_of_ble_eq_true rfl) (Nat.le_of_ble_eq_true rfl) ?_
        refine z_st (st' := [vl (fP_triangleKeyFrom a_0 b_0 c_0)]) rfl ?_
        exact z_st (by rw [if_neg (c := ((w64 c_0) < (w64 a_0)) ∧ ((w64 c_0) < (w64 b_0))) (fun q => h_2 q.1)]) J_1
    refine z_lload_n (M := M_X2_triangleKey) dX2_triangleKey_0 rfl ?_
    refine z_lload_n (M := M_X2_triangleKey) dX2_triangleKey_1 rfl ?_
    refine z_lcmp (M := M_X2_triangleKey) dX2_triangleKey_2 ?_
    by_cases h_9 : (w64 b_0) < (w64 a_0)
    · refine z_lif_ge_f (M := M_X2_triangleKey) (tgt := 21) dX2_triangleKey_3 (by decide) rfl rfl h_9 ?_
      refine z_lload_n (M := M_X2_triangleKey) dX2_triangleKey_6 rfl ?_
      refine z_lload (M := M_X2_triangleKey) dX2_triangleKey_7 rfl ?_
      refine z_lcmp (M := M_X2_triangleKey) dX2_triangleKey_9 ?_
      by_cases h_10 : (w64 b_0) < (w64 c_0)
      · refine z_lif_ge_f (M := M_X2_triangleKey) (tgt := 21) dX2_triangleKey_10 (by decide) rfl rfl h_10 ?_
        exact absurd ⟨h_9, h_10⟩ h_4
      · refine z_lif_ge_t (M := M_X2_triangleKey) (tgt := 21) dX2_triangleKey_10 (by decide) rfl rfl (Int.not_lt.mp h_10) ?_
        exact J_6
    · refine z_lif_ge_t (M := M_X2_triangleKey) (tgt := 21) dX2_triangleKey_3 (by decide) rfl rfl (Int.not_lt.mp h_9) ?_
      exact J_6
theorem c_X2_tellRound (hl : l.stackTraces = false) {σ : SG} {r : Bool} {σ' : SG}  (H : fP_tellRound σ = some (r, σ')) : en_S l E M_X2_tellRound 3 0 0 [vr 238] σ (pS (some (zv r)) σ') := by
  unfold fP_tellRound at H
  refine z_mk (lv := [some (vr 238), none, none, none, none]) m_X2_tellRound rfl hl (Nat.le_of_ble_eq_true rfl) rfl ?_
  refine z_iconst (M := M_X2_tellRound) dX2_tellRound_0 ?_
  refine z_istore_n (M := M_X2_tellRound) (lv' := [some (vr 238), some (vi 0), none, none, none]) dX2_tellRound_1 (Nat.le_of_ble_eq_true rfl) rfl rfl ?_
  refine z_iconst (M := M_X2_tellRound) dX2_tellRound_2 ?_
  refine z_istore_n (M := M_X2_tellRound) (lv' := [some (vr 238), some (vi 0), some (vi 0), none, none]) dX2_tellRound_3 (Nat.le_of_ble_eq_true rfl) rfl rfl ?_
  obtain ⟨rl_7, hw_4, hk_5⟩ := bd_e H
  have J_72 : ∀ least_36 k_37 σ_38, rl_7 = (least_36, k_37, σ_38) → YY l E M_X2_tellRound 3 0 0 (pS (some (zv r)) σ') 84 [some (vr 238), some (vi least_36), some (vi k_37), none, none] [] σ_38 0 0 := by
    intro least_36 k_37 σ_38 e
    have H := hk_5
    rw [e] at H
    refine z_iconst (M := M_X2_tellRound) dX2_tellRound_84 ?_
    refine z_istore_n (M := M_X2_tellRound) (lv' := [some (vr 238), some (vi least_36), some (vi 1), none, none]) dX2_tellRound_85 (Nat.le_of_ble_eq_true rfl) rfl rfl ?_
    obtain ⟨rl_44, hw_41, hk_42, hk_43⟩ := bx_e H
    have J_71 : ∀ k_69 σ_70, rl_44 = (.inl (k_69, σ_70)) → YY l E M_X2_tellRound 3 0 0 (pS (some (zv r)) σ') 188 [some (vr 238), some (vi least_36), some (vi k_69), none, none] [] σ_70 0 0 := by
      intro k_69 σ_70 e
      have H := hk_42 _ e
      refine z_zconst (M := M_X2_tellRound) (b := true) dX2_tellRound_188 rfl ?_
      cases H
      exact z_zret (M := M_X2_tellRound) dX2_tellRound_189 rfl (Nat.le_of_ble_eq_true rfl) (Nat.le_of_ble_eq_true rfl) ⟨rfl, rfl⟩
    refine whl_go hw_41 (fun (k_39, σ_40) => YY l E M_X2_tellRound 3 0 0 (pS (some (zv r)) σ') 86 [some (vr 238), some (vi least_36), some (vi k_39), none, none] [] σ_40 0 0) ?_
    rintro ⟨k_39, σ_40⟩ o_45 H K_46 K_47
    refine z_iload_n (M := M_X2_tellRound) dX2_tellRound_86 rfl ?_
    refine z_iconst (M := M_X2_tellRound) dX2_tellRound_87 ?_
    refine z_iadd (M := M_X2_tellRound) dX2_tellRound_88 ?_
    refine z_aload_n (M := M_X2_tellRound) dX2_tellRound_89 rfl ?_
    refine z_getI (M := M_X2_tellRound) (ci := 5) (C := RX2) (T := TX2) (Nf := 17) (ty := tyX2) cl5 dX2_tellRound_90 ly_238 12 (by decide) t_497 rfl rfl ?_
    rcases if_e H with ⟨h_48, H⟩ | ⟨h_48, H⟩
    · refine z_icmp_ge_f (M := M_X2_tellRound) (tgt := 188) dX2_tellRound_93 (by decide) rfl rfl h_48 ?_
      refine z_aload_n (M := M_X2_tellRound) dX2_tellRound_96 rfl ?_
      refine z_getI (M := M_X2_tellRound) (ci := 5) (C := RX2) (T := TX2) (Nf := 17) (ty := tyX2) cl5 dX2_tellRound_97 ly_238 14 (by decide) t_499 rfl rfl ?_
      refine z_sipush (M := M_X2_tellRound) dX2_tellRound_100 (by decide +kernel) ?_
      rcases if_e H with ⟨h_49, H⟩ | ⟨h_49, H⟩
      · refine z_icmp_lt_f (M := M_X2_tellRound) (tgt := 108) dX2_tellRound_103 (by decide) rfl (by decide +kernel) h_49 ?_
        refine z_zconst (M := M_X2_tellRound) (b := false) dX2_tellRound_106 rfl ?_
        have H := congrArg some (hk_43 _ ((K_47 _ (Option.some.inj H).symm).symm))
        cases H
        exact z_zret (M := M_X2_tellRound) dX2_tellRound_107 rfl (Nat.le_of_ble_eq_true rfl) (Nat.le_of_ble_eq_true rfl) ⟨rfl, rfl⟩
      · refine z_icmp_lt_t (M := M_X2_tellRound) (tgt := 108) dX2_tellRound_103 (by decide) rfl (by decide +kernel) (Int.not_le.mp h_49) ?_
        refine z_aload_n (M := M_X2_tellRound) dX2_tellRound_108 rfl ?_
        refine z_getR (M := M_X2_tellRound) (ci := 5) (C := RX2) (T := TX2) (Nf := 17) (ty := tyX2) cl5 dX2_tellRound_109 ly_238 13 (by decide) t_498 rfl ?_
        refine z_aload_n (M := M_X2_tellRound) dX2_tellRound_112 rfl ?_
        refine z_getI (M := M_X2_tellRound) (ci := 5) (C := RX2) (T := TX2) (Nf := 17) (ty := tyX2) cl5 dX2_tellRound_113 ly_238 14 (by decide) t_499 rfl rfl ?_
        refine z_aload_n (M := M_X2_tellRound) dX2_tellRound_116 rfl ?_
        refine z_getR (M := M_X2_tellRound) (ci := 5) (C := RX2) (T := TX2) (Nf := 17) (ty := tyX2) cl5 dX2_tellRound_117 ly_238 4 (by decide) t_489 rfl ?_
        refine z_aload_n (M := M_X2_tellRound) dX2_tellRound_120 rfl ?_
        refine z_getR (M := M_X2_tellRound) (ci := 5) (C := RX2) (T := TX2) (Nf := 17) (ty := tyX2) cl5 dX2_tellRound_121 ly_238 11 (by decide) t_496 rfl ?_
        refine z_iload_n (M := M_X2_tellRound) dX2_tellRound_124 rfl ?_
        obtain ⟨x_50, x_50_e, hi_51, H⟩ := rd_e H
        refine z_iald (M := M_X2_tellRound) dX2_tellRound_125 ly_248 rfl rfl rfl hi_51 x_50_e ?_
        obtain ⟨x_52, x_52_e, hi_53, H⟩ := rd_e H
        refine z_iald (M := M_X2_tellRound) dX2_tellRound_126 ly_242 rfl rfl rfl hi_53 x_52_e ?_
        refine z_i2l (M := M_X2_tellRound) dX2_tellRound_127 ?_
        refine z_aload_n (M := M_X2_tellRound) dX2_tellRound_128 rfl ?_
        refine z_getR (M := M_X2_tellRound) (ci := 5) (C := RX2) (T := TX2) (Nf := 17) (ty := tyX2) cl5 dX2_tellRound_129 ly_238 4 (by decide) t_489 rfl ?_
        refine z_aload_n (M := M_X2_tellRound) dX2_tellRound_132 rfl ?_
        refine z_getR (M := M_X2_tellRound) (ci := 5) (C := RX2) (T := TX2) (Nf := 17) (ty := tyX2) cl5 dX2_tellRound_133 ly_238 11 (by decide) t_496 rfl ?_
        refine z_iload_n (M := M_X2_tellRound) dX2_tellRound_136 rfl ?_
        refine z_iload_n (M := M_X2_tellRound) dX2_tellRound_137 rfl ?_
        refine z_iadd (M := M_X2_tellRound) dX2_tellRound_138 ?_
        refine z_aload_n (M := M_X2_tellRound) dX2_tellRound_139 rfl ?_
        refine z_getI (M := M_X2_tellRound) (ci := 5) (C := RX2) (T := TX2) (Nf := 17) (ty := tyX2) cl5 dX2_tellRound_140 ly_238 12 (by decide) t_497 rfl rfl ?_
        obtain ⟨hd_54, H⟩ := ck_e H
        refine z_irem (M := M_X2_tellRound) dX2_tellRound_143 hd_54 ?_
        obtain ⟨x_55, x_55_e, hi_56, H⟩ := rd_e H
        refine z_iald (M := M_X2_tellRound) dX2_tellRound_144 ly_248 rfl rfl rfl hi_56 x_55_e ?_
        obtain ⟨x_57, x_57_e, hi_58, H⟩ := rd_e H
        refine z_iald (M := M_X2_tellRound) dX2_tellRound_145 ly_242 rfl rfl rfl hi_58 x_57_e ?_
        refine z_i2l (M := M_X2_tellRound) dX2_tellRound_146 ?_
        refine z_aload_n (M := M_X2_tellRound) dX2_tellRound_147 rfl ?_
        refine z_getR (M := M_X2_tellRound) (ci := 5) (C := RX2) (T := TX2) (Nf := 17) (ty := tyX2) cl5 dX2_tellRound_148 ly_238 4 (by decide) t_489 rfl ?_
        refine z_aload_n (M := M_X2_tellRound) dX2_tellRound_151 rfl ?_
        refine z_getR (M := M_X2_tellRound) (ci := 5) (C := RX2) (T := TX2) (Nf := 17) (ty := tyX2) cl5 dX2_tellRound_152 ly_238 11 (by decide) t_496 rfl ?_
        refine z_iload_n (M := M_X2_tellRound) dX2_tellRound_155 rfl ?_
        refine z_iload_n (M := M_X2_tellRound) dX2_tellRound_156 rfl ?_
        refine z_iadd (M := M_X2_tellRound) dX2_tellRound_157 ?_
        refine z_iconst (M := M_X2_tellRound) dX2_tellRound_158 ?_
        refine z_iadd (M := M_X2_tellRound) dX2_tellRound_159 ?_
        refine z_aload_n (M := M_X2_tellRound) dX2_tellRound_160 rfl ?_
        refine z_getI (M := M_X2_tellRound) (ci := 5) (C := RX2) (T := TX2) (Nf := 17) (ty := tyX2) cl5 dX2_tellRound_161 ly_238 12 (by decide) t_497 rfl rfl ?_
        obtain ⟨hd_59, H⟩ := ck_e H
        refine z_irem (M := M_X2_tellRound) dX2_tellRound_164 hd_59 ?_
        obtain ⟨x_60, x_60_e, hi_61, H⟩ := rd_e H
        refine z_iald (M := M_X2_tellRound) dX2_tellRound_165 ly_248 rfl rfl rfl hi_61 x_60_e ?_
        obtain ⟨x_62, x_62_e, hi_63, H⟩ := rd_e H
        refine z_iald (M := M_X2_tellRound) dX2_tellRound_166 ly_242 rfl rfl rfl hi_63 x_62_e ?_
        refine z_i2l (M := M_X2_tellRound) dX2_tellRound_167 ?_
        refine z_callS (M := M_X2_tellRound) (M' := M_X2_triangleKey) (as := [vl (w32 x_52), vl (w32 x_57), vl (w32 x_62)]) (rest := [vi (σ_40 kP_triangleCount 0), vr 249]) rfl rfl dX2_tellRound_168 m_X2_triangleKey t_2174 t_2175 (c_X2_triangleKey hl  rfl) rfl rfl (Nat.le_of_ble_eq_true rfl) (Nat.le_of_ble_eq_true rfl) (Nat.le_of_ble_eq_true rfl) (Nat.le_of_ble_eq_true rfl) ?_
        refine z_st (st' := [vl (fP_triangleKey (w32 x_52) (w32 x_57) (w32 x_62)), vi (σ_40 kP_triangleCount 0), vr 249]) rfl ?_
        obtain ⟨σ_64, σ_64_e, hi_65, H⟩ := wa_e H
        refine z_last (M := M_X2_tellRound) dX2_tellRound_171 ly_249 rfl rfl rfl hi_65 σ_64_e ?_
        refine z_aload_n (M := M_X2_tellRound) dX2_tellRound_172 rfl ?_
        refine z_dup (M := M_X2_tellRound) dX2_tellRound_173 rfl ?_
        refine z_getI (M := M_X2_tellRound) (ci := 5) (C := RX2) (T := TX2) (Nf := 17) (ty := tyX2) cl5 dX2_tellRound_174 ly_238 14 (by decide) t_499 rfl rfl ?_
        refine z_iconst (M := M_X2_tellRound) dX2_tellRound_177 ?_
        refine z_iadd (M := M_X2_tellRound) dX2_tellRound_178 ?_
        obtain ⟨σ_66, σ_66_e, H⟩ := wf_e H
        refine z_putI (M := M_X2_tellRound) (ci := 5) (C := RX2) (T := TX2) (Nf := 17) (ty := tyX2) cl5 dX2_tellRound_179 ly_238 14 (by decide) t_499 rfl rfl rfl rfl σ_66_e ?_
        refine z_iinc (M := M_X2_tellRound) (lv' := [some (vr 238), some (vi least_36), some (vi (k_39 + 1)), none, none]) dX2_tellRound_182 rfl (Nat.le_of_ble_eq_true rfl) rfl rfl ?_
        refine z_goto (M := M_X2_tellRound) (tgt := 86) dX2_tellRound_185 (by decide) ?_
        exact K_46 _ (Option.some.inj H).symm
    · refine z_icmp_ge_t (M := M_X2_tellRound) (tgt := 188) dX2_tellRound_93 (by decide) rfl rfl (Int.not_lt.mp h_48) ?_
      exact J_71 _ _ (K_47 _ (Option.some.inj H).symm).symm
  refine whl_go hw_4 (fun (least_1, k_2, σ_3) => YY l E M_X2_tellRound 3 0 0 (pS (some (zv r)) σ') 4 [some (vr 238), some (vi least_1), some (vi k_2), none, none] [] σ_3 0 0) ?_
  rintro ⟨least_1, k_2, σ_3⟩ o_8 H K_9 K_10
  refine z_iload_n (M := M_X2_tellRound) dX2_tellRound_4 rfl ?_
  refine z_aload_n (M := M_X2_tellRound) dX2_tellRound_5 rfl ?_
  refine z_getI (M := M_X2_tellRound) (ci := 5) (C := RX2) (T := TX2) (Nf := 17) (ty := tyX2) cl5 dX2_tellRound_6 ly_238 12 (by decide) t_497 rfl rfl ?_
  rcases if_e H with ⟨h_11, H⟩ | ⟨h_11, H⟩
  · refine z_icmp_ge_f (M := M_X2_tellRound) (tgt := 84) dX2_tellRound_9 (by decide) rfl rfl h_11 ?_
    obtain ⟨v_31, he_32, hk_33⟩ := bd_e H
    have J_34 : ∀ x_19, v_31 = x_19 → YY l E M_X2_tellRound 3 0 0 (pS (some (zv r)) σ') 32 [some (vr 238), some (vi least_1), some (vi k_2), none, none] [vi x_19] σ_3 0 0 := by
      intro x_19 e
      have H := hk_33
      rw [e] at H
      refine z_istore_n (M := M_X2_tellRound) (lv' := [some (vr 238), some (vi x_19), some (vi k_2), none, none]) dX2_tellRound_32 (Nat.le_of_ble_eq_true rfl) rfl rfl ?_
      refine z_aload_n (M := M_X2_tellRound) dX2_tellRound_33 rfl ?_
      refine z_getR (M := M_X2_tellRound) (ci := 5) (C := RX2) (T := TX2) (Nf := 17) (ty := tyX2) cl5 dX2_tellRound_34 ly_238 11 (by decide) t_496 rfl ?_
      refine z_iload_n (M := M_X2_tellRound) dX2_tellRound_37 rfl ?_
      obtain ⟨x_20, x_20_e, hi_21, H⟩ := rd_e H
      refine z_iald (M := M_X2_tellRound) dX2_tellRound_38 ly_248 rfl rfl rfl hi_21 x_20_e ?_
      refine z_istore_n (M := M_X2_tellRound) (lv' := [some (vr 238), some (vi x_19), some (vi k_2), some (vi x_20), none]) dX2_tellRound_39 (Nat.le_of_ble_eq_true rfl) rfl rfl ?_
      refine z_aload_n (M := M_X2_tellRound) dX2_tellRound_40 rfl ?_
      refine z_getR (M := M_X2_tellRound) (ci := 5) (C := RX2) (T := TX2) (Nf := 17) (ty := tyX2) cl5 dX2_tellRound_41 ly_238 11 (by decide) t_496 rfl ?_
      have J_22 : YY l E M_X2_tellRound 3 0 0 (pS (some (zv r)) σ') 61 [some (vr 238), some (vi x_19), some (vi k_2), some (vi x_20), none] [vi (if (w32 (k_2 + 1)) < (w32 (σ_3 kP_roundSize 0)) then (k_2 + 1) else 0), vr 248] σ_3 0 0 := by
        obtain ⟨x_23, x_23_e, hi_24, H⟩ := rd_e H
        refine z_iald (M := M_X2_tellRound) dX2_tellRound_61 ly_248 rfl rfl rfl hi_24 x_23_e ?_
        refine z_istore (M := M_X2_tellRound) (lv' := [some (vr 238), some (vi x_19), some (vi k_2), some (vi x_20), some (vi x_23)]) dX2_tellRound_62 (Nat.le_of_ble_eq_true rfl) rfl rfl ?_
        refine z_aload_n (M := M_X2_tellRound) dX2_tellRound_64 rfl ?_
        refine z_iload_n (M := M_X2_tellRound) dX2_tellRound_65 rfl ?_
        refine z_iload (M := M_X2_tellRound) dX2_tellRound_66 rfl ?_
        obtain ⟨σ_26, hc_25, H⟩ := bd_e H
        refine z_callV (M := M_X2_tellRound) (M' := M_X2_setTold) (as := [vi x_20, vi x_23]) (rest := []) rfl rfl dX2_tellRound_68 m_X2_setTold t_2170 t_2172 s_141 (c_X2_setTold hl  hc_25) rfl rfl ly_238 rfl (Nat.le_of_ble_eq_true rfl) (Nat.le_of_ble_eq_true rfl) (Nat.le_of_ble_eq_true rfl) (Nat.le_of_ble_eq_true rfl) ?_
        refine z_st (st' := []) rfl ?_
        refine z_aload_n (M := M_X2_tellRound) dX2_tellRound_71 rfl ?_
        refine z_iload (M := M_X2_tellRound) dX2_tellRound_72 rfl ?_
        refine z_iload_n (M := M_X2_tellRound) dX2_tellRound_74 rfl ?_
        obtain ⟨σ_28, hc_27, H⟩ := bd_e H
        refine z_callV (M := M_X2_tellRound) (M' := M_X2_pushWay) (as := [vi x_23, vi x_20]) (rest := []) rfl rfl dX2_tellRound_75 m_X2_pushWay t_2144 t_2146 s_135 (c_X2_pushWay hl  hc_27) rfl rfl ly_238 rfl (Nat.le_of_ble_eq_true rfl) (Nat.le_of_ble_eq_true rfl) (Nat.le_of_ble_eq_true rfl) (Nat.le_of_ble_eq_true rfl) ?_
        refine z_st (st' := []) rfl ?_
        refine z_iinc (M := M_X2_tellRound) (lv' := [some (vr 238), some (vi x_19), some (vi (k_2 + 1)), some (vi x_20), some (vi x_23)]) dX2_tellRound_78 rfl (Nat.le_of_ble_eq_true rfl) rfl rfl ?_
        refine z_goto (M := M_X2_tellRound) (tgt := 4) dX2_tellRound_81 (by decide) ?_
        refine z_le (lv' := [some (vr 238), some (vi x_19), some (vi (k_2 + 1)), none, none]) ⟨Or.inr rfl, Or.inr rfl, Or.inr rfl, Or.inl rfl, Or.inl rfl, trivial⟩ ?_
        exact K_9 _ (Option.some.inj H).symm
      refine z_iload_n (M := M_X2_tellRound) dX2_tellRound_44 rfl ?_
      refine z_iconst (M := M_X2_tellRound) dX2_tellRound_45 ?_
      refine z_iadd (M := M_X2_tellRound) dX2_tellRound_46 ?_
      refine z_aload_n (M := M_X2_tellRound) dX2_tellRound_47 rfl ?_
      refine z_getI (M := M_X2_tellRound) (ci := 5) (C := RX2) (T := TX2) (Nf := 17) (ty := tyX2) cl5 dX2_tellRound_48 ly_238 12 (by decide) t_497 rfl rfl ?_
      by_cases h_30 : (w32 (k_2 + 1)) < (w32 (σ_3 kP_roundSize 0))
      · refine z_icmp_ge_f (M := M_X2_tellRound) (tgt := 60) dX2_tellRound_51 (by decide) rfl rfl h_30 ?_
        refine z_iload_n (M := M_X2_tellRound) dX2_tellRound_54 rfl ?_
        refine z_iconst (M := M_X2_tellRound) dX2_tellRound_55 ?_
        refine z_iadd (M := M_X2_tellRound) dX2_tellRound_56 ?_
        refine z_goto (M := M_X2_tellRound) (tgt := 61) dX2_tellRound_57 (by decide) ?_
        exact z_st (by rw [if_pos (c := (w32 (k_2 + 1)) < (w32 (σ_3 kP_roundSize 0))) h_30]) J_22
      · refine z_icmp_ge_t (M := M_X2_tellRound) (tgt := 60) dX2_tellRound_51 (by decide) rfl rfl (Int.not_lt.mp h_30) ?_
        refine z_iconst (M := M_X2_tellRound) dX2_tellRound_60 ?_
        exact z_st (by rw [if_neg (c := (w32 (k_2 + 1)) < (w32 (σ_3 kP_roundSize 0))) h_30]) J_22
    have H := he_32
    refine z_aload_n (M := M_X2_tellRound) dX2_tellRound_12 rfl ?_
    refine z_getR (M := M_X2_tellRound) (ci := 5) (C := RX2) (T := TX2) (Nf := 17) (ty := tyX2) cl5 dX2_tellRound_13 ly_238 11 (by decide) t_496 rfl ?_
    refine z_iload_n (M := M_X2_tellRound) dX2_tellRound_16 rfl ?_
    obtain ⟨x_12, x_12_e, hi_13, H⟩ := rd_e H
    refine z_iald (M := M_X2_tellRound) dX2_tellRound_17 ly_248 rfl rfl rfl hi_13 x_12_e ?_
    refine z_aload_n (M := M_X2_tellRound) dX2_tellRound_18 rfl ?_
    refine z_getR (M := M_X2_tellRound) (ci := 5) (C := RX2) (T := TX2) (Nf := 17) (ty := tyX2) cl5 dX2_tellRound_19 ly_238 11 (by decide) t_496 rfl ?_
    refine z_iload_n (M := M_X2_tellRound) dX2_tellRound_22 rfl ?_
    obtain ⟨x_14, x_14_e, hi_15, H⟩ := rd_e H
    refine z_iald (M := M_X2_tellRound) dX2_tellRound_23 ly_248 rfl rfl rfl hi_15 x_14_e ?_
    rcases if_e H with ⟨h_16, H⟩ | ⟨h_16, H⟩
    · refine z_icmp_ge_f (M := M_X2_tellRound) (tgt := 31) dX2_tellRound_24 (by decide) rfl rfl h_16 ?_
      refine z_iload_n (M := M_X2_tellRound) dX2_tellRound_27 rfl ?_
      refine z_goto (M := M_X2_tellRound) (tgt := 32) dX2_tellRound_28 (by decide) ?_
      exact J_34 _ (Option.some.inj H).symm
    · refine z_icmp_ge_t (M := M_X2_tellRound) (tgt := 31) dX2_tellRound_24 (by decide) rfl rfl (Int.not_lt.mp h_16) ?_
      refine z_iload_n (M := M_X2_tellRound) dX2_tellRound_31 rfl ?_
      exact J_34 _ (Option.some.inj H).symm
  · refine z_icmp_ge_t (M := M_X2_tellRound) (tgt := 84) dX2_tellRound_9 (by decide) rfl rfl (Int.not_lt.mp h_11) ?_
    exact J_72 _ _ _ (K_10 _ (Option.some.inj H).symm).symm
theorem c_X2_triangulate (hl : l.stackTraces = false) {σ : SG} {r : Bool} {σ' : SG}  (H : fP_triangulate σ = some (r, σ')) : en_S l E M_X2_triangulate 6 0 0 [vr 238] σ (pS (some (zv r)) σ') := by
  unfold fP_triangulate at H
  refine z_mk (lv := [some (vr 238), none, none, none]) m_X2_triangulate rfl hl (Nat.le_of_ble_eq_true rfl) rfl ?_
  refine z_aload_n (M := M_X2_triangulate) dX2_triangulate_0 rfl ?_
  refine z_iconst (M := M_X2_triangulate) dX2_triangulate_1 ?_
  obtain ⟨σ_1, σ_1_e, H⟩ := wf_e H
  refine z_putI (M := M_X2_triangulate) (ci := 5) (C := RX2) (T := TX2) (Nf := 17) (ty := tyX2) cl5 dX2_triangulate_2 ly_238 14 (by decide) t_499 rfl rfl rfl rfl σ_1_e ?_
  refine z_aload_n (M := M_X2_triangulate) dX2_triangulate_5 rfl ?_
  obtain ⟨x_3, hc_2, H⟩ := bd_e H
  refine z_callV (M := M_X2_triangulate) (M' := M_X2_areOnOneLine) (as := []) (rest := []) rfl rfl dX2_triangulate_6 m_X2_areOnOneLine t_2133 t_2135 s_133 (c_X2_areOnOneLine hl  hc_2) rfl rfl ly_238 rfl (Nat.le_of_ble_eq_true rfl) (Nat.le_of_ble_eq_true rfl) (Nat.le_of_ble_eq_true rfl) (Nat.le_of_ble_eq_true rfl) ?_
  refine z_st (st' := [zv x_3]) rfl ?_
  rcases if_e H with ⟨h_4, H⟩ | ⟨h_4, H⟩
  · refine z_zeq_f (M := M_X2_triangulate) (tgt := 14) dX2_triangulate_9 (by decide) h_4 ?_
    refine z_zconst (M := M_X2_triangulate) (b := true) dX2_triangulate_12 rfl ?_
    cases H
    exact z_zret (M := M_X2_triangulate) dX2_triangulate_13 rfl (Nat.le_of_ble_eq_true rfl) (Nat.le_of_ble_eq_true rfl) ⟨rfl, rfl⟩
  · refine z_zeq_t (M := M_X2_triangulate) (tgt := 14) dX2_triangulate_9 (by decide) h_4 ?_
    refine z_aload_n (M := M_X2_triangulate) dX2_triangulate_14 rfl ?_
    refine z_getI (M := M_X2_triangulate) (ci := 5) (C := RX2) (T := TX2) (Nf := 17) (ty := tyX2) cl5 dX2_triangulate_15 ly_238 3 (by decide) t_488 rfl rfl ?_
    refine z_sipush (M := M_X2_triangulate) dX2_triangulate_18 (by decide +kernel) ?_
    rcases if_e H with ⟨h_5, H⟩ | ⟨h_5, H⟩
    · refine z_icmp_le_f (M := M_X2_triangulate) (tgt := 26) dX2_triangulate_21 (by decide) rfl (by decide +kernel) h_5 ?_
      refine z_zconst (M := M_X2_triangulate) (b := false) dX2_triangulate_24 rfl ?_
      cases H
      exact z_zret (M := M_X2_triangulate) dX2_triangulate_25 rfl (Nat.le_of_ble_eq_true rfl) (Nat.le_of_ble_eq_true rfl) ⟨rfl, rfl⟩
    · refine z_icmp_le_t (M := M_X2_triangulate) (tgt := 26) dX2_triangulate_21 (by decide) rfl (by decide +kernel) (Int.not_lt.mp h_5) ?_
      refine z_aload_n (M := M_X2_triangulate) dX2_triangulate_26 rfl ?_
      refine z_getR (M := M_X2_triangulate) (ci := 5) (C := RX2) (T := TX2) (Nf := 17) (ty := tyX2) cl5 dX2_triangulate_27 ly_238 7 (by decide) t_492 rfl ?_
      refine z_iconst (M := M_X2_triangulate) dX2_triangulate_30 ?_
      refine z_aload_n (M := M_X2_triangulate) dX2_triangulate_31 rfl ?_
      refine z_getI (M := M_X2_triangulate) (ci := 5) (C := RX2) (T := TX2) (Nf := 17) (ty := tyX2) cl5 dX2_triangulate_32 ly_238 3 (by decide) t_488 rfl rfl ?_
      refine z_aload_n (M := M_X2_triangulate) dX2_triangulate_35 rfl ?_
      refine z_getI (M := M_X2_triangulate) (ci := 5) (C := RX2) (T := TX2) (Nf := 17) (ty := tyX2) cl5 dX2_triangulate_36 ly_238 3 (by decide) t_488 rfl rfl ?_
      refine z_imul (M := M_X2_triangulate) dX2_triangulate_39 ?_
      refine z_bipush (M := M_X2_triangulate) dX2_triangulate_40 (by decide +kernel) ?_
      refine z_idiv (M := M_X2_triangulate) dX2_triangulate_42 (by decide +kernel) ?_
      refine z_iconst (M := M_X2_triangulate) dX2_triangulate_43 ?_
      refine z_iadd (M := M_X2_triangulate) dX2_triangulate_44 ?_
      refine z_lconst (M := M_X2_triangulate) (m := 0) dX2_triangulate_45 (by decide +kernel) ?_
      obtain ⟨σ_7, hc_6, H⟩ := bd_e H
      refine z_callS (M := M_X2_triangulate) (M' := M_J7_fill_bad5a) (as := [vr 245, vi 0, vi ((q_idv ((σ_1 kP_places 0) * (σ_1 kP_places 0)) 64) + 1), vl 0]) (rest := []) rfl rfl dX2_triangulate_46 m_J7_fill_bad5a t_2137 t_2138 (c_J7_fill_bad5a hl ly_245 hc_6) rfl rfl (Nat.le_of_ble_eq_true rfl) (Nat.le_of_ble_eq_true rfl) (Nat.le_of_ble_eq_true rfl) (Nat.le_of_ble_eq_true rfl) ?_
      refine z_st (st' := []) rfl ?_
      refine z_aload_n (M := M_X2_triangulate) dX2_triangulate_49 rfl ?_
      refine z_iconst (M := M_X2_triangulate) dX2_triangulate_50 ?_
      obtain ⟨σ_8, σ_8_e, H⟩ := wf_e H
      refine z_putI (M := M_X2_triangulate) (ci := 5) (C := RX2) (T := TX2) (Nf := 17) (ty := tyX2) cl5 dX2_triangulate_51 ly_238 10 (by decide) t_495 rfl rfl rfl rfl σ_8_e ?_
      refine z_aload_n (M := M_X2_triangulate) dX2_triangulate_54 rfl ?_
      refine z_iconst (M := M_X2_triangulate) dX2_triangulate_55 ?_
      refine z_aload_n (M := M_X2_triangulate) dX2_triangulate_56 rfl ?_
      obtain ⟨x_10, hc_9, H⟩ := bd_e H
      refine z_callV (M := M_X2_triangulate) (M' := M_X2_firstNeighbour) (as := []) (rest := [vi 0, vr 238]) rfl rfl dX2_triangulate_57 m_X2_firstNeighbour t_2140 t_2142 s_134 (c_X2_firstNeighbour hl  hc_9) rfl rfl ly_238 rfl (Nat.le_of_ble_eq_true rfl) (Nat.le_of_ble_eq_true rfl) (Nat.le_of_ble_eq_true rfl) (Nat.le_of_ble_eq_true rfl) ?_
      refine z_st (st' := [vi x_10, vi 0, vr 238]) rfl ?_
      obtain ⟨σ_12, hc_11, H⟩ := bd_e H
      refine z_callV (M := M_X2_triangulate) (M' := M_X2_pushWay) (as := [vi 0, vi x_10]) (rest := []) rfl rfl dX2_triangulate_60 m_X2_pushWay t_2144 t_2146 s_135 (c_X2_pushWay hl  hc_11) rfl rfl ly_238 rfl (Nat.le_of_ble_eq_true rfl) (Nat.le_of_ble_eq_true rfl) (Nat.le_of_ble_eq_true rfl) (Nat.le_of_ble_eq_true rfl) ?_
      refine z_st (st' := []) rfl ?_
      refine z_iconst (M := M_X2_triangulate) dX2_triangulate_63 ?_
      refine z_istore_n (M := M_X2_triangulate) (lv' := [some (vr 238), some (vi 0), none, none]) dX2_triangulate_64 (Nat.le_of_ble_eq_true rfl) rfl rfl ?_
      obtain ⟨rl_18, hw_15, hk_16, hk_17⟩ := bx_e H
      have J_69 : ∀ step_65 σ_66, rl_18 = (.inl (step_65, σ_66)) → YY l E M_X2_triangulate 6 0 0 (pS (some (zv r)) σ') 141 [some (vr 238), some (vi step_65), none, none] [] σ_66 0 0 := by
        intro step_65 σ_66 e
        have H := hk_16 _ e
        refine z_aload_n (M := M_X2_triangulate) dX2_triangulate_141 rfl ?_
        refine z_getR (M := M_X2_triangulate) (ci := 5) (C := RX2) (T := TX2) (Nf := 17) (ty := tyX2) cl5 dX2_triangulate_142 ly_238 13 (by decide) t_498 rfl ?_
        refine z_aload_n (M := M_X2_triangulate) dX2_triangulate_145 rfl ?_
        refine z_getI (M := M_X2_triangulate) (ci := 5) (C := RX2) (T := TX2) (Nf := 17) (ty := tyX2) cl5 dX2_triangulate_146 ly_238 14 (by decide) t_499 rfl rfl ?_
        obtain ⟨σ_68, hc_67, H⟩ := bd_e H
        refine z_callSN (M := M_X2_triangulate) (M' := M_X11_sortRow) (as := [vr 249, vi (σ_66 kP_triangleCount 0)]) (rest := []) rfl rfl dX2_triangulate_149 m_X11_sortRow n_2088 t_1417 (c_X11_sortRow hl ly_249 hc_67) rfl rfl (Nat.le_of_ble_eq_true rfl) (Nat.le_of_ble_eq_true rfl) (Nat.le_of_ble_eq_true rfl) (Nat.le_of_ble_eq_true rfl) ?_
        refine z_st (st' := []) rfl ?_
        refine z_zconst (M := M_X2_triangulate) (b := true) dX2_triangulate_152 rfl ?_
        cases H
        exact z_zret (M := M_X2_triangulate) dX2_triangulate_153 rfl (Nat.le_of_ble_eq_true rfl) (Nat.le_of_ble_eq_true rfl) ⟨rfl, rfl⟩
      refine whl_go hw_15 (fun (step_13, σ_14) => YY l E M_X2_triangulate 6 0 0 (pS (some (zv r)) σ') 65 [some (vr 238), some (vi step_13), none, none] [] σ_14 0 0) ?_
      rintro ⟨step_13, σ_14⟩ o_19 H K_20 K_21
      rcases if_e H with ⟨h_58, H⟩ | ⟨h_58, H⟩
      · have J_59 : YY l E M_X2_triangulate 6 0 0 (pS (some (zv r)) σ') 78 [some (vr 238), some (vi step_13), none, none] [] σ_14 0 0 := by
          refine z_aload_n (M := M_X2_triangulate) dX2_triangulate_78 rfl ?_
          refine z_dup (M := M_X2_triangulate) dX2_triangulate_79 rfl ?_
          refine z_getI (M := M_X2_triangulate) (ci := 5) (C := RX2) (T := TX2) (Nf := 17) (ty := tyX2) cl5 dX2_triangulate_80 ly_238 10 (by decide) t_495 rfl rfl ?_
          refine z_iconst (M := M_X2_triangulate) dX2_triangulate_83 ?_
          refine z_isub (M := M_X2_triangulate) dX2_triangulate_84 ?_
          obtain ⟨σ_22, σ_22_e, H⟩ := wf_e H
          refine z_putI (M := M_X2_triangulate) (ci := 5) (C := RX2) (T := TX2) (Nf := 17) (ty := tyX2) cl5 dX2_triangulate_85 ly_238 10 (by decide) t_495 rfl rfl rfl rfl σ_22_e ?_
          refine z_aload_n (M := M_X2_triangulate) dX2_triangulate_88 rfl ?_
          refine z_getR (M := M_X2_triangulate) (ci := 5) (C := RX2) (T := TX2) (Nf := 17) (ty := tyX2) cl5 dX2_triangulate_89 ly_238 8 (by decide) t_493 rfl ?_
          refine z_aload_n (M := M_X2_triangulate) dX2_triangulate_92 rfl ?_
          refine z_getI (M := M_X2_triangulate) (ci := 5) (C := RX2) (T := TX2) (Nf := 17) (ty := tyX2) cl5 dX2_triangulate_93 ly_238 10 (by decide) t_495 rfl rfl ?_
          obtain ⟨x_23, x_23_e, hi_24, H⟩ := rd_e H
          refine z_iald (M := M_X2_triangulate) dX2_triangulate_96 ly_246 rfl rfl rfl hi_24 x_23_e ?_
          refine z_istore_n (M := M_X2_triangulate) (lv' := [some (vr 238), some (vi step_13), some (vi x_23), none]) dX2_triangulate_97 (Nat.le_of_ble_eq_true rfl) rfl rfl ?_
          refine z_aload_n (M := M_X2_triangulate) dX2_triangulate_98 rfl ?_
          refine z_getR (M := M_X2_triangulate) (ci := 5) (C := RX2) (T := TX2) (Nf := 17) (ty := tyX2) cl5 dX2_triangulate_99 ly_238 9 (by decide) t_494 rfl ?_
          refine z_aload_n (M := M_X2_triangulate) dX2_triangulate_102 rfl ?_
          refine z_getI (M := M_X2_triangulate) (ci := 5) (C := RX2) (T := TX2) (Nf := 17) (ty := tyX2) cl5 dX2_triangulate_103 ly_238 10 (by decide) t_495 rfl rfl ?_
          obtain ⟨x_25, x_25_e, hi_26, H⟩ := rd_e H
          refine z_iald (M := M_X2_triangulate) dX2_triangulate_106 ly_247 rfl rfl rfl hi_26 x_25_e ?_
          refine z_istore_n (M := M_X2_triangulate) (lv' := [some (vr 238), some (vi step_13), some (vi x_23), some (vi x_25)]) dX2_triangulate_107 (Nat.le_of_ble_eq_true rfl) rfl rfl ?_
          refine z_aload_n (M := M_X2_triangulate) dX2_triangulate_108 rfl ?_
          refine z_iload_n (M := M_X2_triangulate) dX2_triangulate_109 rfl ?_
          refine z_iload_n (M := M_X2_triangulate) dX2_triangulate_110 rfl ?_
          obtain ⟨x_44, hc_43, H⟩ := bd_e H
          refine z_callV (M := M_X2_triangulate) (M' := M_X2_isTold) (as := [vi x_23, vi x_25]) (rest := []) rfl rfl dX2_triangulate_111 m_X2_isTold t_2148 t_2150 s_136 (c_X2_isTold hl  hc_43) rfl rfl ly_238 rfl (Nat.le_of_ble_eq_true rfl) (Nat.le_of_ble_eq_true rfl) (Nat.le_of_ble_eq_true rfl) (Nat.le_of_ble_eq_true rfl) ?_
          refine z_st (st' := [zv x_44]) rfl ?_
          rcases if_e H with ⟨h_45, H⟩ | ⟨h_45, H⟩
          · refine z_zne_t (M := M_X2_triangulate) (tgt := 135) dX2_triangulate_114 (by decide) h_45 ?_
            refine z_iinc (M := M_X2_triangulate) (lv' := [some (vr 238), some (vi (step_13 + 1)), some (vi x_23), some (vi x_25)]) dX2_triangulate_135 rfl (Nat.le_of_ble_eq_true rfl) rfl rfl ?_
            refine z_goto (M := M_X2_triangulate) (tgt := 65) dX2_triangulate_138 (by decide) ?_
            refine z_le (lv' := [some (vr 238), some (vi (step_13 + 1)), none, none]) ⟨Or.inr rfl, Or.inr rfl, Or.inl rfl, Or.inl rfl, trivial⟩ ?_
            exact K_20 _ (Option.some.inj H).symm
          · refine z_zne_f (M := M_X2_triangulate) (tgt := 135) dX2_triangulate_114 (by decide) h_45 ?_
            refine z_aload_n (M := M_X2_triangulate) dX2_triangulate_117 rfl ?_
            refine z_iload_n (M := M_X2_triangulate) dX2_triangulate_118 rfl ?_
            refine z_iload_n (M := M_X2_triangulate) dX2_triangulate_119 rfl ?_
            obtain ⟨⟨x_49, σ_48⟩, hc_47, H⟩ := bd_e H
            refine z_callV (M := M_X2_triangulate) (M' := M_X2_findRound) (as := [vi x_23, vi x_25]) (rest := []) rfl rfl dX2_triangulate_120 m_X2_findRound t_2153 t_2155 s_137 (c_X2_findRound hl  hc_47) rfl rfl ly_238 rfl (Nat.le_of_ble_eq_true rfl) (Nat.le_of_ble_eq_true rfl) (Nat.le_of_ble_eq_true rfl) (Nat.le_of_ble_eq_true rfl) ?_
            refine z_st (st' := [zv x_49]) rfl ?_
            rcases if_e H with ⟨h_50, H⟩ | ⟨h_50, H⟩
            · refine z_zeq_f (M := M_X2_triangulate) (tgt := 135) dX2_triangulate_123 (by decide) h_50 ?_
              refine z_aload_n (M := M_X2_triangulate) dX2_triangulate_126 rfl ?_
              obtain ⟨⟨x_53, σ_52⟩, hc_51, H⟩ := bd_e H
              refine z_callV (M := M_X2_triangulate) (M' := M_X2_tellRound) (as := []) (rest := []) rfl rfl dX2_triangulate_127 m_X2_tellRound t_2166 t_2168 s_140 (c_X2_tellRound hl  hc_51) rfl rfl ly_238 rfl (Nat.le_of_ble_eq_true rfl) (Nat.le_of_ble_eq_true rfl) (Nat.le_of_ble_eq_true rfl) (Nat.le_of_ble_eq_true rfl) ?_
              refine z_st (st' := [zv x_53]) rfl ?_
              rcases if_e H with ⟨h_54, H⟩ | ⟨h_54, H⟩
              · refine z_zne_t (M := M_X2_triangulate) (tgt := 135) dX2_triangulate_130 (by decide) h_54 ?_
                refine z_iinc (M := M_X2_triangulate) (lv' := [some (vr 238), some (vi (step_13 + 1)), some (vi x_23), some (vi x_25)]) dX2_triangulate_135 rfl (Nat.le_of_ble_eq_true rfl) rfl rfl ?_
                refine z_goto (M := M_X2_triangulate) (tgt := 65) dX2_triangulate_138 (by decide) ?_
                refine z_le (lv' := [some (vr 238), some (vi (step_13 + 1)), none, none]) ⟨Or.inr rfl, Or.inr rfl, Or.inl rfl, Or.inl rfl, trivial⟩ ?_
                exact K_20 _ (Option.some.inj H).symm
              · refine z_zne_f (M := M_X2_triangulate) (tgt := 135) dX2_triangulate_130 (by decide) h_54 ?_
                refine z_zconst (M := M_X2_triangulate) (b := false) dX2_triangulate_133 rfl ?_
                have H := congrArg some (hk_17 _ ((K_21 _ (Option.some.inj H).symm).symm))
                cases H
                exact z_zret (M := M_X2_triangulate) dX2_triangulate_134 rfl (Nat.le_of_ble_eq_true rfl) (Nat.le_of_ble_eq_true rfl) ⟨rfl, rfl⟩
            · refine z_zeq_t (M := M_X2_triangulate) (tgt := 135) dX2_triangulate_123 (by decide) h_50 ?_
              refine z_iinc (M := M_X2_triangulate) (lv' := [some (vr 238), some (vi (step_13 + 1)), some (vi x_23), some (vi x_25)]) dX2_triangulate_135 rfl (Nat.le_of_ble_eq_true rfl) rfl rfl ?_
              refine z_goto (M := M_X2_triangulate) (tgt := 65) dX2_triangulate_138 (by decide) ?_
              refine z_le (lv' := [some (vr 238), some (vi (step_13 + 1)), none, none]) ⟨Or.inr rfl, Or.inr rfl, Or.inl rfl, Or.inl rfl, trivial⟩ ?_
              exact K_20 _ (Option.some.inj H).symm
        refine z_aload_n (M := M_X2_triangulate) dX2_triangulate_65 rfl ?_
        refine z_getI (M := M_X2_triangulate) (ci := 5) (C := RX2) (T := TX2) (Nf := 17) (ty := tyX2) cl5 dX2_triangulate_66 ly_238 10 (by decide) t_495 rfl rfl ?_
        by_cases h_61 : 0 < (w32 (σ_14 kP_ways 0))
        · refine z_if_le_f (M := M_X2_triangulate) (tgt := 141) dX2_triangulate_69 (by decide) rfl h_61 ?_
          refine z_iload_n (M := M_X2_triangulate) dX2_triangulate_72 rfl ?_
          refine z_ldc (M := M_X2_triangulate) (n := 264196) dX2_triangulate_73 t_2152 (by decide +kernel) ?_
          by_cases h_62 : (w32 step_13) < 264196
          · refine z_icmp_ge_f (M := M_X2_triangulate) (tgt := 141) dX2_triangulate_75 (by decide) rfl (by decide +kernel) h_62 ?_
            exact J_59
          · refine z_icmp_ge_t (M := M_X2_triangulate) (tgt := 141) dX2_triangulate_75 (by decide) rfl (by decide +kernel) (Int.not_lt.mp h_62) ?_
            exact absurd h_58 (fun q => h_62 q.2)
        · refine z_if_le_t (M := M_X2_triangulate) (tgt := 141) dX2_triangulate_69 (by decide) rfl (Int.not_lt.mp h_61) ?_
          exact absurd h_58 (fun q => h_61 q.1)
      · have J_60 : YY l E M_X2_triangulate 6 0 0 (pS (some (zv r)) σ') 141 [some (vr 238), some (vi step_13), none, none] [] σ_14 0 0 := by
          exact J_69 _ _ (K_21 _ (Option.some.inj H).symm).symm
        refine z_aload_n (M := M_X2_triangulate) dX2_triangulate_65 rfl ?_
        refine z_getI (M := M_X2_triangulate) (ci := 5) (C := RX2) (T := TX2) (Nf := 17) (ty := tyX2) cl5 dX2_triangulate_66 ly_238 10 (by decide) t_495 rfl rfl ?_
        by_cases h_63 : 0 < (w32 (σ_14 kP_ways 0))
        · refine z_if_le_f (M := M_X2_triangulate) (tgt := 141) dX2_triangulate_69 (by decide) rfl h_63 ?_
          refine z_iload_n (M := M_X2_triangulate) dX2_triangulate_72 rfl ?_
          refine z_ldc (M := M_X2_triangulate) (n := 264196) dX2_triangulate_73 t_2152 (by decide +kernel) ?_
          by_cases h_64 : (w32 step_13) < 264196
          · refine z_icmp_ge_f (M := M_X2_triangulate) (tgt := 141) dX2_triangulate_75 (by decide) rfl (by decide +kernel) h_64 ?_
            exact absurd ⟨h_63, h_64⟩ h_58
          · refine z_icmp_ge_t (M := M_X2_triangulate) (tgt := 141) dX2_triangulate_75 (by decide) rfl (by decide +kernel) (Int.not_lt.mp h_64) ?_
            exact J_60
        · refine z_if_le_t (M := M_X2_triangulate) (tgt := 141) dX2_triangulate_69 (by decide) rfl (Int.not_lt.mp h_63) ?_
          exact J_60
theorem c_X11_triangles (hl : l.stackTraces = false) {σ : SG} {slot_0 : Int} {to_0 : Int} {r : Int ⊕ Nat} {σ' : SG}  (H : fQ_triangles σ slot_0 to_0 = some (r, σ')) : en_S l E M_X11_triangles 7 4 24 [vr 32, vi slot_0, vi to_0] σ (pT (riT r) σ') := by
  unfold fQ_triangles at H
  refine z_mk (lv := [some (vr 32), some (vi slot_0), some (vi to_0), none, none]) m_X11_triangles rfl hl (Nat.le_of_ble_eq_true rfl) rfl ?_
  refine z_aload_n (M := M_X11_triangles) dX11_triangles_0 rfl ?_
  refine z_iload_n (M := M_X11_triangles) dX11_triangles_1 rfl ?_
  obtain ⟨z_42, σ_2, hc_1, K_4, K_5⟩ := bt_e H
  rcases z_42 with x_3 | z_42
  · have H := K_4 _ rfl
    refine z_callV (M := M_X11_triangles) (M' := M_X11_slotNumbered) (as := [vi slot_0]) (rest := []) rfl rfl dX11_triangles_2 m_X11_slotNumbered t_744 t_746 s_2 (v := some (vr x_3)) (c_X11_slotNumbered hl  hc_1) rfl rfl ly_32 rfl (Nat.le_of_ble_eq_true rfl) (Nat.le_of_ble_eq_true rfl) (Nat.le_of_ble_eq_true rfl) (Nat.le_of_ble_eq_true rfl) ?_
    refine z_st (st' := [vr x_3]) rfl ?_
    obtain ⟨hs_6, H⟩ := ck_e H
    refine z_astore_n (M := M_X11_triangles) (lv' := [some (vr 32), some (vi slot_0), some (vi to_0), some (vr x_3), none]) dX11_triangles_5 (Nat.le_of_ble_eq_true rfl) rfl rfl ?_
    refine z_aload_n (M := M_X11_triangles) dX11_triangles_6 rfl ?_
    refine z_iload_n (M := M_X11_triangles) dX11_triangles_7 rfl ?_
    obtain ⟨z_41, σ_8, hc_7, K_10, K_11⟩ := bt_e H
    rcases z_41 with x_9 | z_41
    · have H := K_10 _ rfl
      refine z_callV (M := M_X11_triangles) (M' := M_X11_slotNumbered) (as := [vi to_0]) (rest := []) rfl rfl dX11_triangles_8 m_X11_slotNumbered t_744 t_746 s_2 (v := some (vr x_9)) (c_X11_slotNumbered hl  hc_7) rfl rfl ly_32 rfl (Nat.le_of_ble_eq_true rfl) (Nat.le_of_ble_eq_true rfl) (Nat.le_of_ble_eq_true rfl) (Nat.le_of_ble_eq_true rfl) ?_
      refine z_st (st' := [vr x_9]) rfl ?_
      obtain ⟨hs_12, H⟩ := ck_e H
      refine z_astore (M := M_X11_triangles) (lv' := [some (vr 32), some (vi slot_0), some (vi to_0), some (vr x_3), some (vr x_9)]) dX11_triangles_11 (Nat.le_of_ble_eq_true rfl) rfl rfl ?_
      refine z_aload_n (M := M_X11_triangles) dX11_triangles_13 rfl ?_
      obtain ⟨z_40, σ_14, hc_13, K_16, K_17⟩ := bt_e H
      rcases z_40 with x_15 | z_40
      · have H := K_16 _ rfl
        refine z_callS (M := M_X11_triangles) (M' := M_X11_mustBeThere) (as := [vr x_3]) (rest := []) rfl rfl dX11_triangles_14 m_X11_mustBeThere t_1047 t_1048 (v := none) (c_X11_mustBeThere hl hs_6 hc_13) rfl rfl (Nat.le_of_ble_eq_true rfl) (Nat.le_of_ble_eq_true rfl) (Nat.le_of_ble_eq_true rfl) (Nat.le_of_ble_eq_true rfl) ?_
        refine z_st (st' := []) rfl ?_
        refine z_aload_n (M := M_X11_triangles) dX11_triangles_17 rfl ?_
        refine z_getR (M := M_X11_triangles) (ci := 14) (C := RX11) (T := TX11) (Nf := 19) (ty := tyX11) cl14 dX11_triangles_18 ly_32 13 (by decide) t_576 rfl ?_
        refine z_aload_n (M := M_X11_triangles) dX11_triangles_21 rfl ?_
        obtain ⟨⟨x_31, σ_30⟩, hc_29, H⟩ := bd_e H
        refine z_callV (M := M_X11_triangles) (M' := M_X2_gather) (as := [vr x_3]) (rest := []) rfl rfl dX11_triangles_22 m_X2_gather t_2083 t_2084 t_2085 (c_X2_gather hl hs_6 hc_29) rfl rfl ly_238 rfl (Nat.le_of_ble_eq_true rfl) (Nat.le_of_ble_eq_true rfl) (Nat.le_of_ble_eq_true rfl) (Nat.le_of_ble_eq_true rfl) ?_
        refine z_st (st' := [zv x_31]) rfl ?_
        rcases if_e H with ⟨h_32, H⟩ | ⟨h_32, H⟩
        · refine z_zeq_f (M := M_X11_triangles) (tgt := 38) dX11_triangles_25 (by decide) h_32 ?_
          refine z_aload_n (M := M_X11_triangles) dX11_triangles_28 rfl ?_
          refine z_getR (M := M_X11_triangles) (ci := 14) (C := RX11) (T := TX11) (Nf := 19) (ty := tyX11) cl14 dX11_triangles_29 ly_32 13 (by decide) t_576 rfl ?_
          obtain ⟨⟨x_35, σ_34⟩, hc_33, H⟩ := bd_e H
          refine z_callV (M := M_X11_triangles) (M' := M_X2_triangulate) (as := []) (rest := []) rfl rfl dX11_triangles_32 m_X2_triangulate t_2129 t_2130 t_2131 (c_X2_triangulate hl  hc_33) rfl rfl ly_238 rfl (Nat.le_of_ble_eq_true rfl) (Nat.le_of_ble_eq_true rfl) (Nat.le_of_ble_eq_true rfl) (Nat.le_of_ble_eq_true rfl) ?_
          refine z_st (st' := [zv x_35]) rfl ?_
          rcases if_e H with ⟨h_36, H⟩ | ⟨h_36, H⟩
          · refine z_zne_t (M := M_X11_triangles) (tgt := 46) dX11_triangles_35 (by decide) h_36 ?_
            refine z_aload_n (M := M_X11_triangles) dX11_triangles_46 rfl ?_
            refine z_getR (M := M_X11_triangles) (ci := 14) (C := RX11) (T := TX11) (Nf := 19) (ty := tyX11) cl14 dX11_triangles_47 ly_32 13 (by decide) t_576 rfl ?_
            refine z_aload (M := M_X11_triangles) dX11_triangles_50 rfl ?_
            obtain ⟨⟨x_39, σ_38⟩, hc_37, H⟩ := bd_e H
            refine z_callV (M := M_X11_triangles) (M' := M_X2_tellTriangles) (as := [vr x_9]) (rest := []) rfl rfl dX11_triangles_52 m_X2_tellTriangles t_2180 t_2181 t_2182 (c_X2_tellTriangles hl hs_12 hc_37) rfl rfl ly_238 rfl (Nat.le_of_ble_eq_true rfl) (Nat.le_of_ble_eq_true rfl) (Nat.le_of_ble_eq_true rfl) (Nat.le_of_ble_eq_true rfl) ?_
            refine z_st (st' := [vi x_39]) rfl ?_
            cases H
            exact z_iret (M := M_X11_triangles) dX11_triangles_55 rfl (Nat.le_of_ble_eq_true rfl) (Nat.le_of_ble_eq_true rfl) ⟨rfl, rfl⟩
          · refine z_zne_f (M := M_X11_triangles) (tgt := 46) dX11_triangles_35 (by decide) h_36 ?_
            cases H
            exact z_throw (M := M_X11_triangles) (names := en_nm) rfl dX11_triangles_38 dX11_triangles_41 dX11_triangles_42 dX11_triangles_45 (by decide +kernel) en_nm_ok (Or.inl t_1857) (Or.inl t_34) at_X11_UnsupportedOperationException_234 (Nat.le_of_ble_eq_true rfl) (Nat.le_of_ble_eq_true rfl) (Nat.le_of_ble_eq_true rfl) (Nat.le_of_ble_eq_true rfl) ⟨rfl, rfl⟩
        · refine z_zeq_t (M := M_X11_triangles) (tgt := 38) dX11_triangles_25 (by decide) h_32 ?_
          cases H
          exact z_throw (M := M_X11_triangles) (names := en_nm) rfl dX11_triangles_38 dX11_triangles_41 dX11_triangles_42 dX11_triangles_45 (by decide +kernel) en_nm_ok (Or.inl t_1857) (Or.inl t_34) at_X11_UnsupportedOperationException_234 (Nat.le_of_ble_eq_true rfl) (Nat.le_of_ble_eq_true rfl) (Nat.le_of_ble_eq_true rfl) (Nat.le_of_ble_eq_true rfl) ⟨rfl, rfl⟩
      · have H := K_17 _ rfl
        cases H
        exact z_callSX (M := M_X11_triangles) (M' := M_X11_mustBeThere) (as := [vr x_3]) (rest := []) rfl rfl dX11_triangles_14 m_X11_mustBeThere t_1047 t_1048 (e := z_40) (c_X11_mustBeThere hl hs_6 hc_13) rfl rfl (Nat.le_of_ble_eq_true rfl) (Nat.le_of_ble_eq_true rfl) (Nat.le_of_ble_eq_true rfl) (Nat.le_of_ble_eq_true rfl) ⟨rfl, rfl⟩
    · have H := K_11 _ rfl
      cases H
      exact z_callVX (M := M_X11_triangles) (M' := M_X11_slotNumbered) (as := [vi to_0]) (rest := []) rfl rfl dX11_triangles_8 m_X11_slotNumbered t_744 t_746 s_2 (e := z_41) (c_X11_slotNumbered hl  hc_7) rfl rfl ly_32 rfl (Nat.le_of_ble_eq_true rfl) (Nat.le_of_ble_eq_true rfl) (Nat.le_of_ble_eq_true rfl) (Nat.le_of_ble_eq_true rfl) ⟨rfl, rfl⟩
  · have H := K_5 _ rfl
    cases H
    exact z_callVX (M := M_X11_triangles) (M' := M_X11_slotNumbered) (as := [vi slot_0]) (rest := []) rfl rfl dX11_triangles_2 m_X11_slotNumbered t_744 t_746 s_2 (e := z_42) (c_X11_slotNumbered hl  hc_1) rfl rfl ly_32 rfl (Nat.le_of_ble_eq_true rfl) (Nat.le_of_ble_eq_true rfl) (Nat.le_of_ble_eq_true rfl) (Nat.le_of_ble_eq_true rfl) ⟨rfl, rfl⟩
theorem c_X2_isFarther (hl : l.stackTraces = false) {σ : SG} {itsBeside_0 : Bool} {itsSize_0 : Int} {beside_0 : Bool} {size_0 : Int} {way_0 : Int} {r : Bool}  (H : fP_isFarther itsBeside_0 itsSize_0 beside_0 size_0 way_0 = r) : en_S l E M_X2_isFarther 3 0 0 [zv itsBeside_0, vl itsSize_0, zv beside_0, vl size_0, vl way_0] σ (pS (some (zv r)) σ) := by
  unfold fP_isFarther at H
  refine z_mk (lv := [some (zv itsBeside_0), some (vl itsSize_0), none, some (zv beside_0), some (vl size_0), none, some (vl way_0), none]) m_X2_isFarther rfl hl (Nat.le_of_ble_eq_true rfl) rfl ?_
  refine z_zload_n (M := M_X2_isFarther) dX2_isFarther_0 rfl ?_
  refine z_zload_n (M := M_X2_isFarther) dX2_isFarther_1 rfl ?_
  rcases if_e H with ⟨h_1, H⟩ | ⟨h_1, H⟩
  · refine z_cne_f (M := M_X2_isFarther) (tgt := 18) dX2_isFarther_2 (by decide)  h_1 ?_
    have J_2 : YY l E M_X2_isFarther 3 0 0 (pS (some (zv r)) σ) 17 [some (zv itsBeside_0), some (vl itsSize_0), none, some (zv beside_0), some (vl size_0), none, some (vl way_0), none] [zv (decide ((w64 size_0) < (w64 itsSize_0)))] σ 0 0 := by
      cases H
      exact z_zret (M := M_X2_isFarther) dX2_isFarther_17 rfl (Nat.le_of_ble_eq_true rfl) (Nat.le_of_ble_eq_true rfl) ⟨rfl, rfl⟩
    refine z_lload_n (M := M_X2_isFarther) dX2_isFarther_5 rfl ?_
    refine z_lload (M := M_X2_isFarther) dX2_isFarther_6 rfl ?_
    refine z_lcmp (M := M_X2_isFarther) dX2_isFarther_8 ?_
    by_cases h_3 : (w64 size_0) < (w64 itsSize_0)
    · refine z_lif_le_f (M := M_X2_isFarther) (tgt := 16) dX2_isFarther_9 (by decide) rfl rfl h_3 ?_
      refine z_iconst (M := M_X2_isFarther) dX2_isFarther_12 ?_
      refine z_goto (M := M_X2_isFarther) (tgt := 17) dX2_isFarther_13 (by decide) ?_
      exact z_st (by rw [zv_t (p := (w64 size_0) < (w64 itsSize_0)) h_3]) J_2
    · refine z_lif_le_t (M := M_X2_isFarther) (tgt := 16) dX2_isFarther_9 (by decide) rfl rfl (Int.not_lt.mp h_3) ?_
      refine z_iconst (M := M_X2_isFarther) dX2_isFarther_16 ?_
      exact z_st (by rw [zv_f (p := (w64 size_0) < (w64 itsSize_0)) h_3]) J_2
  · refine z_cne_t (M := M_X2_isFarther) (tgt := 18) dX2_isFarther_2 (by decide)  h_1 ?_
    have J_8 : YY l E M_X2_isFarther 3 0 0 (pS (some (zv r)) σ) 66 [some (zv itsBeside_0), some (vl itsSize_0), none, some (zv beside_0), some (vl size_0), none, some (vl way_0), none] [zv (if itsBeside_0 = true then (decide (0 < (w32 (fQ_signOfSum itsSize_0 itsSize_0 (-size_0) way_0 0 0)))) else (decide (0 < (w32 (fQ_signOfSum itsSize_0 way_0 (-size_0) size_0 0 0)))) : Bool)] σ 0 0 := by
      cases H
      exact z_zret (M := M_X2_isFarther) dX2_isFarther_66 rfl (Nat.le_of_ble_eq_true rfl) (Nat.le_of_ble_eq_true rfl) ⟨rfl, rfl⟩
    refine z_zload_n (M := M_X2_isFarther) dX2_isFarther_18 rfl ?_
    by_cases h_9 : itsBeside_0 = true
    · refine z_zeq_f (M := M_X2_isFarther) (tgt := 45) dX2_isFarther_19 (by decide) h_9 ?_
      have J_10 : YY l E M_X2_isFarther 3 0 0 (pS (some (zv r)) σ) 66 [some (zv itsBeside_0), some (vl itsSize_0), none, some (zv beside_0), some (vl size_0), none, some (vl way_0), none] [zv (decide (0 < (w32 (fQ_signOfSum itsSize_0 itsSize_0 (-size_0) way_0 0 0))))] σ 0 0 := by
        exact z_st (by rw [if_pos (c := itsBeside_0 = true) h_9]) J_8
      refine z_lload_n (M := M_X2_isFarther) dX2_isFarther_22 rfl ?_
      refine z_lload_n (M := M_X2_isFarther) dX2_isFarther_23 rfl ?_
      refine z_lload (M := M_X2_isFarther) dX2_isFarther_24 rfl ?_
      refine z_lneg (M := M_X2_isFarther) dX2_isFarther_26 ?_
      refine z_lload (M := M_X2_isFarther) dX2_isFarther_27 rfl ?_
      refine z_lconst (M := M_X2_isFarther) (m := 0) dX2_isFarther_29 (by decide +kernel) ?_
      refine z_lconst (M := M_X2_isFarther) (m := 0) dX2_isFarther_30 (by decide +kernel) ?_
      refine z_callSN (M := M_X2_isFarther) (M' := M_X11_signOfSum) (as := [vl itsSize_0, vl itsSize_0, vl (-size_0), vl way_0, vl 0, vl 0]) (rest := []) rfl rfl dX2_isFarther_31 m_X11_signOfSum n_2161 t_1938 (c_X11_signOfSum hl  rfl) rfl rfl (Nat.le_of_ble_eq_true rfl) (Nat.le_of_ble_eq_true rfl) (Nat.le_of_ble_eq_true rfl) (Nat.le_of_ble_eq_true rfl) ?_
      refine z_st (st' := [vi (fQ_signOfSum itsSize_0 itsSize_0 (-size_0) way_0 0 0)]) rfl ?_
      by_cases h_11 : 0 < (w32 (fQ_signOfSum itsSize_0 itsSize_0 (-size_0) way_0 0 0))
      · refine z_if_le_f (M := M_X2_isFarther) (tgt := 41) dX2_isFarther_34 (by decide) rfl h_11 ?_
        refine z_iconst (M := M_X2_isFarther) dX2_isFarther_37 ?_
        refine z_goto (M := M_X2_isFarther) (tgt := 66) dX2_isFarther_38 (by decide) ?_
        exact z_st (by rw [zv_t (p := 0 < (w32 (fQ_signOfSum itsSize_0 itsSize_0 (-size_0) way_0 0 0))) h_11]) J_10
      · refine z_if_le_t (M := M_X2_isFarther) (tgt := 41) dX2_isFarther_34 (by decide) rfl (Int.not_lt.mp h_11) ?_
        refine z_iconst (M := M_X2_isFarther) dX2_isFarther_41 ?_
        refine z_goto (M := M_X2_isFarther) (tgt := 66) dX2_isFarther_42 (by decide) ?_
        exact z_st (by rw [zv_f (p := 0 < (w32 (fQ_signOfSum itsSize_0 itsSize_0 (-size_0) way_0 0 0))) h_11]) J_10
    · refine z_zeq_t (M := M_X2_isFarther) (tgt := 45) dX2_isFarther_19 (by decide) h_9 ?_
      have J_12 : YY l E M_X2_isFarther 3 0 0 (pS (some (zv r)) σ) 66 [some (zv itsBeside_0), some (vl itsSize_0), none, some (zv beside_0), some (vl size_0), none, some (vl way_0), none] [zv (decide (0 < (w32 (fQ_signOfSum itsSize_0 way_0 (-size_0) size_0 0 0))))] σ 0 0 := by
        exact z_st (by rw [if_neg (c := itsBeside_0 = true) h_9]) J_8
      refine z_lload_n (M := M_X2_isFarther) dX2_isFarther_45 rfl ?_
      refine z_lload (M := M_X2_isFarther) dX2_isFarther_46 rfl ?_
      refine z_lload (M := M_X2_isFarther) dX2_isFarther_48 rfl ?_
      refine z_lneg (M := M_X2_isFarther) dX2_isFarther_50 ?_
      refine z_lload (M := M_X2_isFarther) dX2_isFarther_51 rfl ?_
      refine z_lconst (M := M_X2_isFarther) (m := 0) dX2_isFarther_53 (by decide +kernel) ?_
      refine z_lconst (M := M_X2_isFarther) (m := 0) dX2_isFarther_54 (by decide +kernel) ?_
      refine z_callSN (M := M_X2_isFarther) (M' := M_X11_signOfSum) (as := [vl itsSize_0, vl way_0, vl (-size_0), vl size_0, vl 0, vl 0]) (rest := []) rfl rfl dX2_isFarther_55 m_X11_signOfSum n_2161 t_1938 (c_X11_signOfSum hl  rfl) rfl rfl (Nat.le_of_ble_eq_true rfl) (Nat.le_of_ble_eq_true rfl) (Nat.le_of_ble_eq_true rfl) (Nat.le_of_ble_eq_true rfl) ?_
      refine z_st (st' := [vi (fQ_signOfSum itsSize_0 way_0 (-size_0) size_0 0 0)]) rfl ?_
      by_cases h_13 : 0 < (w32 (fQ_signOfSum itsSize_0 way_0 (-size_0) size_0 0 0))
      · refine z_if_le_f (M := M_X2_isFarther) (tgt := 65) dX2_isFarther_58 (by decide) rfl h_13 ?_
        refine z_iconst (M := M_X2_isFarther) dX2_isFarther_61 ?_
        refine z_goto (M := M_X2_isFarther) (tgt := 66) dX2_isFarther_62 (by decide) ?_
        exact z_st (by rw [zv_t (p := 0 < (w32 (fQ_signOfSum itsSize_0 way_0 (-size_0) size_0 0 0))) h_13]) J_12
      · refine z_if_le_t (M := M_X2_isFarther) (tgt := 65) dX2_isFarther_58 (by decide) rfl (Int.not_lt.mp h_13) ?_
        refine z_iconst (M := M_X2_isFarther) dX2_isFarther_65 ?_
        exact z_st (by rw [zv_f (p := 0 < (w32 (fQ_signOfSum itsSize_0 way_0 (-size_0) size_0 0 0))) h_13]) J_12
theorem c_X2_squareTo (hl : l.stackTraces = false) {σ : SG} {shape_0 : Nat} {i_0 : Int} {j_0 : Int} {r : Int} (h_shape : isS shape_0) (H : fP_squareTo σ shape_0 i_0 j_0 = some r) : en_S l E M_X2_squareTo 1 0 0 [vr shape_0, vi i_0, vi j_0] σ (pS (some (vl r)) σ) := by
  unfold fP_squareTo at H
  refine z_mk (lv := [some (vr shape_0), some (vi i_0), some (vi j_0), none, none, none, none]) m_X2_squareTo rfl hl (Nat.le_of_ble_eq_true rfl) rfl ?_
  refine z_aload_n (M := M_X2_squareTo) dX2_squareTo_0 rfl ?_
  refine z_getR (M := M_X2_squareTo) (ci := 9) (C := RX6) (T := TX6) (Nf := 5) (ty := tyX6) cl9 dX2_squareTo_1 (ly_S h_shape) 1 (by decide) t_59 rfl ?_
  refine z_iload_n (M := M_X2_squareTo) dX2_squareTo_4 rfl ?_
  obtain ⟨x_1, x_1_e, hi_2, H⟩ := rd_e H
  refine z_iald (M := M_X2_squareTo) dX2_squareTo_5 (ly_Sx h_shape) rfl rfl rfl hi_2 x_1_e ?_
  refine z_i2l (M := M_X2_squareTo) dX2_squareTo_6 ?_
  refine z_aload_n (M := M_X2_squareTo) dX2_squareTo_7 rfl ?_
  refine z_getR (M := M_X2_squareTo) (ci := 9) (C := RX6) (T := TX6) (Nf := 5) (ty := tyX6) cl9 dX2_squareTo_8 (ly_S h_shape) 1 (by decide) t_59 rfl ?_
  refine z_iload_n (M := M_X2_squareTo) dX2_squareTo_11 rfl ?_
  obtain ⟨x_3, x_3_e, hi_4, H⟩ := rd_e H
  refine z_iald (M := M_X2_squareTo) dX2_squareTo_12 (ly_Sx h_shape) rfl rfl rfl hi_4 x_3_e ?_
  refine z_i2l (M := M_X2_squareTo) dX2_squareTo_13 ?_
  refine z_lsub (M := M_X2_squareTo) dX2_squareTo_14 ?_
  refine z_lstore_n (M := M_X2_squareTo) (lv' := [some (vr shape_0), some (vi i_0), some (vi j_0), some (vl ((w32 x_1) - (w32 x_3))), none, none, none]) dX2_squareTo_15 (Nat.le_of_ble_eq_true rfl) rfl rfl ?_
  refine z_aload_n (M := M_X2_squareTo) dX2_squareTo_16 rfl ?_
  refine z_getR (M := M_X2_squareTo) (ci := 9) (C := RX6) (T := TX6) (Nf := 5) (ty := tyX6) cl9 dX2_squareTo_17 (ly_S h_shape) 2 (by decide) t_66 rfl ?_
  refine z_iload_n (M := M_X2_squareTo) dX2_squareTo_20 rfl ?_
  obtain ⟨x_5, x_5_e, hi_6, H⟩ := rd_e H
  refine z_iald (M := M_X2_squareTo) dX2_squareTo_21 (ly_Sy h_shape) rfl rfl rfl hi_6 x_5_e ?_
  refine z_i2l (M := M_X2_squareTo) dX2_squareTo_22 ?_
  refine z_aload_n (M := M_X2_squareTo) dX2_squareTo_23 rfl ?_
  refine z_getR (M := M_X2_squareTo) (ci := 9) (C := RX6) (T := TX6) (Nf := 5) (ty := tyX6) cl9 dX2_squareTo_24 (ly_S h_shape) 2 (by decide) t_66 rfl ?_
  refine z_iload_n (M := M_X2_squareTo) dX2_squareTo_27 rfl ?_
  obtain ⟨x_7, x_7_e, hi_8, H⟩ := rd_e H
  refine z_iald (M := M_X2_squareTo) dX2_squareTo_28 (ly_Sy h_shape) rfl rfl rfl hi_8 x_7_e ?_
  refine z_i2l (M := M_X2_squareTo) dX2_squareTo_29 ?_
  refine z_lsub (M := M_X2_squareTo) dX2_squareTo_30 ?_
  refine z_lstore (M := M_X2_squareTo) (lv' := [some (vr shape_0), some (vi i_0), some (vi j_0), some (vl ((w32 x_1) - (w32 x_3))), none, some (vl ((w32 x_5) - (w32 x_7))), none]) dX2_squareTo_31 (Nat.le_of_ble_eq_true rfl) rfl rfl ?_
  refine z_lload_n (M := M_X2_squareTo) dX2_squareTo_33 rfl ?_
  refine z_lload_n (M := M_X2_squareTo) dX2_squareTo_34 rfl ?_
  refine z_lmul (M := M_X2_squareTo) dX2_squareTo_35 ?_
  refine z_lload (M := M_X2_squareTo) dX2_squareTo_36 rfl ?_
  refine z_lload (M := M_X2_squareTo) dX2_squareTo_38 rfl ?_
  refine z_lmul (M := M_X2_squareTo) dX2_squareTo_40 ?_
  refine z_ladd (M := M_X2_squareTo) dX2_squareTo_41 ?_
  cases H
  exact z_lret (M := M_X2_squareTo) dX2_squareTo_42 rfl (Nat.le_of_ble_eq_true rfl) (Nat.le_of_ble_eq_true rfl) ⟨rfl, rfl⟩
theorem c_X2_farthest (hl : l.stackTraces = false) {σ : SG} {shape_0 : Nat} {a_0 : Int} {b_0 : Int} {distance_0 : Int} {r : Int} (h_shape : isS shape_0) (H : fP_farthest σ shape_0 a_0 b_0 distance_0 = some r) : en_S l E M_X2_farthest 4 0 0 [vr shape_0, vi a_0, vi b_0, vi distance_0] σ (pS (some (vi r)) σ) := by
  unfold fP_farthest at H
  refine z_mk (lv := [some (vr shape_0), some (vi a_0), some (vi b_0), some (vi distance_0), none, none, none, none, none, none, none, none, none, none, none, none, none, none, none, none, none, none, none, none]) m_X2_farthest rfl hl (Nat.le_of_ble_eq_true rfl) rfl ?_
  refine z_aload_n (M := M_X2_farthest) dX2_farthest_0 rfl ?_
  refine z_getR (M := M_X2_farthest) (ci := 9) (C := RX6) (T := TX6) (Nf := 5) (ty := tyX6) cl9 dX2_farthest_1 (ly_S h_shape) 1 (by decide) t_59 rfl ?_
  refine z_iload_n (M := M_X2_farthest) dX2_farthest_4 rfl ?_
  obtain ⟨x_1, x_1_e, hi_2, H⟩ := rd_e H
  refine z_iald (M := M_X2_farthest) dX2_farthest_5 (ly_Sx h_shape) rfl rfl rfl hi_2 x_1_e ?_
  refine z_i2l (M := M_X2_farthest) dX2_farthest_6 ?_
  refine z_aload_n (M := M_X2_farthest) dX2_farthest_7 rfl ?_
  refine z_getR (M := M_X2_farthest) (ci := 9) (C := RX6) (T := TX6) (Nf := 5) (ty := tyX6) cl9 dX2_farthest_8 (ly_S h_shape) 1 (by decide) t_59 rfl ?_
  refine z_iload_n (M := M_X2_farthest) dX2_farthest_11 rfl ?_
  obtain ⟨x_3, x_3_e, hi_4, H⟩ := rd_e H
  refine z_iald (M := M_X2_farthest) dX2_farthest_12 (ly_Sx h_shape) rfl rfl rfl hi_4 x_3_e ?_
  refine z_i2l (M := M_X2_farthest) dX2_farthest_13 ?_
  refine z_lsub (M := M_X2_farthest) dX2_farthest_14 ?_
  refine z_lstore (M := M_X2_farthest) (lv' := [some (vr shape_0), some (vi a_0), some (vi b_0), some (vi distance_0), some (vl ((w32 x_1) - (w32 x_3))), none, none, none, none, none, none, none, none, none, none, none, none, none, none, none, none, none, none, none]) dX2_farthest_15 (Nat.le_of_ble_eq_true rfl) rfl rfl ?_
  refine z_aload_n (M := M_X2_farthest) dX2_farthest_17 rfl ?_
  refine z_getR (M := M_X2_farthest) (ci := 9) (C := RX6) (T := TX6) (Nf := 5) (ty := tyX6) cl9 dX2_farthest_18 (ly_S h_shape) 2 (by decide) t_66 rfl ?_
  refine z_iload_n (M := M_X2_farthest) dX2_farthest_21 rfl ?_
  obtain ⟨x_5, x_5_e, hi_6, H⟩ := rd_e H
  refine z_iald (M := M_X2_farthest) dX2_farthest_22 (ly_Sy h_shape) rfl rfl rfl hi_6 x_5_e ?_
  refine z_i2l (M := M_X2_farthest) dX2_farthest_23 ?_
  refine z_aload_n (M := M_X2_farthest) dX2_farthest_24 rfl ?_
  refine z_getR (M := M_X2_farthest) (ci := 9) (C := RX6) (T := TX6) (Nf := 5) (ty := tyX6) cl9 dX2_farthest_25 (ly_S h_shape) 2 (by decide) t_66 rfl ?_
  refine z_iload_n (M := M_X2_farthest) dX2_farthest_28 rfl ?_
  obtain ⟨x_7, x_7_e, hi_8, H⟩ := rd_e H
  refine z_iald (M := M_X2_farthest) dX2_farthest_29 (ly_Sy h_shape) rfl rfl rfl hi_8 x_7_e ?_
  refine z_i2l (M := M_X2_farthest) dX2_farthest_30 ?_
  refine z_lsub (M := M_X2_farthest) dX2_farthest_31 ?_
  refine z_lstore (M := M_X2_farthest) (lv' := [some (vr shape_0), some (vi a_0), some (vi b_0), some (vi distance_0), some (vl ((w32 x_1) - (w32 x_3))), none, some (vl ((w32 x_5) - (w32 x_7))), none, none, none, none, none, none, none, none, none, none, none, none, none, none, none, none, none]) dX2_farthest_32 (Nat.le_of_ble_eq_true rfl) rfl rfl ?_
  refine z_lload (M := M_X2_farthest) dX2_farthest_34 rfl ?_
  refine z_lload (M := M_X2_farthest) dX2_farthest_36 rfl ?_
  refine z_lmul (M := M_X2_farthest) dX2_farthest_38 ?_
  refine z_lload (M := M_X2_farthest) dX2_farthest_39 rfl ?_
  refine z_lload (M := M_X2_farthest) dX2_farthest_41 rfl ?_
  refine z_lmul (M := M_X2_farthest) dX2_farthest_43 ?_
  refine z_ladd (M := M_X2_farthest) dX2_farthest_44 ?_
  obtain ⟨x_9, x_9_e, H⟩ := lt_e H
  refine z_st (congrArg (fun z => vl z :: []) x_9_e) ?_
  refine z_lstore (M := M_X2_farthest) (lv' := [some (vr shape_0), some (vi a_0), some (vi b_0), some (vi distance_0), some (vl ((w32 x_1) - (w32 x_3))), none, some (vl ((w32 x_5) - (w32 x_7))), none, some (vl x_9), none, none, none, none, none, none, none, none, none, none, none, none, none, none, none]) dX2_farthest_45 (Nat.le_of_ble_eq_true rfl) rfl rfl ?_
  refine z_iconst (M := M_X2_farthest) dX2_farthest_47 ?_
  refine z_istore (M := M_X2_farthest) (lv' := [some (vr shape_0), some (vi a_0), some (vi b_0), some (vi distance_0), some (vl ((w32 x_1) - (w32 x_3))), none, some (vl ((w32 x_5) - (w32 x_7))), none, some (vl x_9), none, some (vi (-1)), none, none, none, none, none, none, none, none, none, none, none, none, none]) dX2_farthest_48 (Nat.le_of_ble_eq_true rfl) rfl rfl ?_
  refine z_zconst (M := M_X2_farthest) (b := false) dX2_farthest_50 rfl ?_
  refine z_zstore (M := M_X2_farthest) (lv' := [some (vr shape_0), some (vi a_0), some (vi b_0), some (vi distance_0), some (vl ((w32 x_1) - (w32 x_3))), none, some (vl ((w32 x_5) - (w32 x_7))), none, some (vl x_9), none, some (vi (-1)), some (zv false), none, none, none, none, none, none, none, none, none, none, none, none]) dX2_farthest_51 (Nat.le_of_ble_eq_true rfl) rfl rfl ?_
  refine z_iload_n (M := M_X2_farthest) dX2_farthest_53 rfl ?_
  refine z_i2l (M := M_X2_farthest) dX2_farthest_54 ?_
  refine z_iload_n (M := M_X2_farthest) dX2_farthest_55 rfl ?_
  refine z_i2l (M := M_X2_farthest) dX2_farthest_56 ?_
  refine z_lmul (M := M_X2_farthest) dX2_farthest_57 ?_
  refine z_lstore (M := M_X2_farthest) (lv' := [some (vr shape_0), some (vi a_0), some (vi b_0), some (vi distance_0), some (vl ((w32 x_1) - (w32 x_3))), none, some (vl ((w32 x_5) - (w32 x_7))), none, some (vl x_9), none, some (vi (-1)), some (zv false), some (vl ((w32 distance_0) * (w32 distance_0))), none, none, none, none, none, none, none, none, none, none, none]) dX2_farthest_58 (Nat.le_of_ble_eq_true rfl) rfl rfl ?_
  refine z_iload_n (M := M_X2_farthest) dX2_farthest_60 rfl ?_
  refine z_iconst (M := M_X2_farthest) dX2_farthest_61 ?_
  refine z_iadd (M := M_X2_farthest) dX2_farthest_62 ?_
  refine z_istore (M := M_X2_farthest) (lv' := [some (vr shape_0), some (vi a_0), some (vi b_0), some (vi distance_0), some (vl ((w32 x_1) - (w32 x_3))), none, some (vl ((w32 x_5) - (w32 x_7))), none, some (vl x_9), none, some (vi (-1)), some (zv false), some (vl ((w32 distance_0) * (w32 distance_0))), none, some (vi (a_0 + 1)), none, none, none, none, none, none, none, none, none]) dX2_farthest_63 (Nat.le_of_ble_eq_true rfl) rfl rfl ?_
  obtain ⟨rl_17, hw_14, hk_15⟩ := bd_e H
  have J_83 : ∀ best_79 beside_80 size_81 i_82, rl_17 = (best_79, beside_80, size_81, i_82) → YY l E M_X2_farthest 4 0 0 (pS (some (vi r)) σ) 228 [some (vr shape_0), some (vi a_0), some (vi b_0), some (vi distance_0), some (vl ((w32 x_1) - (w32 x_3))), none, some (vl ((w32 x_5) - (w32 x_7))), none, some (vl x_9), none, some (vi best_79), some (zv beside_80), some (vl size_81), none, some (vi i_82), none, none, none, none, none, none, none, none, none] [] σ 0 0 := by
    intro best_79 beside_80 size_81 i_82 e
    have H := hk_15
    rw [e] at H
    refine z_iload (M := M_X2_farthest) dX2_farthest_228 rfl ?_
    cases H
    exact z_iret (M := M_X2_farthest) dX2_farthest_230 rfl (Nat.le_of_ble_eq_true rfl) (Nat.le_of_ble_eq_true rfl) ⟨rfl, rfl⟩
  refine whl_go hw_14 (fun (best_10, beside_11, size_12, i_13) => YY l E M_X2_farthest 4 0 0 (pS (some (vi r)) σ) 65 [some (vr shape_0), some (vi a_0), some (vi b_0), some (vi distance_0), some (vl ((w32 x_1) - (w32 x_3))), none, some (vl ((w32 x_5) - (w32 x_7))), none, some (vl x_9), none, some (vi best_10), some (zv beside_11), some (vl size_12), none, some (vi i_13), none, none, none, none, none, none, none, none, none] [] σ 0 0) ?_
  rintro ⟨best_10, beside_11, size_12, i_13⟩ o_18 H K_19 K_20
  refine z_iload (M := M_X2_farthest) dX2_farthest_65 rfl ?_
  refine z_iload_n (M := M_X2_farthest) dX2_farthest_67 rfl ?_
  rcases if_e H with ⟨h_21, H⟩ | ⟨h_21, H⟩
  · refine z_icmp_ge_f (M := M_X2_farthest) (tgt := 228) dX2_farthest_68 (by decide) rfl rfl h_21 ?_
    refine z_aload_n (M := M_X2_farthest) dX2_farthest_71 rfl ?_
    refine z_getR (M := M_X2_farthest) (ci := 9) (C := RX6) (T := TX6) (Nf := 5) (ty := tyX6) cl9 dX2_farthest_72 (ly_S h_shape) 1 (by decide) t_59 rfl ?_
    refine z_iload (M := M_X2_farthest) dX2_farthest_75 rfl ?_
    obtain ⟨x_22, x_22_e, hi_23, H⟩ := rd_e H
    refine z_iald (M := M_X2_farthest) dX2_farthest_77 (ly_Sx h_shape) rfl rfl rfl hi_23 x_22_e ?_
    refine z_i2l (M := M_X2_farthest) dX2_farthest_78 ?_
    refine z_aload_n (M := M_X2_farthest) dX2_farthest_79 rfl ?_
    refine z_getR (M := M_X2_farthest) (ci := 9) (C := RX6) (T := TX6) (Nf := 5) (ty := tyX6) cl9 dX2_farthest_80 (ly_S h_shape) 1 (by decide) t_59 rfl ?_
    refine z_iload_n (M := M_X2_farthest) dX2_farthest_83 rfl ?_
    obtain ⟨x_24, x_24_e, hi_25, H⟩ := rd_e H
    refine z_iald (M := M_X2_farthest) dX2_farthest_84 (ly_Sx h_shape) rfl rfl rfl hi_25 x_24_e ?_
    refine z_i2l (M := M_X2_farthest) dX2_farthest_85 ?_
    refine z_lsub (M := M_X2_farthest) dX2_farthest_86 ?_
    refine z_lstore (M := M_X2_farthest) (lv' := [some (vr shape_0), some (vi a_0), some (vi b_0), some (vi distance_0), some (vl ((w32 x_1) - (w32 x_3))), none, some (vl ((w32 x_5) - (w32 x_7))), none, some (vl x_9), none, some (vi best_10), some (zv beside_11), some (vl size_12), none, some (vi i_13), some (vl ((w32 x_22) - (w32 x_24))), none, none, none, none, none, none, none, none]) dX2_farthest_87 (Nat.le_of_ble_eq_true rfl) rfl rfl ?_
    refine z_aload_n (M := M_X2_farthest) dX2_farthest_89 rfl ?_
    refine z_getR (M := M_X2_farthest) (ci := 9) (C := RX6) (T := TX6) (Nf := 5) (ty := tyX6) cl9 dX2_farthest_90 (ly_S h_shape) 2 (by decide) t_66 rfl ?_
    refine z_iload (M := M_X2_farthest) dX2_farthest_93 rfl ?_
    obtain ⟨x_26, x_26_e, hi_27, H⟩ := rd_e H
    refine z_iald (M := M_X2_farthest) dX2_farthest_95 (ly_Sy h_shape) rfl rfl rfl hi_27 x_26_e ?_
    refine z_i2l (M := M_X2_farthest) dX2_farthest_96 ?_
    refine z_aload_n (M := M_X2_farthest) dX2_farthest_97 rfl ?_
    refine z_getR (M := M_X2_farthest) (ci := 9) (C := RX6) (T := TX6) (Nf := 5) (ty := tyX6) cl9 dX2_farthest_98 (ly_S h_shape) 2 (by decide) t_66 rfl ?_
    refine z_iload_n (M := M_X2_farthest) dX2_farthest_101 rfl ?_
    obtain ⟨x_28, x_28_e, hi_29, H⟩ := rd_e H
    refine z_iald (M := M_X2_farthest) dX2_farthest_102 (ly_Sy h_shape) rfl rfl rfl hi_29 x_28_e ?_
    refine z_i2l (M := M_X2_farthest) dX2_farthest_103 ?_
    refine z_lsub (M := M_X2_farthest) dX2_farthest_104 ?_
    refine z_lstore (M := M_X2_farthest) (lv' := [some (vr shape_0), some (vi a_0), some (vi b_0), some (vi distance_0), some (vl ((w32 x_1) - (w32 x_3))), none, some (vl ((w32 x_5) - (w32 x_7))), none, some (vl x_9), none, some (vi best_10), some (zv beside_11), some (vl size_12), none, some (vi i_13), some (vl ((w32 x_22) - (w32 x_24))), none, some (vl ((w32 x_26) - (w32 x_28))), none, none, none, none, none, none]) dX2_farthest_105 (Nat.le_of_ble_eq_true rfl) rfl rfl ?_
    refine z_lload (M := M_X2_farthest) dX2_farthest_107 rfl ?_
    refine z_lload (M := M_X2_farthest) dX2_farthest_109 rfl ?_
    refine z_lmul (M := M_X2_farthest) dX2_farthest_111 ?_
    refine z_lload (M := M_X2_farthest) dX2_farthest_112 rfl ?_
    refine z_lload (M := M_X2_farthest) dX2_farthest_114 rfl ?_
    refine z_lmul (M := M_X2_farthest) dX2_farthest_116 ?_
    refine z_ladd (M := M_X2_farthest) dX2_farthest_117 ?_
    obtain ⟨x_30, x_30_e, H⟩ := lt_e H
    refine z_st (congrArg (fun z => vl z :: []) x_30_e) ?_
    refine z_lstore (M := M_X2_farthest) (lv' := [some (vr shape_0), some (vi a_0), some (vi b_0), some (vi distance_0), some (vl ((w32 x_1) - (w32 x_3))), none, some (vl ((w32 x_5) - (w32 x_7))), none, some (vl x_9), none, some (vi best_10), some (zv beside_11), some (vl size_12), none, some (vi i_13), some (vl ((w32 x_22) - (w32 x_24))), none, some (vl ((w32 x_26) - (w32 x_28))), none, some (vl x_30), none, none, none, none]) dX2_farthest_118 (Nat.le_of_ble_eq_true rfl) rfl rfl ?_
    have J_31 : YY l E M_X2_farthest 4 0 0 (pS (some (vi r)) σ) 140 [some (vr shape_0), some (vi a_0), some (vi b_0), some (vi distance_0), some (vl ((w32 x_1) - (w32 x_3))), none, some (vl ((w32 x_5) - (w32 x_7))), none, some (vl x_9), none, some (vi best_10), some (zv beside_11), some (vl size_12), none, some (vi i_13), some (vl ((w32 x_22) - (w32 x_24))), none, some (vl ((w32 x_26) - (w32 x_28))), none, some (vl x_30), none, none, none, none] [zv (decide ((0 < (w64 x_30)) ∧ ((w64 x_30) < (w64 x_9))))] σ 0 0 := by
      refine z_zstore (M := M_X2_farthest) (lv' := [some (vr shape_0), some (vi a_0), some (vi b_0), some (vi distance_0), some (vl ((w32 x_1) - (w32 x_3))), none, some (vl ((w32 x_5) - (w32 x_7))), none, some (vl x_9), none, some (vi best_10), some (zv beside_11), some (vl size_12), none, some (vi i_13), some (vl ((w32 x_22) - (w32 x_24))), none, some (vl ((w32 x_26) - (w32 x_28))), none, some (vl x_30), none, some (zv (decide ((0 < (w64 x_30)) ∧ ((w64 x_30) < (w64 x_9))))), none, none]) dX2_farthest_140 (Nat.le_of_ble_eq_true rfl) rfl rfl ?_
      obtain ⟨v_72, he_73, hk_74⟩ := bd_e H
      have J_75 : ∀ x_59, v_72 = x_59 → YY l E M_X2_farthest 4 0 0 (pS (some (vi r)) σ) 192 [some (vr shape_0), some (vi a_0), some (vi b_0), some (vi distance_0), some (vl ((w32 x_1) - (w32 x_3))), none, some (vl ((w32 x_5) - (w32 x_7))), none, some (vl x_9), none, some (vi best_10), some (zv beside_11), some (vl size_12), none, some (vi i_13), some (vl ((w32 x_22) - (w32 x_24))), none, some (vl ((w32 x_26) - (w32 x_28))), none, some (vl x_30), none, some (zv (decide ((0 < (w64 x_30)) ∧ ((w64 x_30) < (w64 x_9))))), none, none] [vl x_59] σ 0 0 := by
        intro x_59 e
        have H := hk_74
        rw [e] at H
        refine z_lstore (M := M_X2_farthest) (lv' := [some (vr shape_0), some (vi a_0), some (vi b_0), some (vi distance_0), some (vl ((w32 x_1) - (w32 x_3))), none, some (vl ((w32 x_5) - (w32 x_7))), none, some (vl x_9), none, some (vi best_10), some (zv beside_11), some (vl size_12), none, some (vi i_13), some (vl ((w32 x_22) - (w32 x_24))), none, some (vl ((w32 x_26) - (w32 x_28))), none, some (vl x_30), none, some (zv (decide ((0 < (w64 x_30)) ∧ ((w64 x_30) < (w64 x_9))))), some (vl x_59), none]) dX2_farthest_192 (Nat.le_of_ble_eq_true rfl) rfl rfl ?_
        obtain ⟨v_63, he_60, hk_61⟩ := bd_e H
        have J_71 : ∀ best_67 beside_68 size_69, v_63 = (best_67, beside_68, size_69) → YY l E M_X2_farthest 4 0 0 (pS (some (vi r)) σ) 222 [some (vr shape_0), some (vi a_0), some (vi b_0), some (vi distance_0), some (vl ((w32 x_1) - (w32 x_3))), none, some (vl ((w32 x_5) - (w32 x_7))), none, some (vl x_9), none, some (vi best_67), some (zv beside_68), some (vl size_69), none, some (vi i_13), some (vl ((w32 x_22) - (w32 x_24))), none, some (vl ((w32 x_26) - (w32 x_28))), none, some (vl x_30), none, some (zv (decide ((0 < (w64 x_30)) ∧ ((w64 x_30) < (w64 x_9))))), some (vl x_59), none] [] σ 0 0 := by
          intro best_67 beside_68 size_69 e
          have H := hk_61
          rw [e] at H
          refine z_iinc (M := M_X2_farthest) (lv' := [some (vr shape_0), some (vi a_0), some (vi b_0), some (vi distance_0), some (vl ((w32 x_1) - (w32 x_3))), none, some (vl ((w32 x_5) - (w32 x_7))), none, some (vl x_9), none, some (vi best_67), some (zv beside_68), some (vl size_69), none, some (vi (i_13 + 1)), some (vl ((w32 x_22) - (w32 x_24))), none, some (vl ((w32 x_26) - (w32 x_28))), none, some (vl x_30), none, some (zv (decide ((0 < (w64 x_30)) ∧ ((w64 x_30) < (w64 x_9))))), some (vl x_59), none]) dX2_farthest_222 rfl (Nat.le_of_ble_eq_true rfl) rfl rfl ?_
          refine z_goto (M := M_X2_farthest) (tgt := 65) dX2_farthest_225 (by decide) ?_
          refine z_le (lv' := [some (vr shape_0), some (vi a_0), some (vi b_0), some (vi distance_0), some (vl ((w32 x_1) - (w32 x_3))), none, some (vl ((w32 x_5) - (w32 x_7))), none, some (vl x_9), none, some (vi best_67), some (zv beside_68), some (vl size_69), none, some (vi (i_13 + 1)), none, none, none, none, none, none, none, none, none]) ⟨Or.inr rfl, Or.inr rfl, Or.inr rfl, Or.inr rfl, Or.inr rfl, Or.inl rfl, Or.inr rfl, Or.inl rfl, Or.inr rfl, Or.inl rfl, Or.inr rfl, Or.inr rfl, Or.inr rfl, Or.inl rfl, Or.inr rfl, Or.inl rfl, Or.inl rfl, Or.inl rfl, Or.inl rfl, Or.inl rfl, Or.inl rfl, Or.inl rfl, Or.inl rfl, Or.inl rfl, trivial⟩ ?_
          exact K_19 _ (Option.some.inj H).symm
        have H := he_60
        refine z_zload (M := M_X2_farthest) dX2_farthest_194 rfl ?_
        refine z_lload (M := M_X2_farthest) dX2_farthest_196 rfl ?_
        refine z_zload (M := M_X2_farthest) dX2_farthest_198 rfl ?_
        refine z_lload (M := M_X2_farthest) dX2_farthest_200 rfl ?_
        refine z_lload (M := M_X2_farthest) dX2_farthest_202 rfl ?_
        refine z_callS (M := M_X2_farthest) (M' := M_X2_isFarther) (as := [zv (decide ((0 < (w64 x_30)) ∧ ((w64 x_30) < (w64 x_9)))), vl x_59, zv beside_11, vl size_12, vl x_9]) (rest := []) rfl rfl dX2_farthest_204 m_X2_isFarther t_2213 t_2214 (c_X2_isFarther hl  rfl) rfl rfl (Nat.le_of_ble_eq_true rfl) (Nat.le_of_ble_eq_true rfl) (Nat.le_of_ble_eq_true rfl) (Nat.le_of_ble_eq_true rfl) ?_
        refine z_st (st' := [zv (fP_isFarther (decide ((0 < (w64 x_30)) ∧ ((w64 x_30) < (w64 x_9)))) x_59 beside_11 size_12 x_9)]) rfl ?_
        rcases if_e H with ⟨h_64, H⟩ | ⟨h_64, H⟩
        · refine z_zeq_f (M := M_X2_farthest) (tgt := 222) dX2_farthest_207 (by decide) h_64 ?_
          refine z_iload (M := M_X2_farthest) dX2_farthest_210 rfl ?_
          refine z_istore (M := M_X2_farthest) (lv' := [some (vr shape_0), some (vi a_0), some (vi b_0), some (vi distance_0), some (vl ((w32 x_1) - (w32 x_3))), none, some (vl ((w32 x_5) - (w32 x_7))), none, some (vl x_9), none, some (vi i_13), some (zv beside_11), some (vl size_12), none, some (vi i_13), some (vl ((w32 x_22) - (w32 x_24))), none, some (vl ((w32 x_26) - (w32 x_28))), none, some (vl x_30), none, some (zv (decide ((0 < (w64 x_30)) ∧ ((w64 x_30) < (w64 x_9))))), some (vl x_59), none]) dX2_farthest_212 (Nat.le_of_ble_eq_true rfl) rfl rfl ?_
          refine z_zload (M := M_X2_farthest) dX2_farthest_214 rfl ?_
          refine z_zstore (M := M_X2_farthest) (lv' := [some (vr shape_0), some (vi a_0), some (vi b_0), some (vi distance_0), some (vl ((w32 x_1) - (w32 x_3))), none, some (vl ((w32 x_5) - (w32 x_7))), none, some (vl x_9), none, some (vi i_13), some (zv (decide ((0 < (w64 x_30)) ∧ ((w64 x_30) < (w64 x_9))))), some (vl size_12), none, some (vi i_13), some (vl ((w32 x_22) - (w32 x_24))), none, some (vl ((w32 x_26) - (w32 x_28))), none, some (vl x_30), none, some (zv (decide ((0 < (w64 x_30)) ∧ ((w64 x_30) < (w64 x_9))))), some (vl x_59), none]) dX2_farthest_216 (Nat.le_of_ble_eq_true rfl) rfl rfl ?_
          refine z_lload (M := M_X2_farthest) dX2_farthest_218 rfl ?_
          refine z_lstore (M := M_X2_farthest) (lv' := [some (vr shape_0), some (vi a_0), some (vi b_0), some (vi distance_0), some (vl ((w32 x_1) - (w32 x_3))), none, some (vl ((w32 x_5) - (w32 x_7))), none, some (vl x_9), none, some (vi i_13), some (zv (decide ((0 < (w64 x_30)) ∧ ((w64 x_30) < (w64 x_9))))), some (vl x_59), none, some (vi i_13), some (vl ((w32 x_22) - (w32 x_24))), none, some (vl ((w32 x_26) - (w32 x_28))), none, some (vl x_30), none, some (zv (decide ((0 < (w64 x_30)) ∧ ((w64 x_30) < (w64 x_9))))), some (vl x_59), none]) dX2_farthest_220 (Nat.le_of_ble_eq_true rfl) rfl rfl ?_
          exact J_71 _ _ _ (Option.some.inj H).symm
        · refine z_zeq_t (M := M_X2_farthest) (tgt := 222) dX2_farthest_207 (by decide) h_64 ?_
          exact J_71 _ _ _ (Option.some.inj H).symm
      have H := he_73
      refine z_zload (M := M_X2_farthest) dX2_farthest_142 rfl ?_
      rcases if_e H with ⟨h_44, H⟩ | ⟨h_44, H⟩
      · refine z_zeq_f (M := M_X2_farthest) (tgt := 164) dX2_farthest_144 (by decide) h_44 ?_
        refine z_lload (M := M_X2_farthest) dX2_farthest_147 rfl ?_
        refine z_lload (M := M_X2_farthest) dX2_farthest_149 rfl ?_
        refine z_lmul (M := M_X2_farthest) dX2_farthest_151 ?_
        refine z_lload (M := M_X2_farthest) dX2_farthest_152 rfl ?_
        refine z_lload (M := M_X2_farthest) dX2_farthest_154 rfl ?_
        refine z_lmul (M := M_X2_farthest) dX2_farthest_156 ?_
        refine z_lsub (M := M_X2_farthest) dX2_farthest_157 ?_
        refine z_labs (M := M_X2_farthest) dX2_farthest_158 t_2209 t_1131 t_20 t_1132 (Nat.le_of_ble_eq_true rfl) (Nat.le_of_ble_eq_true rfl) (Nat.le_of_ble_eq_true rfl) (Nat.le_of_ble_eq_true rfl) ?_
        refine z_goto (M := M_X2_farthest) (tgt := 192) dX2_farthest_161 (by decide) ?_
        exact J_75 _ (Option.some.inj H).symm
      · refine z_zeq_t (M := M_X2_farthest) (tgt := 164) dX2_farthest_144 (by decide) h_44 ?_
        obtain ⟨v_55, he_56, hk_57⟩ := bd_e H
        have J_58 : ∀ x_53, v_55 = x_53 → YY l E M_X2_farthest 4 0 0 (pS (some (vi r)) σ) 192 [some (vr shape_0), some (vi a_0), some (vi b_0), some (vi distance_0), some (vl ((w32 x_1) - (w32 x_3))), none, some (vl ((w32 x_5) - (w32 x_7))), none, some (vl x_9), none, some (vi best_10), some (zv beside_11), some (vl size_12), none, some (vi i_13), some (vl ((w32 x_22) - (w32 x_24))), none, some (vl ((w32 x_26) - (w32 x_28))), none, some (vl x_30), none, some (zv (decide ((0 < (w64 x_30)) ∧ ((w64 x_30) < (w64 x_9))))), none, none] [vl x_53] σ 0 0 := by
          intro x_53 e
          have H := hk_57
          rw [e] at H
          exact J_75 _ (Option.some.inj H).symm
        have H := he_56
        refine z_lload (M := M_X2_farthest) dX2_farthest_164 rfl ?_
        refine z_lconst (M := M_X2_farthest) (m := 0) dX2_farthest_166 (by decide +kernel) ?_
        refine z_lcmp (M := M_X2_farthest) dX2_farthest_167 ?_
        rcases if_e H with ⟨h_48, H⟩ | ⟨h_48, H⟩
        · refine z_lif_gt_f (M := M_X2_farthest) (tgt := 185) dX2_farthest_168 (by decide) rfl (by decide +kernel) h_48 ?_
          refine z_lload (M := M_X2_farthest) dX2_farthest_171 rfl ?_
          refine z_lload (M := M_X2_farthest) dX2_farthest_173 rfl ?_
          refine z_lmul (M := M_X2_farthest) dX2_farthest_175 ?_
          refine z_lload (M := M_X2_farthest) dX2_farthest_176 rfl ?_
          refine z_lload (M := M_X2_farthest) dX2_farthest_178 rfl ?_
          refine z_lmul (M := M_X2_farthest) dX2_farthest_180 ?_
          refine z_ladd (M := M_X2_farthest) dX2_farthest_181 ?_
          refine z_goto (M := M_X2_farthest) (tgt := 192) dX2_farthest_182 (by decide) ?_
          exact J_58 _ (Option.some.inj H).symm
        · refine z_lif_gt_t (M := M_X2_farthest) (tgt := 185) dX2_farthest_168 (by decide) rfl (by decide +kernel) (Int.not_le.mp h_48) ?_
          refine z_aload_n (M := M_X2_farthest) dX2_farthest_185 rfl ?_
          refine z_iload (M := M_X2_farthest) dX2_farthest_186 rfl ?_
          refine z_iload_n (M := M_X2_farthest) dX2_farthest_188 rfl ?_
          obtain ⟨x_51, hc_50, H⟩ := bd_e H
          refine z_callS (M := M_X2_farthest) (M' := M_X2_squareTo) (as := [vr shape_0, vi i_13, vi b_0]) (rest := []) rfl rfl dX2_farthest_189 m_X2_squareTo t_2210 t_2211 (c_X2_squareTo hl h_shape hc_50) rfl rfl (Nat.le_of_ble_eq_true rfl) (Nat.le_of_ble_eq_true rfl) (Nat.le_of_ble_eq_true rfl) (Nat.le_of_ble_eq_true rfl) ?_
          refine z_st (st' := [vl x_51]) rfl ?_
          exact J_58 _ (Option.some.inj H).symm
    refine z_lload (M := M_X2_farthest) dX2_farthest_120 rfl ?_
    refine z_lconst (M := M_X2_farthest) (m := 0) dX2_farthest_122 (by decide +kernel) ?_
    refine z_lcmp (M := M_X2_farthest) dX2_farthest_123 ?_
    by_cases h_76 : 0 < (w64 x_30)
    · refine z_lif_le_f (M := M_X2_farthest) (tgt := 139) dX2_farthest_124 (by decide) rfl (by decide +kernel) h_76 ?_
      refine z_lload (M := M_X2_farthest) dX2_farthest_127 rfl ?_
      refine z_lload (M := M_X2_farthest) dX2_farthest_129 rfl ?_
      refine z_lcmp (M := M_X2_farthest) dX2_farthest_131 ?_
      by_cases h_77 : (w64 x_30) < (w64 x_9)
      · refine z_lif_ge_f (M := M_X2_farthest) (tgt := 139) dX2_farthest_132 (by decide) rfl rfl h_77 ?_
        refine z_iconst (M := M_X2_farthest) dX2_farthest_135 ?_
        refine z_goto (M := M_X2_farthest) (tgt := 140) dX2_farthest_136 (by decide) ?_
        exact z_st (by rw [zv_t (p := (0 < (w64 x_30)) ∧ ((w64 x_30) < (w64 x_9))) ⟨h_76, h_77⟩]) J_31
      · refine z_lif_ge_t (M := M_X2_farthest) (tgt := 139) dX2_farthest_132 (by decide) rfl rfl (Int.not_lt.mp h_77) ?_
        refine z_iconst (M := M_X2_farthest) dX2_farthest_139 ?_
        exact z_st (by rw [zv_f (p := (0 < (w64 x_30)) ∧ ((w64 x_30) < (w64 x_9))) (fun q => h_77 q.2)]) J_31
    · refine z_lif_le_t (M := M_X2_farthest) (tgt := 139) dX2_farthest_124 (by decide) rfl (by decide +kernel) (Int.not_lt.mp h_76) ?_
      refine z_iconst (M := M_X2_farthest) dX2_farthest_139 ?_
      exact z_st (by rw [zv_f (p := (0 < (w64 x_30)) ∧ ((w64 x_30) < (w64 x_9))) (fun q => h_76 q.1)]) J_31
  · refine z_icmp_ge_t (M := M_X2_farthest) (tgt := 228) dX2_farthest_68 (by decide) rfl rfl (Int.not_lt.mp h_21) ?_
    exact J_83 _ _ _ _ (K_20 _ (Option.some.inj H).symm).symm
end LFAH
