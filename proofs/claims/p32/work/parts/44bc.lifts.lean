section LFBC
variable {l : Launch} {E : EE}
theorem c_X12_inCircle (hl : l.stackTraces = false) {σ : SG} {a_0 : Int} {b_0 : Int} {c_0 : Int} {p_0 : Int} {r : Int} {σ' : SG}  (H : fR_inCircle σ a_0 b_0 c_0 p_0 = some (r, σ')) : en_S l E M_X12_inCircle 5 0 0 [vr 277, vi a_0, vi b_0, vi c_0, vi p_0] σ (pS (some (vi r)) σ') := by
  unfold fR_inCircle at H
  refine z_mk (lv := [some (vr 277), some (vi a_0), some (vi b_0), some (vi c_0), some (vi p_0), none]) m_X12_inCircle rfl hl (Nat.le_of_ble_eq_true rfl) rfl ?_
  refine z_aload_n (M := M_X12_inCircle) dX12_inCircle_0 rfl ?_
  refine z_iconst (M := M_X12_inCircle) dX12_inCircle_1 ?_
  refine z_aload_n (M := M_X12_inCircle) dX12_inCircle_2 rfl ?_
  refine z_getR (M := M_X12_inCircle) (ci := 15) (C := RX12) (T := TX12) (Nf := 135) (ty := tyX12) cl15 dX12_inCircle_3 ly_277 117 (by decide) t_2508 rfl ?_
  refine z_iload_n (M := M_X12_inCircle) dX12_inCircle_6 rfl ?_
  obtain ⟨x_1, x_1_e, hi_2, H⟩ := rd_e H
  refine z_lald (M := M_X12_inCircle) dX12_inCircle_7 ly_346 rfl rfl rfl hi_2 x_1_e ?_
  refine z_aload_n (M := M_X12_inCircle) dX12_inCircle_8 rfl ?_
  refine z_getR (M := M_X12_inCircle) (ci := 15) (C := RX12) (T := TX12) (Nf := 135) (ty := tyX12) cl15 dX12_inCircle_9 ly_277 117 (by decide) t_2508 rfl ?_
  refine z_iload (M := M_X12_inCircle) dX12_inCircle_12 rfl ?_
  obtain ⟨x_3, x_3_e, hi_4, H⟩ := rd_e H
  refine z_lald (M := M_X12_inCircle) dX12_inCircle_14 ly_346 rfl rfl rfl hi_4 x_3_e ?_
  refine z_lsub (M := M_X12_inCircle) dX12_inCircle_15 ?_
  obtain ⟨σ_6, hc_5, H⟩ := bd_e H
  refine z_callV (M := M_X12_inCircle) (M' := M_X12_set) (as := [vi 0, vl (x_1 - x_3)]) (rest := []) rfl rfl dX12_inCircle_16 m_X12_set t_3210 t_3212 s_222 (c_X12_set hl  hc_5) rfl rfl ly_277 rfl (Nat.le_of_ble_eq_true rfl) (Nat.le_of_ble_eq_true rfl) (Nat.le_of_ble_eq_true rfl) (Nat.le_of_ble_eq_true rfl) ?_
  refine z_st (st' := []) rfl ?_
  refine z_aload_n (M := M_X12_inCircle) dX12_inCircle_19 rfl ?_
  refine z_iconst (M := M_X12_inCircle) dX12_inCircle_20 ?_
  refine z_aload_n (M := M_X12_inCircle) dX12_inCircle_21 rfl ?_
  refine z_getR (M := M_X12_inCircle) (ci := 15) (C := RX12) (T := TX12) (Nf := 135) (ty := tyX12) cl15 dX12_inCircle_22 ly_277 118 (by decide) t_2509 rfl ?_
  refine z_iload_n (M := M_X12_inCircle) dX12_inCircle_25 rfl ?_
  obtain ⟨x_7, x_7_e, hi_8, H⟩ := rd_e H
  refine z_lald (M := M_X12_inCircle) dX12_inCircle_26 ly_347 rfl rfl rfl hi_8 x_7_e ?_
  refine z_aload_n (M := M_X12_inCircle) dX12_inCircle_27 rfl ?_
  refine z_getR (M := M_X12_inCircle) (ci := 15) (C := RX12) (T := TX12) (Nf := 135) (ty := tyX12) cl15 dX12_inCircle_28 ly_277 118 (by decide) t_2509 rfl ?_
  refine z_iload (M := M_X12_inCircle) dX12_inCircle_31 rfl ?_
  obtain ⟨x_9, x_9_e, hi_10, H⟩ := rd_e H
  refine z_lald (M := M_X12_inCircle) dX12_inCircle_33 ly_347 rfl rfl rfl hi_10 x_9_e ?_
  refine z_lsub (M := M_X12_inCircle) dX12_inCircle_34 ?_
  obtain ⟨σ_12, hc_11, H⟩ := bd_e H
  refine z_callV (M := M_X12_inCircle) (M' := M_X12_set) (as := [vi 1, vl (x_7 - x_9)]) (rest := []) rfl rfl dX12_inCircle_35 m_X12_set t_3210 t_3212 s_222 (c_X12_set hl  hc_11) rfl rfl ly_277 rfl (Nat.le_of_ble_eq_true rfl) (Nat.le_of_ble_eq_true rfl) (Nat.le_of_ble_eq_true rfl) (Nat.le_of_ble_eq_true rfl) ?_
  refine z_st (st' := []) rfl ?_
  refine z_aload_n (M := M_X12_inCircle) dX12_inCircle_38 rfl ?_
  refine z_iconst (M := M_X12_inCircle) dX12_inCircle_39 ?_
  refine z_aload_n (M := M_X12_inCircle) dX12_inCircle_40 rfl ?_
  refine z_getR (M := M_X12_inCircle) (ci := 15) (C := RX12) (T := TX12) (Nf := 135) (ty := tyX12) cl15 dX12_inCircle_41 ly_277 117 (by decide) t_2508 rfl ?_
  refine z_iload_n (M := M_X12_inCircle) dX12_inCircle_44 rfl ?_
  obtain ⟨x_13, x_13_e, hi_14, H⟩ := rd_e H
  refine z_lald (M := M_X12_inCircle) dX12_inCircle_45 ly_346 rfl rfl rfl hi_14 x_13_e ?_
  refine z_aload_n (M := M_X12_inCircle) dX12_inCircle_46 rfl ?_
  refine z_getR (M := M_X12_inCircle) (ci := 15) (C := RX12) (T := TX12) (Nf := 135) (ty := tyX12) cl15 dX12_inCircle_47 ly_277 117 (by decide) t_2508 rfl ?_
  refine z_iload (M := M_X12_inCircle) dX12_inCircle_50 rfl ?_
  obtain ⟨x_15, x_15_e, hi_16, H⟩ := rd_e H
  refine z_lald (M := M_X12_inCircle) dX12_inCircle_52 ly_346 rfl rfl rfl hi_16 x_15_e ?_
  refine z_lsub (M := M_X12_inCircle) dX12_inCircle_53 ?_
  obtain ⟨σ_18, hc_17, H⟩ := bd_e H
  refine z_callV (M := M_X12_inCircle) (M' := M_X12_set) (as := [vi 3, vl (x_13 - x_15)]) (rest := []) rfl rfl dX12_inCircle_54 m_X12_set t_3210 t_3212 s_222 (c_X12_set hl  hc_17) rfl rfl ly_277 rfl (Nat.le_of_ble_eq_true rfl) (Nat.le_of_ble_eq_true rfl) (Nat.le_of_ble_eq_true rfl) (Nat.le_of_ble_eq_true rfl) ?_
  refine z_st (st' := []) rfl ?_
  refine z_aload_n (M := M_X12_inCircle) dX12_inCircle_57 rfl ?_
  refine z_iconst (M := M_X12_inCircle) dX12_inCircle_58 ?_
  refine z_aload_n (M := M_X12_inCircle) dX12_inCircle_59 rfl ?_
  refine z_getR (M := M_X12_inCircle) (ci := 15) (C := RX12) (T := TX12) (Nf := 135) (ty := tyX12) cl15 dX12_inCircle_60 ly_277 118 (by decide) t_2509 rfl ?_
  refine z_iload_n (M := M_X12_inCircle) dX12_inCircle_63 rfl ?_
  obtain ⟨x_19, x_19_e, hi_20, H⟩ := rd_e H
  refine z_lald (M := M_X12_inCircle) dX12_inCircle_64 ly_347 rfl rfl rfl hi_20 x_19_e ?_
  refine z_aload_n (M := M_X12_inCircle) dX12_inCircle_65 rfl ?_
  refine z_getR (M := M_X12_inCircle) (ci := 15) (C := RX12) (T := TX12) (Nf := 135) (ty := tyX12) cl15 dX12_inCircle_66 ly_277 118 (by decide) t_2509 rfl ?_
  refine z_iload (M := M_X12_inCircle) dX12_inCircle_69 rfl ?_
  obtain ⟨x_21, x_21_e, hi_22, H⟩ := rd_e H
  refine z_lald (M := M_X12_inCircle) dX12_inCircle_71 ly_347 rfl rfl rfl hi_22 x_21_e ?_
  refine z_lsub (M := M_X12_inCircle) dX12_inCircle_72 ?_
  obtain ⟨σ_24, hc_23, H⟩ := bd_e H
  refine z_callV (M := M_X12_inCircle) (M' := M_X12_set) (as := [vi 4, vl (x_19 - x_21)]) (rest := []) rfl rfl dX12_inCircle_73 m_X12_set t_3210 t_3212 s_222 (c_X12_set hl  hc_23) rfl rfl ly_277 rfl (Nat.le_of_ble_eq_true rfl) (Nat.le_of_ble_eq_true rfl) (Nat.le_of_ble_eq_true rfl) (Nat.le_of_ble_eq_true rfl) ?_
  refine z_st (st' := []) rfl ?_
  refine z_aload_n (M := M_X12_inCircle) dX12_inCircle_76 rfl ?_
  refine z_bipush (M := M_X12_inCircle) dX12_inCircle_77 (by decide +kernel) ?_
  refine z_aload_n (M := M_X12_inCircle) dX12_inCircle_79 rfl ?_
  refine z_getR (M := M_X12_inCircle) (ci := 15) (C := RX12) (T := TX12) (Nf := 135) (ty := tyX12) cl15 dX12_inCircle_80 ly_277 117 (by decide) t_2508 rfl ?_
  refine z_iload_n (M := M_X12_inCircle) dX12_inCircle_83 rfl ?_
  obtain ⟨x_25, x_25_e, hi_26, H⟩ := rd_e H
  refine z_lald (M := M_X12_inCircle) dX12_inCircle_84 ly_346 rfl rfl rfl hi_26 x_25_e ?_
  refine z_aload_n (M := M_X12_inCircle) dX12_inCircle_85 rfl ?_
  refine z_getR (M := M_X12_inCircle) (ci := 15) (C := RX12) (T := TX12) (Nf := 135) (ty := tyX12) cl15 dX12_inCircle_86 ly_277 117 (by decide) t_2508 rfl ?_
  refine z_iload (M := M_X12_inCircle) dX12_inCircle_89 rfl ?_
  obtain ⟨x_27, x_27_e, hi_28, H⟩ := rd_e H
  refine z_lald (M := M_X12_inCircle) dX12_inCircle_91 ly_346 rfl rfl rfl hi_28 x_27_e ?_
  refine z_lsub (M := M_X12_inCircle) dX12_inCircle_92 ?_
  obtain ⟨σ_30, hc_29, H⟩ := bd_e H
  refine z_callV (M := M_X12_inCircle) (M' := M_X12_set) (as := [vi 6, vl (x_25 - x_27)]) (rest := []) rfl rfl dX12_inCircle_93 m_X12_set t_3210 t_3212 s_222 (c_X12_set hl  hc_29) rfl rfl ly_277 rfl (Nat.le_of_ble_eq_true rfl) (Nat.le_of_ble_eq_true rfl) (Nat.le_of_ble_eq_true rfl) (Nat.le_of_ble_eq_true rfl) ?_
  refine z_st (st' := []) rfl ?_
  refine z_aload_n (M := M_X12_inCircle) dX12_inCircle_96 rfl ?_
  refine z_bipush (M := M_X12_inCircle) dX12_inCircle_97 (by decide +kernel) ?_
  refine z_aload_n (M := M_X12_inCircle) dX12_inCircle_99 rfl ?_
  refine z_getR (M := M_X12_inCircle) (ci := 15) (C := RX12) (T := TX12) (Nf := 135) (ty := tyX12) cl15 dX12_inCircle_100 ly_277 118 (by decide) t_2509 rfl ?_
  refine z_iload_n (M := M_X12_inCircle) dX12_inCircle_103 rfl ?_
  obtain ⟨x_31, x_31_e, hi_32, H⟩ := rd_e H
  refine z_lald (M := M_X12_inCircle) dX12_inCircle_104 ly_347 rfl rfl rfl hi_32 x_31_e ?_
  refine z_aload_n (M := M_X12_inCircle) dX12_inCircle_105 rfl ?_
  refine z_getR (M := M_X12_inCircle) (ci := 15) (C := RX12) (T := TX12) (Nf := 135) (ty := tyX12) cl15 dX12_inCircle_106 ly_277 118 (by decide) t_2509 rfl ?_
  refine z_iload (M := M_X12_inCircle) dX12_inCircle_109 rfl ?_
  obtain ⟨x_33, x_33_e, hi_34, H⟩ := rd_e H
  refine z_lald (M := M_X12_inCircle) dX12_inCircle_111 ly_347 rfl rfl rfl hi_34 x_33_e ?_
  refine z_lsub (M := M_X12_inCircle) dX12_inCircle_112 ?_
  obtain ⟨σ_36, hc_35, H⟩ := bd_e H
  refine z_callV (M := M_X12_inCircle) (M' := M_X12_set) (as := [vi 7, vl (x_31 - x_33)]) (rest := []) rfl rfl dX12_inCircle_113 m_X12_set t_3210 t_3212 s_222 (c_X12_set hl  hc_35) rfl rfl ly_277 rfl (Nat.le_of_ble_eq_true rfl) (Nat.le_of_ble_eq_true rfl) (Nat.le_of_ble_eq_true rfl) (Nat.le_of_ble_eq_true rfl) ?_
  refine z_st (st' := []) rfl ?_
  refine z_iconst (M := M_X12_inCircle) dX12_inCircle_116 ?_
  refine z_istore (M := M_X12_inCircle) (lv' := [some (vr 277), some (vi a_0), some (vi b_0), some (vi c_0), some (vi p_0), some (vi 0)]) dX12_inCircle_117 (Nat.le_of_ble_eq_true rfl) rfl rfl ?_
  obtain ⟨rl_42, hw_39, hk_40⟩ := bd_e H
  have J_56 : ∀ row_51 σ_52, rl_42 = (row_51, σ_52) → YY l E M_X12_inCircle 5 0 0 (pS (some (vi r)) σ') 137 [some (vr 277), some (vi a_0), some (vi b_0), some (vi c_0), some (vi p_0), some (vi row_51)] [] σ_52 0 0 := by
    intro row_51 σ_52 e
    have H := hk_40
    rw [e] at H
    refine z_aload_n (M := M_X12_inCircle) dX12_inCircle_137 rfl ?_
    obtain ⟨⟨x_55, σ_54⟩, hc_53, H⟩ := bd_e H
    refine z_callV (M := M_X12_inCircle) (M' := M_X12_determinant) (as := []) (rest := []) rfl rfl dX12_inCircle_138 m_X12_determinant t_3206 t_3208 s_221 (c_X12_determinant hl  hc_53) rfl rfl ly_277 rfl (Nat.le_of_ble_eq_true rfl) (Nat.le_of_ble_eq_true rfl) (Nat.le_of_ble_eq_true rfl) (Nat.le_of_ble_eq_true rfl) ?_
    refine z_st (st' := [vi x_55]) rfl ?_
    cases H
    exact z_iret (M := M_X12_inCircle) dX12_inCircle_141 rfl (Nat.le_of_ble_eq_true rfl) (Nat.le_of_ble_eq_true rfl) ⟨rfl, rfl⟩
  refine whl_go hw_39 (fun (row_37, σ_38) => YY l E M_X12_inCircle 5 0 0 (pS (some (vi r)) σ') 119 [some (vr 277), some (vi a_0), some (vi b_0), some (vi c_0), some (vi p_0), some (vi row_37)] [] σ_38 0 0) ?_
  rintro ⟨row_37, σ_38⟩ o_43 H K_44 K_45
  refine z_iload (M := M_X12_inCircle) dX12_inCircle_119 rfl ?_
  refine z_iconst (M := M_X12_inCircle) dX12_inCircle_121 ?_
  rcases if_e H with ⟨h_46, H⟩ | ⟨h_46, H⟩
  · refine z_icmp_ge_f (M := M_X12_inCircle) (tgt := 137) dX12_inCircle_122 (by decide) rfl (by decide +kernel) h_46 ?_
    refine z_aload_n (M := M_X12_inCircle) dX12_inCircle_125 rfl ?_
    refine z_iload (M := M_X12_inCircle) dX12_inCircle_126 rfl ?_
    obtain ⟨σ_48, hc_47, H⟩ := bd_e H
    refine z_callV (M := M_X12_inCircle) (M' := M_X12_squares) (as := [vi row_37]) (rest := []) rfl rfl dX12_inCircle_128 m_X12_squares t_3202 t_3204 s_220 (c_X12_squares hl  hc_47) rfl rfl ly_277 rfl (Nat.le_of_ble_eq_true rfl) (Nat.le_of_ble_eq_true rfl) (Nat.le_of_ble_eq_true rfl) (Nat.le_of_ble_eq_true rfl) ?_
    refine z_st (st' := []) rfl ?_
    refine z_iinc (M := M_X12_inCircle) (lv' := [some (vr 277), some (vi a_0), some (vi b_0), some (vi c_0), some (vi p_0), some (vi (row_37 + 1))]) dX12_inCircle_131 rfl (Nat.le_of_ble_eq_true rfl) rfl rfl ?_
    refine z_goto (M := M_X12_inCircle) (tgt := 119) dX12_inCircle_134 (by decide) ?_
    exact K_44 _ (Option.some.inj H).symm
  · refine z_icmp_ge_t (M := M_X12_inCircle) (tgt := 137) dX12_inCircle_122 (by decide) rfl (by decide +kernel) (Int.not_lt.mp h_46) ?_
    exact J_56 _ _ (K_45 _ (Option.some.inj H).symm).symm
theorem c_X12_third (hl : l.stackTraces = false) {σ : SG} {a_0 : Int} {b_0 : Int} {r : Int} {σ' : SG}  (H : fR_third σ a_0 b_0 = some (r, σ')) : en_S l E M_X12_third 6 0 0 [vr 277, vi a_0, vi b_0] σ (pS (some (vi r)) σ') := by
  unfold fR_third at H
  refine z_mk (lv := [some (vr 277), some (vi a_0), some (vi b_0), none, none]) m_X12_third rfl hl (Nat.le_of_ble_eq_true rfl) rfl ?_
  refine z_iconst (M := M_X12_third) dX12_third_0 ?_
  refine z_istore_n (M := M_X12_third) (lv' := [some (vr 277), some (vi a_0), some (vi b_0), some (vi (-1)), none]) dX12_third_1 (Nat.le_of_ble_eq_true rfl) rfl rfl ?_
  refine z_iconst (M := M_X12_third) dX12_third_2 ?_
  refine z_istore (M := M_X12_third) (lv' := [some (vr 277), some (vi a_0), some (vi b_0), some (vi (-1)), some (vi 0)]) dX12_third_3 (Nat.le_of_ble_eq_true rfl) rfl rfl ?_
  obtain ⟨rl_7, hw_4, hk_5⟩ := bd_e H
  have J_59 : ∀ best_56 k_57 σ_58, rl_7 = (best_56, k_57, σ_58) → YY l E M_X12_third 6 0 0 (pS (some (vi r)) σ') 66 [some (vr 277), some (vi a_0), some (vi b_0), some (vi best_56), some (vi k_57)] [] σ_58 0 0 := by
    intro best_56 k_57 σ_58 e
    have H := hk_5
    rw [e] at H
    refine z_iload_n (M := M_X12_third) dX12_third_66 rfl ?_
    cases H
    exact z_iret (M := M_X12_third) dX12_third_67 rfl (Nat.le_of_ble_eq_true rfl) (Nat.le_of_ble_eq_true rfl) ⟨rfl, rfl⟩
  refine whl_go hw_4 (fun (best_1, k_2, σ_3) => YY l E M_X12_third 6 0 0 (pS (some (vi r)) σ') 5 [some (vr 277), some (vi a_0), some (vi b_0), some (vi best_1), some (vi k_2)] [] σ_3 0 0) ?_
  rintro ⟨best_1, k_2, σ_3⟩ o_8 H K_9 K_10
  refine z_iload (M := M_X12_third) dX12_third_5 rfl ?_
  refine z_aload_n (M := M_X12_third) dX12_third_7 rfl ?_
  refine z_getI (M := M_X12_third) (ci := 15) (C := RX12) (T := TX12) (Nf := 135) (ty := tyX12) cl15 dX12_third_8 ly_277 119 (by decide) t_2510 rfl rfl ?_
  rcases if_e H with ⟨h_11, H⟩ | ⟨h_11, H⟩
  · refine z_icmp_ge_f (M := M_X12_third) (tgt := 66) dX12_third_11 (by decide) rfl rfl h_11 ?_
    refine z_iload (M := M_X12_third) dX12_third_14 rfl ?_
    refine z_iload_n (M := M_X12_third) dX12_third_16 rfl ?_
    rcases if_e H with ⟨h_22, H⟩ | ⟨h_22, H⟩
    · refine z_icmp_eq_t (M := M_X12_third) (tgt := 60) dX12_third_17 (by decide) rfl rfl h_22 ?_
      refine z_iinc (M := M_X12_third) (lv' := [some (vr 277), some (vi a_0), some (vi b_0), some (vi best_1), some (vi (k_2 + 1))]) dX12_third_60 rfl (Nat.le_of_ble_eq_true rfl) rfl rfl ?_
      refine z_goto (M := M_X12_third) (tgt := 5) dX12_third_63 (by decide) ?_
      exact K_9 _ (Option.some.inj H).symm
    · refine z_icmp_eq_f (M := M_X12_third) (tgt := 60) dX12_third_17 (by decide) rfl rfl h_22 ?_
      refine z_iload (M := M_X12_third) dX12_third_20 rfl ?_
      refine z_iload_n (M := M_X12_third) dX12_third_22 rfl ?_
      rcases if_e H with ⟨h_24, H⟩ | ⟨h_24, H⟩
      · refine z_icmp_eq_t (M := M_X12_third) (tgt := 60) dX12_third_23 (by decide) rfl rfl h_24 ?_
        refine z_iinc (M := M_X12_third) (lv' := [some (vr 277), some (vi a_0), some (vi b_0), some (vi best_1), some (vi (k_2 + 1))]) dX12_third_60 rfl (Nat.le_of_ble_eq_true rfl) rfl rfl ?_
        refine z_goto (M := M_X12_third) (tgt := 5) dX12_third_63 (by decide) ?_
        exact K_9 _ (Option.some.inj H).symm
      · refine z_icmp_eq_f (M := M_X12_third) (tgt := 60) dX12_third_23 (by decide) rfl rfl h_24 ?_
        refine z_aload_n (M := M_X12_third) dX12_third_26 rfl ?_
        refine z_iload_n (M := M_X12_third) dX12_third_27 rfl ?_
        refine z_iload_n (M := M_X12_third) dX12_third_28 rfl ?_
        refine z_iload (M := M_X12_third) dX12_third_29 rfl ?_
        obtain ⟨x_27, hc_26, H⟩ := bd_e H
        refine z_callV (M := M_X12_third) (M' := M_X12_turnOf) (as := [vi a_0, vi b_0, vi k_2]) (rest := []) rfl rfl dX12_third_31 m_X12_turnOf t_3641 t_3643 s_313 (c_X12_turnOf hl  hc_26) rfl rfl ly_277 rfl (Nat.le_of_ble_eq_true rfl) (Nat.le_of_ble_eq_true rfl) (Nat.le_of_ble_eq_true rfl) (Nat.le_of_ble_eq_true rfl) ?_
        refine z_st (st' := [vi x_27]) rfl ?_
        rcases if_e H with ⟨h_28, H⟩ | ⟨h_28, H⟩
        · refine z_if_gt_f (M := M_X12_third) (tgt := 40) dX12_third_34 (by decide) rfl h_28 ?_
          refine z_goto (M := M_X12_third) (tgt := 60) dX12_third_37 (by decide) ?_
          refine z_iinc (M := M_X12_third) (lv' := [some (vr 277), some (vi a_0), some (vi b_0), some (vi best_1), some (vi (k_2 + 1))]) dX12_third_60 rfl (Nat.le_of_ble_eq_true rfl) rfl rfl ?_
          refine z_goto (M := M_X12_third) (tgt := 5) dX12_third_63 (by decide) ?_
          exact K_9 _ (Option.some.inj H).symm
        · refine z_if_gt_t (M := M_X12_third) (tgt := 40) dX12_third_34 (by decide) rfl (Int.not_le.mp h_28) ?_
          obtain ⟨v_33, he_30, hk_31⟩ := bd_e H
          have J_54 : ∀ best_51 σ_52, v_33 = (best_51, σ_52) → YY l E M_X12_third 6 0 0 (pS (some (vi r)) σ') 60 [some (vr 277), some (vi a_0), some (vi b_0), some (vi best_51), some (vi k_2)] [] σ_52 0 0 := by
            intro best_51 σ_52 e
            have H := hk_31
            rw [e] at H
            refine z_iinc (M := M_X12_third) (lv' := [some (vr 277), some (vi a_0), some (vi b_0), some (vi best_51), some (vi (k_2 + 1))]) dX12_third_60 rfl (Nat.le_of_ble_eq_true rfl) rfl rfl ?_
            refine z_goto (M := M_X12_third) (tgt := 5) dX12_third_63 (by decide) ?_
            exact K_9 _ (Option.some.inj H).symm
          have H := he_30
          refine z_iload_n (M := M_X12_third) dX12_third_40 rfl ?_
          refine z_iconst (M := M_X12_third) dX12_third_41 ?_
          rcases if_e H with ⟨h_43, H⟩ | ⟨h_43, H⟩
          · refine z_icmp_eq_t (M := M_X12_third) (tgt := 57) dX12_third_42 (by decide) rfl (by decide +kernel) h_43 ?_
            refine z_iload (M := M_X12_third) dX12_third_57 rfl ?_
            refine z_istore_n (M := M_X12_third) (lv' := [some (vr 277), some (vi a_0), some (vi b_0), some (vi k_2), some (vi k_2)]) dX12_third_59 (Nat.le_of_ble_eq_true rfl) rfl rfl ?_
            exact J_54 _ _ (Option.some.inj H).symm
          · refine z_icmp_eq_f (M := M_X12_third) (tgt := 57) dX12_third_42 (by decide) rfl (by decide +kernel) h_43 ?_
            refine z_aload_n (M := M_X12_third) dX12_third_45 rfl ?_
            refine z_iload_n (M := M_X12_third) dX12_third_46 rfl ?_
            refine z_iload_n (M := M_X12_third) dX12_third_47 rfl ?_
            refine z_iload_n (M := M_X12_third) dX12_third_48 rfl ?_
            refine z_iload (M := M_X12_third) dX12_third_49 rfl ?_
            obtain ⟨⟨x_47, σ_46⟩, hc_45, H⟩ := bd_e H
            refine z_callV (M := M_X12_third) (M' := M_X12_inCircle) (as := [vi a_0, vi b_0, vi best_1, vi k_2]) (rest := []) rfl rfl dX12_third_51 m_X12_inCircle t_3665 t_3667 s_318 (c_X12_inCircle hl  hc_45) rfl rfl ly_277 rfl (Nat.le_of_ble_eq_true rfl) (Nat.le_of_ble_eq_true rfl) (Nat.le_of_ble_eq_true rfl) (Nat.le_of_ble_eq_true rfl) ?_
            refine z_st (st' := [vi x_47]) rfl ?_
            rcases if_e H with ⟨h_48, H⟩ | ⟨h_48, H⟩
            · refine z_if_le_f (M := M_X12_third) (tgt := 60) dX12_third_54 (by decide) rfl h_48 ?_
              refine z_iload (M := M_X12_third) dX12_third_57 rfl ?_
              refine z_istore_n (M := M_X12_third) (lv' := [some (vr 277), some (vi a_0), some (vi b_0), some (vi k_2), some (vi k_2)]) dX12_third_59 (Nat.le_of_ble_eq_true rfl) rfl rfl ?_
              exact J_54 _ _ (Option.some.inj H).symm
            · refine z_if_le_t (M := M_X12_third) (tgt := 60) dX12_third_54 (by decide) rfl (Int.not_lt.mp h_48) ?_
              exact J_54 _ _ (Option.some.inj H).symm
  · refine z_icmp_ge_t (M := M_X12_third) (tgt := 66) dX12_third_11 (by decide) rfl rfl (Int.not_lt.mp h_11) ?_
    exact J_59 _ _ _ (K_10 _ (Option.some.inj H).symm).symm
theorem c_X12_gatherCircle (hl : l.stackTraces = false) {σ : SG} {a_0 : Int} {b_0 : Int} {c_0 : Int} {σ' : SG}  (H : fR_gatherCircle σ a_0 b_0 c_0 = some σ') : en_S l E M_X12_gatherCircle 6 0 0 [vr 277, vi a_0, vi b_0, vi c_0] σ (pS (none) σ') := by
  unfold fR_gatherCircle at H
  refine z_mk (lv := [some (vr 277), some (vi a_0), some (vi b_0), some (vi c_0), none, none, none, none]) m_X12_gatherCircle rfl hl (Nat.le_of_ble_eq_true rfl) rfl ?_
  refine z_aload_n (M := M_X12_gatherCircle) dX12_gatherCircle_0 rfl ?_
  refine z_iconst (M := M_X12_gatherCircle) dX12_gatherCircle_1 ?_
  obtain ⟨σ_1, σ_1_e, H⟩ := wf_e H
  refine z_putI (M := M_X12_gatherCircle) (ci := 15) (C := RX12) (T := TX12) (Nf := 135) (ty := tyX12) cl15 dX12_gatherCircle_2 ly_277 127 (by decide) t_2518 rfl rfl rfl rfl σ_1_e ?_
  obtain ⟨v_175, he_176, hk_177⟩ := bd_e H
  have J_178 : ∀ x_7, v_175 = x_7 → YY l E M_X12_gatherCircle 6 0 0 (pS (none) σ') 19 [some (vr 277), some (vi a_0), some (vi b_0), some (vi c_0), none, none, none, none] [vi x_7] σ_1 0 0 := by
    intro x_7 e
    have H := hk_177
    rw [e] at H
    refine z_istore (M := M_X12_gatherCircle) (lv' := [some (vr 277), some (vi a_0), some (vi b_0), some (vi c_0), some (vi x_7), none, none, none]) dX12_gatherCircle_19 (Nat.le_of_ble_eq_true rfl) rfl rfl ?_
    obtain ⟨v_171, he_172, hk_173⟩ := bd_e H
    have J_174 : ∀ x_13, v_171 = x_13 → YY l E M_X12_gatherCircle 6 0 0 (pS (none) σ') 37 [some (vr 277), some (vi a_0), some (vi b_0), some (vi c_0), some (vi x_7), none, none, none] [vi x_13] σ_1 0 0 := by
      intro x_13 e
      have H := hk_173
      rw [e] at H
      refine z_istore (M := M_X12_gatherCircle) (lv' := [some (vr 277), some (vi a_0), some (vi b_0), some (vi c_0), some (vi x_13), none, none, none]) dX12_gatherCircle_37 (Nat.le_of_ble_eq_true rfl) rfl rfl ?_
      refine z_iconst (M := M_X12_gatherCircle) dX12_gatherCircle_39 ?_
      refine z_istore (M := M_X12_gatherCircle) (lv' := [some (vr 277), some (vi a_0), some (vi b_0), some (vi c_0), some (vi x_13), some (vi 0), none, none]) dX12_gatherCircle_40 (Nat.le_of_ble_eq_true rfl) rfl rfl ?_
      obtain ⟨rl_20, hw_17, hk_18⟩ := bd_e H
      have J_170 : ∀ least_66 k_67 σ_68, rl_20 = (least_66, k_67, σ_68) → YY l E M_X12_gatherCircle 6 0 0 (pS (none) σ') 114 [some (vr 277), some (vi a_0), some (vi b_0), some (vi c_0), some (vi least_66), some (vi k_67), none, none] [] σ_68 0 0 := by
        intro least_66 k_67 σ_68 e
        have H := hk_18
        rw [e] at H
        refine z_iconst (M := M_X12_gatherCircle) dX12_gatherCircle_114 ?_
        refine z_istore (M := M_X12_gatherCircle) (lv' := [some (vr 277), some (vi a_0), some (vi b_0), some (vi c_0), some (vi least_66), some (vi 0), none, none]) dX12_gatherCircle_115 (Nat.le_of_ble_eq_true rfl) rfl rfl ?_
        obtain ⟨rl_74, hw_71, hk_72⟩ := bd_e H
        have J_169 : ∀ k_145 σ_146, rl_74 = (k_145, σ_146) → YY l E M_X12_gatherCircle 6 0 0 (pS (none) σ') 256 [some (vr 277), some (vi a_0), some (vi b_0), some (vi c_0), some (vi least_66), some (vi k_145), none, none] [] σ_146 0 0 := by
          intro k_145 σ_146 e
          have H := hk_72
          rw [e] at H
          refine z_aload_n (M := M_X12_gatherCircle) dX12_gatherCircle_256 rfl ?_
          refine z_getI (M := M_X12_gatherCircle) (ci := 15) (C := RX12) (T := TX12) (Nf := 135) (ty := tyX12) cl15 dX12_gatherCircle_257 ly_277 127 (by decide) t_2518 rfl rfl ?_
          refine z_istore (M := M_X12_gatherCircle) (lv' := [some (vr 277), some (vi a_0), some (vi b_0), some (vi c_0), some (vi least_66), some (vi (σ_146 kR_circleMany 0)), none, none]) dX12_gatherCircle_260 (Nat.le_of_ble_eq_true rfl) rfl rfl ?_
          obtain ⟨rl_152, hw_149, hk_150⟩ := bd_e H
          have J_168 : ∀ i_163 σ_164, rl_152 = (i_163, σ_164) → YY l E M_X12_gatherCircle 6 0 0 (pS (none) σ') 289 [some (vr 277), some (vi a_0), some (vi b_0), some (vi c_0), some (vi least_66), some (vi i_163), none, none] [] σ_164 0 0 := by
            intro i_163 σ_164 e
            have H := hk_150
            rw [e] at H
            refine z_aload_n (M := M_X12_gatherCircle) dX12_gatherCircle_289 rfl ?_
            refine z_getR (M := M_X12_gatherCircle) (ci := 15) (C := RX12) (T := TX12) (Nf := 135) (ty := tyX12) cl15 dX12_gatherCircle_290 ly_277 126 (by decide) t_2517 rfl ?_
            refine z_iconst (M := M_X12_gatherCircle) dX12_gatherCircle_293 ?_
            refine z_iload (M := M_X12_gatherCircle) dX12_gatherCircle_294 rfl ?_
            obtain ⟨σ_165, σ_165_e, hi_166, H⟩ := wa_e H
            refine z_iast (M := M_X12_gatherCircle) dX12_gatherCircle_296 ly_352 rfl (by decide +kernel) rfl hi_166 σ_165_e ?_
            refine z_aload_n (M := M_X12_gatherCircle) dX12_gatherCircle_297 rfl ?_
            refine z_dup (M := M_X12_gatherCircle) dX12_gatherCircle_298 rfl ?_
            refine z_getI (M := M_X12_gatherCircle) (ci := 15) (C := RX12) (T := TX12) (Nf := 135) (ty := tyX12) cl15 dX12_gatherCircle_299 ly_277 127 (by decide) t_2518 rfl rfl ?_
            refine z_iconst (M := M_X12_gatherCircle) dX12_gatherCircle_302 ?_
            refine z_iadd (M := M_X12_gatherCircle) dX12_gatherCircle_303 ?_
            obtain ⟨σ_167, σ_167_e, H⟩ := wf_e H
            refine z_putI (M := M_X12_gatherCircle) (ci := 15) (C := RX12) (T := TX12) (Nf := 135) (ty := tyX12) cl15 dX12_gatherCircle_304 ly_277 127 (by decide) t_2518 rfl rfl rfl rfl σ_167_e ?_
            cases H
            exact z_vret (M := M_X12_gatherCircle) dX12_gatherCircle_307 rfl (Nat.le_of_ble_eq_true rfl) (Nat.le_of_ble_eq_true rfl) ⟨rfl, rfl⟩
          refine whl_go hw_149 (fun (i_147, σ_148) => YY l E M_X12_gatherCircle 6 0 0 (pS (none) σ') 262 [some (vr 277), some (vi a_0), some (vi b_0), some (vi c_0), some (vi least_66), some (vi i_147), none, none] [] σ_148 0 0) ?_
          rintro ⟨i_147, σ_148⟩ o_153 H K_154 K_155
          refine z_iload (M := M_X12_gatherCircle) dX12_gatherCircle_262 rfl ?_
          rcases if_e H with ⟨h_156, H⟩ | ⟨h_156, H⟩
          · refine z_if_le_f (M := M_X12_gatherCircle) (tgt := 289) dX12_gatherCircle_264 (by decide) rfl h_156 ?_
            refine z_aload_n (M := M_X12_gatherCircle) dX12_gatherCircle_267 rfl ?_
            refine z_getR (M := M_X12_gatherCircle) (ci := 15) (C := RX12) (T := TX12) (Nf := 135) (ty := tyX12) cl15 dX12_gatherCircle_268 ly_277 126 (by decide) t_2517 rfl ?_
            refine z_iload (M := M_X12_gatherCircle) dX12_gatherCircle_271 rfl ?_
            refine z_aload_n (M := M_X12_gatherCircle) dX12_gatherCircle_273 rfl ?_
            refine z_getR (M := M_X12_gatherCircle) (ci := 15) (C := RX12) (T := TX12) (Nf := 135) (ty := tyX12) cl15 dX12_gatherCircle_274 ly_277 126 (by decide) t_2517 rfl ?_
            refine z_iload (M := M_X12_gatherCircle) dX12_gatherCircle_277 rfl ?_
            refine z_iconst (M := M_X12_gatherCircle) dX12_gatherCircle_279 ?_
            refine z_isub (M := M_X12_gatherCircle) dX12_gatherCircle_280 ?_
            obtain ⟨x_157, x_157_e, hi_158, H⟩ := rd_e H
            refine z_iald (M := M_X12_gatherCircle) dX12_gatherCircle_281 ly_352 rfl rfl rfl hi_158 x_157_e ?_
            obtain ⟨σ_159, σ_159_e, hi_160, H⟩ := wa_e H
            refine z_iast (M := M_X12_gatherCircle) dX12_gatherCircle_282 ly_352 rfl rfl rfl hi_160 σ_159_e ?_
            refine z_iinc (M := M_X12_gatherCircle) (lv' := [some (vr 277), some (vi a_0), some (vi b_0), some (vi c_0), some (vi least_66), some (vi (i_147 + (-1))), none, none]) dX12_gatherCircle_283 rfl (Nat.le_of_ble_eq_true rfl) rfl rfl ?_
            refine z_goto (M := M_X12_gatherCircle) (tgt := 262) dX12_gatherCircle_286 (by decide) ?_
            exact K_154 _ (Option.some.inj H).symm
          · refine z_if_le_t (M := M_X12_gatherCircle) (tgt := 289) dX12_gatherCircle_264 (by decide) rfl (Int.not_lt.mp h_156) ?_
            exact J_168 _ _ (K_155 _ (Option.some.inj H).symm).symm
        refine whl_go hw_71 (fun (k_69, σ_70) => YY l E M_X12_gatherCircle 6 0 0 (pS (none) σ') 117 [some (vr 277), some (vi a_0), some (vi b_0), some (vi c_0), some (vi least_66), some (vi k_69), none, none] [] σ_70 0 0) ?_
        rintro ⟨k_69, σ_70⟩ o_75 H K_76 K_77
        refine z_iload (M := M_X12_gatherCircle) dX12_gatherCircle_117 rfl ?_
        refine z_aload_n (M := M_X12_gatherCircle) dX12_gatherCircle_119 rfl ?_
        refine z_getI (M := M_X12_gatherCircle) (ci := 15) (C := RX12) (T := TX12) (Nf := 135) (ty := tyX12) cl15 dX12_gatherCircle_120 ly_277 119 (by decide) t_2510 rfl rfl ?_
        rcases if_e H with ⟨h_78, H⟩ | ⟨h_78, H⟩
        · refine z_icmp_ge_f (M := M_X12_gatherCircle) (tgt := 256) dX12_gatherCircle_123 (by decide) rfl rfl h_78 ?_
          obtain ⟨v_140, he_141, hk_142⟩ := bd_e H
          have J_143 : ∀ x_91 σ_92, v_140 = (x_91, σ_92) → YY l E M_X12_gatherCircle 6 0 0 (pS (none) σ') 161 [some (vr 277), some (vi a_0), some (vi b_0), some (vi c_0), some (vi least_66), some (vi k_69), none, none] [zv x_91] σ_92 0 0 := by
            intro x_91 σ_92 e
            have H := hk_142
            rw [e] at H
            refine z_zstore (M := M_X12_gatherCircle) (lv' := [some (vr 277), some (vi a_0), some (vi b_0), some (vi c_0), some (vi least_66), some (vi k_69), some (zv x_91), none]) dX12_gatherCircle_161 (Nat.le_of_ble_eq_true rfl) rfl rfl ?_
            rcases if_e H with ⟨h_133, H⟩ | ⟨h_133, H⟩
            · have J_134 : YY l E M_X12_gatherCircle 6 0 0 (pS (none) σ') 250 [some (vr 277), some (vi a_0), some (vi b_0), some (vi c_0), some (vi least_66), some (vi k_69), some (zv x_91), none] [] σ_92 0 0 := by
                refine z_iinc (M := M_X12_gatherCircle) (lv' := [some (vr 277), some (vi a_0), some (vi b_0), some (vi c_0), some (vi least_66), some (vi (k_69 + 1)), some (zv x_91), none]) dX12_gatherCircle_250 rfl (Nat.le_of_ble_eq_true rfl) rfl rfl ?_
                refine z_goto (M := M_X12_gatherCircle) (tgt := 117) dX12_gatherCircle_253 (by decide) ?_
                refine z_le (lv' := [some (vr 277), some (vi a_0), some (vi b_0), some (vi c_0), some (vi least_66), some (vi (k_69 + 1)), none, none]) ⟨Or.inr rfl, Or.inr rfl, Or.inr rfl, Or.inr rfl, Or.inr rfl, Or.inr rfl, Or.inl rfl, Or.inl rfl, trivial⟩ ?_
                exact K_76 _ (Option.some.inj H).symm
              refine z_zload (M := M_X12_gatherCircle) dX12_gatherCircle_163 rfl ?_
              by_cases h_136 : x_91 = true
              · refine z_zeq_f (M := M_X12_gatherCircle) (tgt := 250) dX12_gatherCircle_165 (by decide) h_136 ?_
                refine z_iload (M := M_X12_gatherCircle) dX12_gatherCircle_168 rfl ?_
                refine z_iload (M := M_X12_gatherCircle) dX12_gatherCircle_170 rfl ?_
                by_cases h_137 : (w32 k_69) = (w32 least_66)
                · refine z_icmp_ne_f (M := M_X12_gatherCircle) (tgt := 178) dX12_gatherCircle_172 (by decide) rfl rfl h_137 ?_
                  refine z_goto (M := M_X12_gatherCircle) (tgt := 250) dX12_gatherCircle_175 (by decide) ?_
                  exact J_134
                · refine z_icmp_ne_t (M := M_X12_gatherCircle) (tgt := 178) dX12_gatherCircle_172 (by decide) rfl rfl h_137 ?_
                  exact absurd h_133 (fun q => q.elim (not_not_intro h_136) h_137)
              · refine z_zeq_t (M := M_X12_gatherCircle) (tgt := 250) dX12_gatherCircle_165 (by decide) h_136 ?_
                exact J_134
            · have J_135 : YY l E M_X12_gatherCircle 6 0 0 (pS (none) σ') 178 [some (vr 277), some (vi a_0), some (vi b_0), some (vi c_0), some (vi least_66), some (vi k_69), some (zv x_91), none] [] σ_92 0 0 := by
                refine z_aload_n (M := M_X12_gatherCircle) dX12_gatherCircle_178 rfl ?_
                refine z_getI (M := M_X12_gatherCircle) (ci := 15) (C := RX12) (T := TX12) (Nf := 135) (ty := tyX12) cl15 dX12_gatherCircle_179 ly_277 127 (by decide) t_2518 rfl rfl ?_
                refine z_istore (M := M_X12_gatherCircle) (lv' := [some (vr 277), some (vi a_0), some (vi b_0), some (vi c_0), some (vi least_66), some (vi k_69), some (zv x_91), some (vi (σ_92 kR_circleMany 0))]) dX12_gatherCircle_182 (Nat.le_of_ble_eq_true rfl) rfl rfl ?_
                obtain ⟨rl_99, hw_96, hk_97⟩ := bd_e H
                have J_132 : ∀ i_126 σ_127, rl_99 = (i_126, σ_127) → YY l E M_X12_gatherCircle 6 0 0 (pS (none) σ') 231 [some (vr 277), some (vi a_0), some (vi b_0), some (vi c_0), some (vi least_66), some (vi k_69), some (zv x_91), some (vi i_126)] [] σ_127 0 0 := by
                  intro i_126 σ_127 e
                  have H := hk_97
                  rw [e] at H
                  refine z_aload_n (M := M_X12_gatherCircle) dX12_gatherCircle_231 rfl ?_
                  refine z_getR (M := M_X12_gatherCircle) (ci := 15) (C := RX12) (T := TX12) (Nf := 135) (ty := tyX12) cl15 dX12_gatherCircle_232 ly_277 126 (by decide) t_2517 rfl ?_
                  refine z_iload (M := M_X12_gatherCircle) dX12_gatherCircle_235 rfl ?_
                  refine z_iload (M := M_X12_gatherCircle) dX12_gatherCircle_237 rfl ?_
                  obtain ⟨σ_128, σ_128_e, hi_129, H⟩ := wa_e H
                  refine z_iast (M := M_X12_gatherCircle) dX12_gatherCircle_239 ly_352 rfl rfl rfl hi_129 σ_128_e ?_
                  refine z_aload_n (M := M_X12_gatherCircle) dX12_gatherCircle_240 rfl ?_
                  refine z_dup (M := M_X12_gatherCircle) dX12_gatherCircle_241 rfl ?_
                  refine z_getI (M := M_X12_gatherCircle) (ci := 15) (C := RX12) (T := TX12) (Nf := 135) (ty := tyX12) cl15 dX12_gatherCircle_242 ly_277 127 (by decide) t_2518 rfl rfl ?_
                  refine z_iconst (M := M_X12_gatherCircle) dX12_gatherCircle_245 ?_
                  refine z_iadd (M := M_X12_gatherCircle) dX12_gatherCircle_246 ?_
                  obtain ⟨σ_130, σ_130_e, H⟩ := wf_e H
                  refine z_putI (M := M_X12_gatherCircle) (ci := 15) (C := RX12) (T := TX12) (Nf := 135) (ty := tyX12) cl15 dX12_gatherCircle_247 ly_277 127 (by decide) t_2518 rfl rfl rfl rfl σ_130_e ?_
                  refine z_iinc (M := M_X12_gatherCircle) (lv' := [some (vr 277), some (vi a_0), some (vi b_0), some (vi c_0), some (vi least_66), some (vi (k_69 + 1)), some (zv x_91), some (vi i_126)]) dX12_gatherCircle_250 rfl (Nat.le_of_ble_eq_true rfl) rfl rfl ?_
                  refine z_goto (M := M_X12_gatherCircle) (tgt := 117) dX12_gatherCircle_253 (by decide) ?_
                  refine z_le (lv' := [some (vr 277), some (vi a_0), some (vi b_0), some (vi c_0), some (vi least_66), some (vi (k_69 + 1)), none, none]) ⟨Or.inr rfl, Or.inr rfl, Or.inr rfl, Or.inr rfl, Or.inr rfl, Or.inr rfl, Or.inl rfl, Or.inl rfl, trivial⟩ ?_
                  exact K_76 _ (Option.some.inj H).symm
                refine whl_go hw_96 (fun (i_94, σ_95) => YY l E M_X12_gatherCircle 6 0 0 (pS (none) σ') 184 [some (vr 277), some (vi a_0), some (vi b_0), some (vi c_0), some (vi least_66), some (vi k_69), some (zv x_91), some (vi i_94)] [] σ_95 0 0) ?_
                rintro ⟨i_94, σ_95⟩ o_100 H K_101 K_102
                refine z_iload (M := M_X12_gatherCircle) dX12_gatherCircle_184 rfl ?_
                rcases if_e H with ⟨h_113, H⟩ | ⟨h_113, H⟩
                · refine z_if_le_f (M := M_X12_gatherCircle) (tgt := 231) dX12_gatherCircle_186 (by decide) rfl h_113 ?_
                  refine z_aload_n (M := M_X12_gatherCircle) dX12_gatherCircle_189 rfl ?_
                  refine z_iload (M := M_X12_gatherCircle) dX12_gatherCircle_190 rfl ?_
                  refine z_iload (M := M_X12_gatherCircle) dX12_gatherCircle_192 rfl ?_
                  refine z_aload_n (M := M_X12_gatherCircle) dX12_gatherCircle_194 rfl ?_
                  refine z_getR (M := M_X12_gatherCircle) (ci := 15) (C := RX12) (T := TX12) (Nf := 135) (ty := tyX12) cl15 dX12_gatherCircle_195 ly_277 126 (by decide) t_2517 rfl ?_
                  refine z_iload (M := M_X12_gatherCircle) dX12_gatherCircle_198 rfl ?_
                  refine z_iconst (M := M_X12_gatherCircle) dX12_gatherCircle_200 ?_
                  refine z_isub (M := M_X12_gatherCircle) dX12_gatherCircle_201 ?_
                  obtain ⟨x_114, x_114_e, hi_115, H⟩ := rd_e H
                  refine z_iald (M := M_X12_gatherCircle) dX12_gatherCircle_202 ly_352 rfl rfl rfl hi_115 x_114_e ?_
                  obtain ⟨x_117, hc_116, H⟩ := bd_e H
                  refine z_callV (M := M_X12_gatherCircle) (M' := M_X12_turnOf) (as := [vi least_66, vi k_69, vi x_114]) (rest := []) rfl rfl dX12_gatherCircle_203 m_X12_turnOf t_3641 t_3643 s_313 (c_X12_turnOf hl  hc_116) rfl rfl ly_277 rfl (Nat.le_of_ble_eq_true rfl) (Nat.le_of_ble_eq_true rfl) (Nat.le_of_ble_eq_true rfl) (Nat.le_of_ble_eq_true rfl) ?_
                  refine z_st (st' := [vi x_117]) rfl ?_
                  rcases if_e H with ⟨h_118, H⟩ | ⟨h_118, H⟩
                  · refine z_if_le_f (M := M_X12_gatherCircle) (tgt := 231) dX12_gatherCircle_206 (by decide) rfl h_118 ?_
                    refine z_aload_n (M := M_X12_gatherCircle) dX12_gatherCircle_209 rfl ?_
                    refine z_getR (M := M_X12_gatherCircle) (ci := 15) (C := RX12) (T := TX12) (Nf := 135) (ty := tyX12) cl15 dX12_gatherCircle_210 ly_277 126 (by decide) t_2517 rfl ?_
                    refine z_iload (M := M_X12_gatherCircle) dX12_gatherCircle_213 rfl ?_
                    refine z_aload_n (M := M_X12_gatherCircle) dX12_gatherCircle_215 rfl ?_
                    refine z_getR (M := M_X12_gatherCircle) (ci := 15) (C := RX12) (T := TX12) (Nf := 135) (ty := tyX12) cl15 dX12_gatherCircle_216 ly_277 126 (by decide) t_2517 rfl ?_
                    refine z_iload (M := M_X12_gatherCircle) dX12_gatherCircle_219 rfl ?_
                    refine z_iconst (M := M_X12_gatherCircle) dX12_gatherCircle_221 ?_
                    refine z_isub (M := M_X12_gatherCircle) dX12_gatherCircle_222 ?_
                    obtain ⟨x_119, x_119_e, hi_120, H⟩ := rd_e H
                    refine z_iald (M := M_X12_gatherCircle) dX12_gatherCircle_223 ly_352 rfl rfl rfl hi_120 x_119_e ?_
                    obtain ⟨σ_121, σ_121_e, hi_122, H⟩ := wa_e H
                    refine z_iast (M := M_X12_gatherCircle) dX12_gatherCircle_224 ly_352 rfl rfl rfl hi_122 σ_121_e ?_
                    refine z_iinc (M := M_X12_gatherCircle) (lv' := [some (vr 277), some (vi a_0), some (vi b_0), some (vi c_0), some (vi least_66), some (vi k_69), some (zv x_91), some (vi (i_94 + (-1)))]) dX12_gatherCircle_225 rfl (Nat.le_of_ble_eq_true rfl) rfl rfl ?_
                    refine z_goto (M := M_X12_gatherCircle) (tgt := 184) dX12_gatherCircle_228 (by decide) ?_
                    exact K_101 _ (Option.some.inj H).symm
                  · refine z_if_le_t (M := M_X12_gatherCircle) (tgt := 231) dX12_gatherCircle_206 (by decide) rfl (Int.not_lt.mp h_118) ?_
                    exact J_132 _ _ (K_102 _ (Option.some.inj H).symm).symm
                · refine z_if_le_t (M := M_X12_gatherCircle) (tgt := 231) dX12_gatherCircle_186 (by decide) rfl (Int.not_lt.mp h_113) ?_
                  exact J_132 _ _ (K_102 _ (Option.some.inj H).symm).symm
              refine z_zload (M := M_X12_gatherCircle) dX12_gatherCircle_163 rfl ?_
              by_cases h_138 : x_91 = true
              · refine z_zeq_f (M := M_X12_gatherCircle) (tgt := 250) dX12_gatherCircle_165 (by decide) h_138 ?_
                refine z_iload (M := M_X12_gatherCircle) dX12_gatherCircle_168 rfl ?_
                refine z_iload (M := M_X12_gatherCircle) dX12_gatherCircle_170 rfl ?_
                by_cases h_139 : (w32 k_69) = (w32 least_66)
                · refine z_icmp_ne_f (M := M_X12_gatherCircle) (tgt := 178) dX12_gatherCircle_172 (by decide) rfl rfl h_139 ?_
                  exact absurd (Or.inr h_139) h_133
                · refine z_icmp_ne_t (M := M_X12_gatherCircle) (tgt := 178) dX12_gatherCircle_172 (by decide) rfl rfl h_139 ?_
                  exact J_135
              · refine z_zeq_t (M := M_X12_gatherCircle) (tgt := 250) dX12_gatherCircle_165 (by decide) h_138 ?_
                exact absurd (Or.inl h_138) h_133
          have H := he_141
          refine z_iload (M := M_X12_gatherCircle) dX12_gatherCircle_126 rfl ?_
          refine z_iload_n (M := M_X12_gatherCircle) dX12_gatherCircle_128 rfl ?_
          rcases if_e H with ⟨h_79, H⟩ | ⟨h_79, H⟩
          · refine z_icmp_eq_t (M := M_X12_gatherCircle) (tgt := 156) dX12_gatherCircle_129 (by decide) rfl rfl h_79 ?_
            refine z_zconst (M := M_X12_gatherCircle) (b := true) dX12_gatherCircle_156 rfl ?_
            refine z_goto (M := M_X12_gatherCircle) (tgt := 161) dX12_gatherCircle_157 (by decide) ?_
            exact J_143 _ _ (Option.some.inj H).symm
          · refine z_icmp_eq_f (M := M_X12_gatherCircle) (tgt := 156) dX12_gatherCircle_129 (by decide) rfl rfl h_79 ?_
            refine z_iload (M := M_X12_gatherCircle) dX12_gatherCircle_132 rfl ?_
            refine z_iload_n (M := M_X12_gatherCircle) dX12_gatherCircle_134 rfl ?_
            rcases if_e H with ⟨h_81, H⟩ | ⟨h_81, H⟩
            · refine z_icmp_eq_t (M := M_X12_gatherCircle) (tgt := 156) dX12_gatherCircle_135 (by decide) rfl rfl h_81 ?_
              refine z_zconst (M := M_X12_gatherCircle) (b := true) dX12_gatherCircle_156 rfl ?_
              refine z_goto (M := M_X12_gatherCircle) (tgt := 161) dX12_gatherCircle_157 (by decide) ?_
              exact J_143 _ _ (Option.some.inj H).symm
            · refine z_icmp_eq_f (M := M_X12_gatherCircle) (tgt := 156) dX12_gatherCircle_135 (by decide) rfl rfl h_81 ?_
              refine z_iload (M := M_X12_gatherCircle) dX12_gatherCircle_138 rfl ?_
              refine z_iload_n (M := M_X12_gatherCircle) dX12_gatherCircle_140 rfl ?_
              rcases if_e H with ⟨h_83, H⟩ | ⟨h_83, H⟩
              · refine z_icmp_eq_t (M := M_X12_gatherCircle) (tgt := 156) dX12_gatherCircle_141 (by decide) rfl rfl h_83 ?_
                refine z_zconst (M := M_X12_gatherCircle) (b := true) dX12_gatherCircle_156 rfl ?_
                refine z_goto (M := M_X12_gatherCircle) (tgt := 161) dX12_gatherCircle_157 (by decide) ?_
                exact J_143 _ _ (Option.some.inj H).symm
              · refine z_icmp_eq_f (M := M_X12_gatherCircle) (tgt := 156) dX12_gatherCircle_141 (by decide) rfl rfl h_83 ?_
                refine z_aload_n (M := M_X12_gatherCircle) dX12_gatherCircle_144 rfl ?_
                refine z_iload_n (M := M_X12_gatherCircle) dX12_gatherCircle_145 rfl ?_
                refine z_iload_n (M := M_X12_gatherCircle) dX12_gatherCircle_146 rfl ?_
                refine z_iload_n (M := M_X12_gatherCircle) dX12_gatherCircle_147 rfl ?_
                refine z_iload (M := M_X12_gatherCircle) dX12_gatherCircle_148 rfl ?_
                obtain ⟨⟨x_87, σ_86⟩, hc_85, H⟩ := bd_e H
                refine z_callV (M := M_X12_gatherCircle) (M' := M_X12_inCircle) (as := [vi a_0, vi b_0, vi c_0, vi k_69]) (rest := []) rfl rfl dX12_gatherCircle_150 m_X12_inCircle t_3665 t_3667 s_318 (c_X12_inCircle hl  hc_85) rfl rfl ly_277 rfl (Nat.le_of_ble_eq_true rfl) (Nat.le_of_ble_eq_true rfl) (Nat.le_of_ble_eq_true rfl) (Nat.le_of_ble_eq_true rfl) ?_
                refine z_st (st' := [vi x_87]) rfl ?_
                rcases if_e H with ⟨h_88, H⟩ | ⟨h_88, H⟩
                · refine z_if_ne_f (M := M_X12_gatherCircle) (tgt := 160) dX12_gatherCircle_153 (by decide) rfl h_88 ?_
                  refine z_zconst (M := M_X12_gatherCircle) (b := true) dX12_gatherCircle_156 rfl ?_
                  refine z_goto (M := M_X12_gatherCircle) (tgt := 161) dX12_gatherCircle_157 (by decide) ?_
                  exact J_143 _ _ (Option.some.inj H).symm
                · refine z_if_ne_t (M := M_X12_gatherCircle) (tgt := 160) dX12_gatherCircle_153 (by decide) rfl h_88 ?_
                  refine z_zconst (M := M_X12_gatherCircle) (b := false) dX12_gatherCircle_160 rfl ?_
                  exact J_143 _ _ (Option.some.inj H).symm
        · refine z_icmp_ge_t (M := M_X12_gatherCircle) (tgt := 256) dX12_gatherCircle_123 (by decide) rfl rfl (Int.not_lt.mp h_78) ?_
          exact J_169 _ _ (K_77 _ (Option.some.inj H).symm).symm
      refine whl_go hw_17 (fun (least_14, k_15, σ_16) => YY l E M_X12_gatherCircle 6 0 0 (pS (none) σ') 42 [some (vr 277), some (vi a_0), some (vi b_0), some (vi c_0), some (vi least_14), some (vi k_15), none, none] [] σ_16 0 0) ?_
      rintro ⟨least_14, k_15, σ_16⟩ o_21 H K_22 K_23
      refine z_iload (M := M_X12_gatherCircle) dX12_gatherCircle_42 rfl ?_
      refine z_aload_n (M := M_X12_gatherCircle) dX12_gatherCircle_44 rfl ?_
      refine z_getI (M := M_X12_gatherCircle) (ci := 15) (C := RX12) (T := TX12) (Nf := 135) (ty := tyX12) cl15 dX12_gatherCircle_45 ly_277 119 (by decide) t_2510 rfl rfl ?_
      rcases if_e H with ⟨h_24, H⟩ | ⟨h_24, H⟩
      · refine z_icmp_ge_f (M := M_X12_gatherCircle) (tgt := 114) dX12_gatherCircle_48 (by decide) rfl rfl h_24 ?_
        obtain ⟨v_61, he_62, hk_63⟩ := bd_e H
        have J_64 : ∀ x_37 σ_38, v_61 = (x_37, σ_38) → YY l E M_X12_gatherCircle 6 0 0 (pS (none) σ') 86 [some (vr 277), some (vi a_0), some (vi b_0), some (vi c_0), some (vi least_14), some (vi k_15), none, none] [zv x_37] σ_38 0 0 := by
          intro x_37 σ_38 e
          have H := hk_63
          rw [e] at H
          refine z_zstore (M := M_X12_gatherCircle) (lv' := [some (vr 277), some (vi a_0), some (vi b_0), some (vi c_0), some (vi least_14), some (vi k_15), some (zv x_37), none]) dX12_gatherCircle_86 (Nat.le_of_ble_eq_true rfl) rfl rfl ?_
          obtain ⟨v_42, he_39, hk_40⟩ := bd_e H
          have J_60 : ∀ least_58, v_42 = least_58 → YY l E M_X12_gatherCircle 6 0 0 (pS (none) σ') 108 [some (vr 277), some (vi a_0), some (vi b_0), some (vi c_0), some (vi least_58), some (vi k_15), some (zv x_37), none] [] σ_38 0 0 := by
            intro least_58 e
            have H := hk_40
            rw [e] at H
            refine z_iinc (M := M_X12_gatherCircle) (lv' := [some (vr 277), some (vi a_0), some (vi b_0), some (vi c_0), some (vi least_58), some (vi (k_15 + 1)), some (zv x_37), none]) dX12_gatherCircle_108 rfl (Nat.le_of_ble_eq_true rfl) rfl rfl ?_
            refine z_goto (M := M_X12_gatherCircle) (tgt := 42) dX12_gatherCircle_111 (by decide) ?_
            refine z_le (lv' := [some (vr 277), some (vi a_0), some (vi b_0), some (vi c_0), some (vi least_58), some (vi (k_15 + 1)), none, none]) ⟨Or.inr rfl, Or.inr rfl, Or.inr rfl, Or.inr rfl, Or.inr rfl, Or.inr rfl, Or.inl rfl, Or.inl rfl, trivial⟩ ?_
            exact K_22 _ (Option.some.inj H).symm
          have H := he_39
          refine z_zload (M := M_X12_gatherCircle) dX12_gatherCircle_88 rfl ?_
          rcases if_e H with ⟨h_51, H⟩ | ⟨h_51, H⟩
          · refine z_zeq_f (M := M_X12_gatherCircle) (tgt := 108) dX12_gatherCircle_90 (by decide) h_51 ?_
            refine z_aload_n (M := M_X12_gatherCircle) dX12_gatherCircle_93 rfl ?_
            refine z_iload (M := M_X12_gatherCircle) dX12_gatherCircle_94 rfl ?_
            refine z_iload (M := M_X12_gatherCircle) dX12_gatherCircle_96 rfl ?_
            obtain ⟨x_53, hc_52, H⟩ := bd_e H
            refine z_callV (M := M_X12_gatherCircle) (M' := M_X12_isLess) (as := [vi k_15, vi least_14]) (rest := []) rfl rfl dX12_gatherCircle_98 m_X12_isLess t_3633 t_3635 s_311 (c_X12_isLess hl  hc_52) rfl rfl ly_277 rfl (Nat.le_of_ble_eq_true rfl) (Nat.le_of_ble_eq_true rfl) (Nat.le_of_ble_eq_true rfl) (Nat.le_of_ble_eq_true rfl) ?_
            refine z_st (st' := [zv x_53]) rfl ?_
            rcases if_e H with ⟨h_54, H⟩ | ⟨h_54, H⟩
            · refine z_zeq_f (M := M_X12_gatherCircle) (tgt := 108) dX12_gatherCircle_101 (by decide) h_54 ?_
              refine z_iload (M := M_X12_gatherCircle) dX12_gatherCircle_104 rfl ?_
              refine z_istore (M := M_X12_gatherCircle) (lv' := [some (vr 277), some (vi a_0), some (vi b_0), some (vi c_0), some (vi k_15), some (vi k_15), some (zv x_37), none]) dX12_gatherCircle_106 (Nat.le_of_ble_eq_true rfl) rfl rfl ?_
              exact J_60 _ (Option.some.inj H).symm
            · refine z_zeq_t (M := M_X12_gatherCircle) (tgt := 108) dX12_gatherCircle_101 (by decide) h_54 ?_
              exact J_60 _ (Option.some.inj H).symm
          · refine z_zeq_t (M := M_X12_gatherCircle) (tgt := 108) dX12_gatherCircle_90 (by decide) h_51 ?_
            exact J_60 _ (Option.some.inj H).symm
        have H := he_62
        refine z_iload (M := M_X12_gatherCircle) dX12_gatherCircle_51 rfl ?_
        refine z_iload_n (M := M_X12_gatherCircle) dX12_gatherCircle_53 rfl ?_
        rcases if_e H with ⟨h_25, H⟩ | ⟨h_25, H⟩
        · refine z_icmp_eq_t (M := M_X12_gatherCircle) (tgt := 81) dX12_gatherCircle_54 (by decide) rfl rfl h_25 ?_
          refine z_zconst (M := M_X12_gatherCircle) (b := true) dX12_gatherCircle_81 rfl ?_
          refine z_goto (M := M_X12_gatherCircle) (tgt := 86) dX12_gatherCircle_82 (by decide) ?_
          exact J_64 _ _ (Option.some.inj H).symm
        · refine z_icmp_eq_f (M := M_X12_gatherCircle) (tgt := 81) dX12_gatherCircle_54 (by decide) rfl rfl h_25 ?_
          refine z_iload (M := M_X12_gatherCircle) dX12_gatherCircle_57 rfl ?_
          refine z_iload_n (M := M_X12_gatherCircle) dX12_gatherCircle_59 rfl ?_
          rcases if_e H with ⟨h_27, H⟩ | ⟨h_27, H⟩
          · refine z_icmp_eq_t (M := M_X12_gatherCircle) (tgt := 81) dX12_gatherCircle_60 (by decide) rfl rfl h_27 ?_
            refine z_zconst (M := M_X12_gatherCircle) (b := true) dX12_gatherCircle_81 rfl ?_
            refine z_goto (M := M_X12_gatherCircle) (tgt := 86) dX12_gatherCircle_82 (by decide) ?_
            exact J_64 _ _ (Option.some.inj H).symm
          · refine z_icmp_eq_f (M := M_X12_gatherCircle) (tgt := 81) dX12_gatherCircle_60 (by decide) rfl rfl h_27 ?_
            refine z_iload (M := M_X12_gatherCircle) dX12_gatherCircle_63 rfl ?_
            refine z_iload_n (M := M_X12_gatherCircle) dX12_gatherCircle_65 rfl ?_
            rcases if_e H with ⟨h_29, H⟩ | ⟨h_29, H⟩
            · refine z_icmp_eq_t (M := M_X12_gatherCircle) (tgt := 81) dX12_gatherCircle_66 (by decide) rfl rfl h_29 ?_
              refine z_zconst (M := M_X12_gatherCircle) (b := true) dX12_gatherCircle_81 rfl ?_
              refine z_goto (M := M_X12_gatherCircle) (tgt := 86) dX12_gatherCircle_82 (by decide) ?_
              exact J_64 _ _ (Option.some.inj H).symm
            · refine z_icmp_eq_f (M := M_X12_gatherCircle) (tgt := 81) dX12_gatherCircle_66 (by decide) rfl rfl h_29 ?_
              refine z_aload_n (M := M_X12_gatherCircle) dX12_gatherCircle_69 rfl ?_
              refine z_iload_n (M := M_X12_gatherCircle) dX12_gatherCircle_70 rfl ?_
              refine z_iload_n (M := M_X12_gatherCircle) dX12_gatherCircle_71 rfl ?_
              refine z_iload_n (M := M_X12_gatherCircle) dX12_gatherCircle_72 rfl ?_
              refine z_iload (M := M_X12_gatherCircle) dX12_gatherCircle_73 rfl ?_
              obtain ⟨⟨x_33, σ_32⟩, hc_31, H⟩ := bd_e H
              refine z_callV (M := M_X12_gatherCircle) (M' := M_X12_inCircle) (as := [vi a_0, vi b_0, vi c_0, vi k_15]) (rest := []) rfl rfl dX12_gatherCircle_75 m_X12_inCircle t_3665 t_3667 s_318 (c_X12_inCircle hl  hc_31) rfl rfl ly_277 rfl (Nat.le_of_ble_eq_true rfl) (Nat.le_of_ble_eq_true rfl) (Nat.le_of_ble_eq_true rfl) (Nat.le_of_ble_eq_true rfl) ?_
              refine z_st (st' := [vi x_33]) rfl ?_
              rcases if_e H with ⟨h_34, H⟩ | ⟨h_34, H⟩
              · refine z_if_ne_f (M := M_X12_gatherCircle) (tgt := 85) dX12_gatherCircle_78 (by decide) rfl h_34 ?_
                refine z_zconst (M := M_X12_gatherCircle) (b := true) dX12_gatherCircle_81 rfl ?_
                refine z_goto (M := M_X12_gatherCircle) (tgt := 86) dX12_gatherCircle_82 (by decide) ?_
                exact J_64 _ _ (Option.some.inj H).symm
              · refine z_if_ne_t (M := M_X12_gatherCircle) (tgt := 85) dX12_gatherCircle_78 (by decide) rfl h_34 ?_
                refine z_zconst (M := M_X12_gatherCircle) (b := false) dX12_gatherCircle_85 rfl ?_
                exact J_64 _ _ (Option.some.inj H).symm
      · refine z_icmp_ge_t (M := M_X12_gatherCircle) (tgt := 114) dX12_gatherCircle_48 (by decide) rfl rfl (Int.not_lt.mp h_24) ?_
        exact J_170 _ _ _ (K_23 _ (Option.some.inj H).symm).symm
    have H := he_172
    refine z_aload_n (M := M_X12_gatherCircle) dX12_gatherCircle_21 rfl ?_
    refine z_iload_n (M := M_X12_gatherCircle) dX12_gatherCircle_22 rfl ?_
    refine z_iload (M := M_X12_gatherCircle) dX12_gatherCircle_23 rfl ?_
    obtain ⟨x_9, hc_8, H⟩ := bd_e H
    refine z_callV (M := M_X12_gatherCircle) (M' := M_X12_isLess) (as := [vi c_0, vi x_7]) (rest := []) rfl rfl dX12_gatherCircle_25 m_X12_isLess t_3633 t_3635 s_311 (c_X12_isLess hl  hc_8) rfl rfl ly_277 rfl (Nat.le_of_ble_eq_true rfl) (Nat.le_of_ble_eq_true rfl) (Nat.le_of_ble_eq_true rfl) (Nat.le_of_ble_eq_true rfl) ?_
    refine z_st (st' := [zv x_9]) rfl ?_
    rcases if_e H with ⟨h_10, H⟩ | ⟨h_10, H⟩
    · refine z_zeq_f (M := M_X12_gatherCircle) (tgt := 35) dX12_gatherCircle_28 (by decide) h_10 ?_
      refine z_iload_n (M := M_X12_gatherCircle) dX12_gatherCircle_31 rfl ?_
      refine z_goto (M := M_X12_gatherCircle) (tgt := 37) dX12_gatherCircle_32 (by decide) ?_
      exact J_174 _ (Option.some.inj H).symm
    · refine z_zeq_t (M := M_X12_gatherCircle) (tgt := 35) dX12_gatherCircle_28 (by decide) h_10 ?_
      refine z_iload (M := M_X12_gatherCircle) dX12_gatherCircle_35 rfl ?_
      exact J_174 _ (Option.some.inj H).symm
  have H := he_176
  refine z_aload_n (M := M_X12_gatherCircle) dX12_gatherCircle_5 rfl ?_
  refine z_iload_n (M := M_X12_gatherCircle) dX12_gatherCircle_6 rfl ?_
  refine z_iload_n (M := M_X12_gatherCircle) dX12_gatherCircle_7 rfl ?_
  obtain ⟨x_3, hc_2, H⟩ := bd_e H
  refine z_callV (M := M_X12_gatherCircle) (M' := M_X12_isLess) (as := [vi a_0, vi b_0]) (rest := []) rfl rfl dX12_gatherCircle_8 m_X12_isLess t_3633 t_3635 s_311 (c_X12_isLess hl  hc_2) rfl rfl ly_277 rfl (Nat.le_of_ble_eq_true rfl) (Nat.le_of_ble_eq_true rfl) (Nat.le_of_ble_eq_true rfl) (Nat.le_of_ble_eq_true rfl) ?_
  refine z_st (st' := [zv x_3]) rfl ?_
  rcases if_e H with ⟨h_4, H⟩ | ⟨h_4, H⟩
  · refine z_zeq_f (M := M_X12_gatherCircle) (tgt := 18) dX12_gatherCircle_11 (by decide) h_4 ?_
    refine z_iload_n (M := M_X12_gatherCircle) dX12_gatherCircle_14 rfl ?_
    refine z_goto (M := M_X12_gatherCircle) (tgt := 19) dX12_gatherCircle_15 (by decide) ?_
    exact J_178 _ (Option.some.inj H).symm
  · refine z_zeq_t (M := M_X12_gatherCircle) (tgt := 18) dX12_gatherCircle_11 (by decide) h_4 ?_
    refine z_iload_n (M := M_X12_gatherCircle) dX12_gatherCircle_18 rfl ?_
    exact J_178 _ (Option.some.inj H).symm
theorem c_X12_isLater (hl : l.stackTraces = false) {σ : SG} {k_0 : Int} {a_0 : Int} {b_0 : Int} {c_0 : Int} {r : Bool}  (H : fR_isLater σ k_0 a_0 b_0 c_0 = some r) : en_S l E M_X12_isLater 1 0 0 [vr 277, vi k_0, vi a_0, vi b_0, vi c_0] σ (pS (some (zv r)) σ) := by
  unfold fR_isLater at H
  refine z_mk (lv := [some (vr 277), some (vi k_0), some (vi a_0), some (vi b_0), some (vi c_0)]) m_X12_isLater rfl hl (Nat.le_of_ble_eq_true rfl) rfl ?_
  refine z_aload_n (M := M_X12_isLater) dX12_isLater_0 rfl ?_
  refine z_getR (M := M_X12_isLater) (ci := 15) (C := RX12) (T := TX12) (Nf := 135) (ty := tyX12) cl15 dX12_isLater_1 ly_277 128 (by decide) t_2519 rfl ?_
  refine z_iload_n (M := M_X12_isLater) dX12_isLater_4 rfl ?_
  obtain ⟨x_1, x_1_e, hi_2, H⟩ := rd_e H
  refine z_iald (M := M_X12_isLater) dX12_isLater_5 ly_353 rfl rfl rfl hi_2 x_1_e ?_
  refine z_iload_n (M := M_X12_isLater) dX12_isLater_6 rfl ?_
  rcases if_e H with ⟨h_3, H⟩ | ⟨h_3, H⟩
  · refine z_icmp_eq_f (M := M_X12_isLater) (tgt := 26) dX12_isLater_7 (by decide) rfl rfl h_3 ?_
    obtain ⟨v_10, he_11, hk_12⟩ := bd_e H
    have J_13 : ∀ x_9, v_10 = x_9 → YY l E M_X12_isLater 1 0 0 (pS (some (zv r)) σ) 25 [some (vr 277), some (vi k_0), some (vi a_0), some (vi b_0), some (vi c_0)] [zv x_9] σ 0 0 := by
      intro x_9 e
      have H := hk_12
      rw [e] at H
      cases H
      exact z_zret (M := M_X12_isLater) dX12_isLater_25 rfl (Nat.le_of_ble_eq_true rfl) (Nat.le_of_ble_eq_true rfl) ⟨rfl, rfl⟩
    have H := he_11
    refine z_aload_n (M := M_X12_isLater) dX12_isLater_10 rfl ?_
    refine z_getR (M := M_X12_isLater) (ci := 15) (C := RX12) (T := TX12) (Nf := 135) (ty := tyX12) cl15 dX12_isLater_11 ly_277 128 (by decide) t_2519 rfl ?_
    refine z_iload_n (M := M_X12_isLater) dX12_isLater_14 rfl ?_
    obtain ⟨x_4, x_4_e, hi_5, H⟩ := rd_e H
    refine z_iald (M := M_X12_isLater) dX12_isLater_15 ly_353 rfl rfl rfl hi_5 x_4_e ?_
    refine z_iload_n (M := M_X12_isLater) dX12_isLater_16 rfl ?_
    rcases if_e H with ⟨h_6, H⟩ | ⟨h_6, H⟩
    · refine z_icmp_le_f (M := M_X12_isLater) (tgt := 24) dX12_isLater_17 (by decide) rfl rfl h_6 ?_
      refine z_zconst (M := M_X12_isLater) (b := true) dX12_isLater_20 rfl ?_
      refine z_goto (M := M_X12_isLater) (tgt := 25) dX12_isLater_21 (by decide) ?_
      exact J_13 _ (Option.some.inj H).symm
    · refine z_icmp_le_t (M := M_X12_isLater) (tgt := 24) dX12_isLater_17 (by decide) rfl rfl (Int.not_lt.mp h_6) ?_
      refine z_zconst (M := M_X12_isLater) (b := false) dX12_isLater_24 rfl ?_
      exact J_13 _ (Option.some.inj H).symm
  · refine z_icmp_eq_t (M := M_X12_isLater) (tgt := 26) dX12_isLater_7 (by decide) rfl rfl (Decidable.not_not.mp h_3) ?_
    obtain ⟨v_40, he_41, hk_42⟩ := bd_e H
    have J_43 : ∀ x_39, v_40 = x_39 → YY l E M_X12_isLater 1 0 0 (pS (some (zv r)) σ) 70 [some (vr 277), some (vi k_0), some (vi a_0), some (vi b_0), some (vi c_0)] [zv x_39] σ 0 0 := by
      intro x_39 e
      have H := hk_42
      rw [e] at H
      cases H
      exact z_zret (M := M_X12_isLater) dX12_isLater_70 rfl (Nat.le_of_ble_eq_true rfl) (Nat.le_of_ble_eq_true rfl) ⟨rfl, rfl⟩
    have H := he_41
    refine z_aload_n (M := M_X12_isLater) dX12_isLater_26 rfl ?_
    refine z_getR (M := M_X12_isLater) (ci := 15) (C := RX12) (T := TX12) (Nf := 135) (ty := tyX12) cl15 dX12_isLater_27 ly_277 129 (by decide) t_2520 rfl ?_
    refine z_iload_n (M := M_X12_isLater) dX12_isLater_30 rfl ?_
    obtain ⟨x_14, x_14_e, hi_15, H⟩ := rd_e H
    refine z_iald (M := M_X12_isLater) dX12_isLater_31 ly_354 rfl rfl rfl hi_15 x_14_e ?_
    refine z_iload_n (M := M_X12_isLater) dX12_isLater_32 rfl ?_
    rcases if_e H with ⟨h_16, H⟩ | ⟨h_16, H⟩
    · refine z_icmp_eq_f (M := M_X12_isLater) (tgt := 54) dX12_isLater_33 (by decide) rfl rfl h_16 ?_
      obtain ⟨v_24, he_25, hk_26⟩ := bd_e H
      have J_27 : ∀ x_22, v_24 = x_22 → YY l E M_X12_isLater 1 0 0 (pS (some (zv r)) σ) 70 [some (vr 277), some (vi k_0), some (vi a_0), some (vi b_0), some (vi c_0)] [zv x_22] σ 0 0 := by
        intro x_22 e
        have H := hk_26
        rw [e] at H
        exact J_43 _ (Option.some.inj H).symm
      have H := he_25
      refine z_aload_n (M := M_X12_isLater) dX12_isLater_36 rfl ?_
      refine z_getR (M := M_X12_isLater) (ci := 15) (C := RX12) (T := TX12) (Nf := 135) (ty := tyX12) cl15 dX12_isLater_37 ly_277 129 (by decide) t_2520 rfl ?_
      refine z_iload_n (M := M_X12_isLater) dX12_isLater_40 rfl ?_
      obtain ⟨x_17, x_17_e, hi_18, H⟩ := rd_e H
      refine z_iald (M := M_X12_isLater) dX12_isLater_41 ly_354 rfl rfl rfl hi_18 x_17_e ?_
      refine z_iload_n (M := M_X12_isLater) dX12_isLater_42 rfl ?_
      rcases if_e H with ⟨h_19, H⟩ | ⟨h_19, H⟩
      · refine z_icmp_le_f (M := M_X12_isLater) (tgt := 50) dX12_isLater_43 (by decide) rfl rfl h_19 ?_
        refine z_zconst (M := M_X12_isLater) (b := true) dX12_isLater_46 rfl ?_
        refine z_goto (M := M_X12_isLater) (tgt := 70) dX12_isLater_47 (by decide) ?_
        exact J_27 _ (Option.some.inj H).symm
      · refine z_icmp_le_t (M := M_X12_isLater) (tgt := 50) dX12_isLater_43 (by decide) rfl rfl (Int.not_lt.mp h_19) ?_
        refine z_zconst (M := M_X12_isLater) (b := false) dX12_isLater_50 rfl ?_
        refine z_goto (M := M_X12_isLater) (tgt := 70) dX12_isLater_51 (by decide) ?_
        exact J_27 _ (Option.some.inj H).symm
    · refine z_icmp_eq_t (M := M_X12_isLater) (tgt := 54) dX12_isLater_33 (by decide) rfl rfl (Decidable.not_not.mp h_16) ?_
      obtain ⟨v_35, he_36, hk_37⟩ := bd_e H
      have J_38 : ∀ x_33, v_35 = x_33 → YY l E M_X12_isLater 1 0 0 (pS (some (zv r)) σ) 70 [some (vr 277), some (vi k_0), some (vi a_0), some (vi b_0), some (vi c_0)] [zv x_33] σ 0 0 := by
        intro x_33 e
        have H := hk_37
        rw [e] at H
        exact J_43 _ (Option.some.inj H).symm
      have H := he_36
      refine z_aload_n (M := M_X12_isLater) dX12_isLater_54 rfl ?_
      refine z_getR (M := M_X12_isLater) (ci := 15) (C := RX12) (T := TX12) (Nf := 135) (ty := tyX12) cl15 dX12_isLater_55 ly_277 130 (by decide) t_2521 rfl ?_
      refine z_iload_n (M := M_X12_isLater) dX12_isLater_58 rfl ?_
      obtain ⟨x_28, x_28_e, hi_29, H⟩ := rd_e H
      refine z_iald (M := M_X12_isLater) dX12_isLater_59 ly_355 rfl rfl rfl hi_29 x_28_e ?_
      refine z_iload (M := M_X12_isLater) dX12_isLater_60 rfl ?_
      rcases if_e H with ⟨h_30, H⟩ | ⟨h_30, H⟩
      · refine z_icmp_le_f (M := M_X12_isLater) (tgt := 69) dX12_isLater_62 (by decide) rfl rfl h_30 ?_
        refine z_zconst (M := M_X12_isLater) (b := true) dX12_isLater_65 rfl ?_
        refine z_goto (M := M_X12_isLater) (tgt := 70) dX12_isLater_66 (by decide) ?_
        exact J_38 _ (Option.some.inj H).symm
      · refine z_icmp_le_t (M := M_X12_isLater) (tgt := 69) dX12_isLater_62 (by decide) rfl rfl (Int.not_lt.mp h_30) ?_
        refine z_zconst (M := M_X12_isLater) (b := false) dX12_isLater_69 rfl ?_
        exact J_38 _ (Option.some.inj H).symm
theorem c_X12_addTriangle (hl : l.stackTraces = false) {σ : SG} {a_0 : Int} {b_0 : Int} {c_0 : Int} {σ' : SG}  (H : fR_addTriangle σ a_0 b_0 c_0 = some σ') : en_S l E M_X12_addTriangle 2 0 0 [vr 277, vi a_0, vi b_0, vi c_0] σ (pS (none) σ') := by
  unfold fR_addTriangle at H
  refine z_mk (lv := [some (vr 277), some (vi a_0), some (vi b_0), some (vi c_0), none, none, none, none]) m_X12_addTriangle rfl hl (Nat.le_of_ble_eq_true rfl) rfl ?_
  have J_3 : YY l E M_X12_addTriangle 2 0 0 (pS (none) σ') 24 [some (vr 277), some (vi a_0), some (vi b_0), some (vi c_0), none, none, none, none] [vi (if ((w32 a_0) < (w32 b_0)) ∧ ((w32 a_0) < (w32 c_0)) then a_0 else (if (w32 b_0) < (w32 c_0) then b_0 else c_0))] σ 0 0 := by
    obtain ⟨x_4, x_4_e, H⟩ := lt_e H
    refine z_st (congrArg (fun z => vi z :: []) x_4_e) ?_
    refine z_istore (M := M_X12_addTriangle) (lv' := [some (vr 277), some (vi a_0), some (vi b_0), some (vi c_0), some (vi x_4), none, none, none]) dX12_addTriangle_24 (Nat.le_of_ble_eq_true rfl) rfl rfl ?_
    have J_7 : YY l E M_X12_addTriangle 2 0 0 (pS (none) σ') 47 [some (vr 277), some (vi a_0), some (vi b_0), some (vi c_0), some (vi x_4), none, none, none] [vi (if (w32 x_4) = (w32 a_0) then b_0 else (if (w32 x_4) = (w32 b_0) then c_0 else a_0))] σ 0 0 := by
      obtain ⟨x_8, x_8_e, H⟩ := lt_e H
      refine z_st (congrArg (fun z => vi z :: []) x_8_e) ?_
      refine z_istore (M := M_X12_addTriangle) (lv' := [some (vr 277), some (vi a_0), some (vi b_0), some (vi c_0), some (vi x_4), some (vi x_8), none, none]) dX12_addTriangle_47 (Nat.le_of_ble_eq_true rfl) rfl rfl ?_
      have J_11 : YY l E M_X12_addTriangle 2 0 0 (pS (none) σ') 70 [some (vr 277), some (vi a_0), some (vi b_0), some (vi c_0), some (vi x_4), some (vi x_8), none, none] [vi (if (w32 x_4) = (w32 a_0) then c_0 else (if (w32 x_4) = (w32 b_0) then a_0 else b_0))] σ 0 0 := by
        obtain ⟨x_12, x_12_e, H⟩ := lt_e H
        refine z_st (congrArg (fun z => vi z :: []) x_12_e) ?_
        refine z_istore (M := M_X12_addTriangle) (lv' := [some (vr 277), some (vi a_0), some (vi b_0), some (vi c_0), some (vi x_4), some (vi x_8), some (vi x_12), none]) dX12_addTriangle_70 (Nat.le_of_ble_eq_true rfl) rfl rfl ?_
        refine z_aload_n (M := M_X12_addTriangle) dX12_addTriangle_72 rfl ?_
        refine z_getI (M := M_X12_addTriangle) (ci := 15) (C := RX12) (T := TX12) (Nf := 135) (ty := tyX12) cl15 dX12_addTriangle_73 ly_277 131 (by decide) t_2522 rfl rfl ?_
        refine z_istore (M := M_X12_addTriangle) (lv' := [some (vr 277), some (vi a_0), some (vi b_0), some (vi c_0), some (vi x_4), some (vi x_8), some (vi x_12), some (vi (σ kR_triangleMany 0))]) dX12_addTriangle_76 (Nat.le_of_ble_eq_true rfl) rfl rfl ?_
        obtain ⟨rl_18, hw_15, hk_16⟩ := bd_e H
        have J_58 : ∀ k_49 σ_50, rl_18 = (k_49, σ_50) → YY l E M_X12_addTriangle 2 0 0 (pS (none) σ') 154 [some (vr 277), some (vi a_0), some (vi b_0), some (vi c_0), some (vi x_4), some (vi x_8), some (vi x_12), some (vi k_49)] [] σ_50 0 0 := by
          intro k_49 σ_50 e
          have H := hk_16
          rw [e] at H
          refine z_aload_n (M := M_X12_addTriangle) dX12_addTriangle_154 rfl ?_
          refine z_getR (M := M_X12_addTriangle) (ci := 15) (C := RX12) (T := TX12) (Nf := 135) (ty := tyX12) cl15 dX12_addTriangle_155 ly_277 128 (by decide) t_2519 rfl ?_
          refine z_iload (M := M_X12_addTriangle) dX12_addTriangle_158 rfl ?_
          refine z_iload (M := M_X12_addTriangle) dX12_addTriangle_160 rfl ?_
          obtain ⟨σ_51, σ_51_e, hi_52, H⟩ := wa_e H
          refine z_iast (M := M_X12_addTriangle) dX12_addTriangle_162 ly_353 rfl rfl rfl hi_52 σ_51_e ?_
          refine z_aload_n (M := M_X12_addTriangle) dX12_addTriangle_163 rfl ?_
          refine z_getR (M := M_X12_addTriangle) (ci := 15) (C := RX12) (T := TX12) (Nf := 135) (ty := tyX12) cl15 dX12_addTriangle_164 ly_277 129 (by decide) t_2520 rfl ?_
          refine z_iload (M := M_X12_addTriangle) dX12_addTriangle_167 rfl ?_
          refine z_iload (M := M_X12_addTriangle) dX12_addTriangle_169 rfl ?_
          obtain ⟨σ_53, σ_53_e, hi_54, H⟩ := wa_e H
          refine z_iast (M := M_X12_addTriangle) dX12_addTriangle_171 ly_354 rfl rfl rfl hi_54 σ_53_e ?_
          refine z_aload_n (M := M_X12_addTriangle) dX12_addTriangle_172 rfl ?_
          refine z_getR (M := M_X12_addTriangle) (ci := 15) (C := RX12) (T := TX12) (Nf := 135) (ty := tyX12) cl15 dX12_addTriangle_173 ly_277 130 (by decide) t_2521 rfl ?_
          refine z_iload (M := M_X12_addTriangle) dX12_addTriangle_176 rfl ?_
          refine z_iload (M := M_X12_addTriangle) dX12_addTriangle_178 rfl ?_
          obtain ⟨σ_55, σ_55_e, hi_56, H⟩ := wa_e H
          refine z_iast (M := M_X12_addTriangle) dX12_addTriangle_180 ly_355 rfl rfl rfl hi_56 σ_55_e ?_
          refine z_aload_n (M := M_X12_addTriangle) dX12_addTriangle_181 rfl ?_
          refine z_dup (M := M_X12_addTriangle) dX12_addTriangle_182 rfl ?_
          refine z_getI (M := M_X12_addTriangle) (ci := 15) (C := RX12) (T := TX12) (Nf := 135) (ty := tyX12) cl15 dX12_addTriangle_183 ly_277 131 (by decide) t_2522 rfl rfl ?_
          refine z_iconst (M := M_X12_addTriangle) dX12_addTriangle_186 ?_
          refine z_iadd (M := M_X12_addTriangle) dX12_addTriangle_187 ?_
          obtain ⟨σ_57, σ_57_e, H⟩ := wf_e H
          refine z_putI (M := M_X12_addTriangle) (ci := 15) (C := RX12) (T := TX12) (Nf := 135) (ty := tyX12) cl15 dX12_addTriangle_188 ly_277 131 (by decide) t_2522 rfl rfl rfl rfl σ_57_e ?_
          cases H
          exact z_vret (M := M_X12_addTriangle) dX12_addTriangle_191 rfl (Nat.le_of_ble_eq_true rfl) (Nat.le_of_ble_eq_true rfl) ⟨rfl, rfl⟩
        refine whl_go hw_15 (fun (k_13, σ_14) => YY l E M_X12_addTriangle 2 0 0 (pS (none) σ') 78 [some (vr 277), some (vi a_0), some (vi b_0), some (vi c_0), some (vi x_4), some (vi x_8), some (vi x_12), some (vi k_13)] [] σ_14 0 0) ?_
        rintro ⟨k_13, σ_14⟩ o_19 H K_20 K_21
        refine z_iload (M := M_X12_addTriangle) dX12_addTriangle_78 rfl ?_
        rcases if_e H with ⟨h_30, H⟩ | ⟨h_30, H⟩
        · refine z_if_le_f (M := M_X12_addTriangle) (tgt := 154) dX12_addTriangle_80 (by decide) rfl h_30 ?_
          refine z_aload_n (M := M_X12_addTriangle) dX12_addTriangle_83 rfl ?_
          refine z_iload (M := M_X12_addTriangle) dX12_addTriangle_84 rfl ?_
          refine z_iconst (M := M_X12_addTriangle) dX12_addTriangle_86 ?_
          refine z_isub (M := M_X12_addTriangle) dX12_addTriangle_87 ?_
          refine z_iload (M := M_X12_addTriangle) dX12_addTriangle_88 rfl ?_
          refine z_iload (M := M_X12_addTriangle) dX12_addTriangle_90 rfl ?_
          refine z_iload (M := M_X12_addTriangle) dX12_addTriangle_92 rfl ?_
          obtain ⟨x_32, hc_31, H⟩ := bd_e H
          refine z_callV (M := M_X12_addTriangle) (M' := M_X12_isLater) (as := [vi (k_13 - 1), vi x_4, vi x_8, vi x_12]) (rest := []) rfl rfl dX12_addTriangle_94 m_X12_isLater t_3677 t_3679 s_321 (c_X12_isLater hl  hc_31) rfl rfl ly_277 rfl (Nat.le_of_ble_eq_true rfl) (Nat.le_of_ble_eq_true rfl) (Nat.le_of_ble_eq_true rfl) (Nat.le_of_ble_eq_true rfl) ?_
          refine z_st (st' := [zv x_32]) rfl ?_
          rcases if_e H with ⟨h_33, H⟩ | ⟨h_33, H⟩
          · refine z_zeq_f (M := M_X12_addTriangle) (tgt := 154) dX12_addTriangle_97 (by decide) h_33 ?_
            refine z_aload_n (M := M_X12_addTriangle) dX12_addTriangle_100 rfl ?_
            refine z_getR (M := M_X12_addTriangle) (ci := 15) (C := RX12) (T := TX12) (Nf := 135) (ty := tyX12) cl15 dX12_addTriangle_101 ly_277 128 (by decide) t_2519 rfl ?_
            refine z_iload (M := M_X12_addTriangle) dX12_addTriangle_104 rfl ?_
            refine z_aload_n (M := M_X12_addTriangle) dX12_addTriangle_106 rfl ?_
            refine z_getR (M := M_X12_addTriangle) (ci := 15) (C := RX12) (T := TX12) (Nf := 135) (ty := tyX12) cl15 dX12_addTriangle_107 ly_277 128 (by decide) t_2519 rfl ?_
            refine z_iload (M := M_X12_addTriangle) dX12_addTriangle_110 rfl ?_
            refine z_iconst (M := M_X12_addTriangle) dX12_addTriangle_112 ?_
            refine z_isub (M := M_X12_addTriangle) dX12_addTriangle_113 ?_
            obtain ⟨x_34, x_34_e, hi_35, H⟩ := rd_e H
            refine z_iald (M := M_X12_addTriangle) dX12_addTriangle_114 ly_353 rfl rfl rfl hi_35 x_34_e ?_
            obtain ⟨σ_36, σ_36_e, hi_37, H⟩ := wa_e H
            refine z_iast (M := M_X12_addTriangle) dX12_addTriangle_115 ly_353 rfl rfl rfl hi_37 σ_36_e ?_
            refine z_aload_n (M := M_X12_addTriangle) dX12_addTriangle_116 rfl ?_
            refine z_getR (M := M_X12_addTriangle) (ci := 15) (C := RX12) (T := TX12) (Nf := 135) (ty := tyX12) cl15 dX12_addTriangle_117 ly_277 129 (by decide) t_2520 rfl ?_
            refine z_iload (M := M_X12_addTriangle) dX12_addTriangle_120 rfl ?_
            refine z_aload_n (M := M_X12_addTriangle) dX12_addTriangle_122 rfl ?_
            refine z_getR (M := M_X12_addTriangle) (ci := 15) (C := RX12) (T := TX12) (Nf := 135) (ty := tyX12) cl15 dX12_addTriangle_123 ly_277 129 (by decide) t_2520 rfl ?_
            refine z_iload (M := M_X12_addTriangle) dX12_addTriangle_126 rfl ?_
            refine z_iconst (M := M_X12_addTriangle) dX12_addTriangle_128 ?_
            refine z_isub (M := M_X12_addTriangle) dX12_addTriangle_129 ?_
            obtain ⟨x_38, x_38_e, hi_39, H⟩ := rd_e H
            refine z_iald (M := M_X12_addTriangle) dX12_addTriangle_130 ly_354 rfl rfl rfl hi_39 x_38_e ?_
            obtain ⟨σ_40, σ_40_e, hi_41, H⟩ := wa_e H
            refine z_iast (M := M_X12_addTriangle) dX12_addTriangle_131 ly_354 rfl rfl rfl hi_41 σ_40_e ?_
            refine z_aload_n (M := M_X12_addTriangle) dX12_addTriangle_132 rfl ?_
            refine z_getR (M := M_X12_addTriangle) (ci := 15) (C := RX12) (T := TX12) (Nf := 135) (ty := tyX12) cl15 dX12_addTriangle_133 ly_277 130 (by decide) t_2521 rfl ?_
            refine z_iload (M := M_X12_addTriangle) dX12_addTriangle_136 rfl ?_
            refine z_aload_n (M := M_X12_addTriangle) dX12_addTriangle_138 rfl ?_
            refine z_getR (M := M_X12_addTriangle) (ci := 15) (C := RX12) (T := TX12) (Nf := 135) (ty := tyX12) cl15 dX12_addTriangle_139 ly_277 130 (by decide) t_2521 rfl ?_
            refine z_iload (M := M_X12_addTriangle) dX12_addTriangle_142 rfl ?_
            refine z_iconst (M := M_X12_addTriangle) dX12_addTriangle_144 ?_
            refine z_isub (M := M_X12_addTriangle) dX12_addTriangle_145 ?_
            obtain ⟨x_42, x_42_e, hi_43, H⟩ := rd_e H
            refine z_iald (M := M_X12_addTriangle) dX12_addTriangle_146 ly_355 rfl rfl rfl hi_43 x_42_e ?_
            obtain ⟨σ_44, σ_44_e, hi_45, H⟩ := wa_e H
            refine z_iast (M := M_X12_addTriangle) dX12_addTriangle_147 ly_355 rfl rfl rfl hi_45 σ_44_e ?_
            refine z_iinc (M := M_X12_addTriangle) (lv' := [some (vr 277), some (vi a_0), some (vi b_0), some (vi c_0), some (vi x_4), some (vi x_8), some (vi x_12), some (vi (k_13 + (-1)))]) dX12_addTriangle_148 rfl (Nat.le_of_ble_eq_true rfl) rfl rfl ?_
            refine z_goto (M := M_X12_addTriangle) (tgt := 78) dX12_addTriangle_151 (by decide) ?_
            exact K_20 _ (Option.some.inj H).symm
          · refine z_zeq_t (M := M_X12_addTriangle) (tgt := 154) dX12_addTriangle_97 (by decide) h_33 ?_
            exact J_58 _ _ (K_21 _ (Option.some.inj H).symm).symm
        · refine z_if_le_t (M := M_X12_addTriangle) (tgt := 154) dX12_addTriangle_80 (by decide) rfl (Int.not_lt.mp h_30) ?_
          exact J_58 _ _ (K_21 _ (Option.some.inj H).symm).symm
      refine z_iload (M := M_X12_addTriangle) dX12_addTriangle_49 rfl ?_
      refine z_iload_n (M := M_X12_addTriangle) dX12_addTriangle_51 rfl ?_
      by_cases h_59 : (w32 x_4) = (w32 a_0)
      · refine z_icmp_ne_f (M := M_X12_addTriangle) (tgt := 59) dX12_addTriangle_52 (by decide) rfl rfl h_59 ?_
        refine z_iload_n (M := M_X12_addTriangle) dX12_addTriangle_55 rfl ?_
        refine z_goto (M := M_X12_addTriangle) (tgt := 70) dX12_addTriangle_56 (by decide) ?_
        exact z_st (by rw [if_pos (c := (w32 x_4) = (w32 a_0)) h_59]) J_11
      · refine z_icmp_ne_t (M := M_X12_addTriangle) (tgt := 59) dX12_addTriangle_52 (by decide) rfl rfl h_59 ?_
        have J_60 : YY l E M_X12_addTriangle 2 0 0 (pS (none) σ') 70 [some (vr 277), some (vi a_0), some (vi b_0), some (vi c_0), some (vi x_4), some (vi x_8), none, none] [vi (if (w32 x_4) = (w32 b_0) then a_0 else b_0)] σ 0 0 := by
          exact z_st (by rw [if_neg (c := (w32 x_4) = (w32 a_0)) h_59]) J_11
        refine z_iload (M := M_X12_addTriangle) dX12_addTriangle_59 rfl ?_
        refine z_iload_n (M := M_X12_addTriangle) dX12_addTriangle_61 rfl ?_
        by_cases h_61 : (w32 x_4) = (w32 b_0)
        · refine z_icmp_ne_f (M := M_X12_addTriangle) (tgt := 69) dX12_addTriangle_62 (by decide) rfl rfl h_61 ?_
          refine z_iload_n (M := M_X12_addTriangle) dX12_addTriangle_65 rfl ?_
          refine z_goto (M := M_X12_addTriangle) (tgt := 70) dX12_addTriangle_66 (by decide) ?_
          exact z_st (by rw [if_pos (c := (w32 x_4) = (w32 b_0)) h_61]) J_60
        · refine z_icmp_ne_t (M := M_X12_addTriangle) (tgt := 69) dX12_addTriangle_62 (by decide) rfl rfl h_61 ?_
          refine z_iload_n (M := M_X12_addTriangle) dX12_addTriangle_69 rfl ?_
          exact z_st (by rw [if_neg (c := (w32 x_4) = (w32 b_0)) h_61]) J_60
    refine z_iload (M := M_X12_addTriangle) dX12_addTriangle_26 rfl ?_
    refine z_iload_n (M := M_X12_addTriangle) dX12_addTriangle_28 rfl ?_
    by_cases h_62 : (w32 x_4) = (w32 a_0)
    · refine z_icmp_ne_f (M := M_X12_addTriangle) (tgt := 36) dX12_addTriangle_29 (by decide) rfl rfl h_62 ?_
      refine z_iload_n (M := M_X12_addTriangle) dX12_addTriangle_32 rfl ?_
      refine z_goto (M := M_X12_addTriangle) (tgt := 47) dX12_addTriangle_33 (by decide) ?_
      exact z_st (by rw [if_pos (c := (w32 x_4) = (w32 a_0)) h_62]) J_7
    · refine z_icmp_ne_t (M := M_X12_addTriangle) (tgt := 36) dX12_addTriangle_29 (by decide) rfl rfl h_62 ?_
      have J_63 : YY l E M_X12_addTriangle 2 0 0 (pS (none) σ') 47 [some (vr 277), some (vi a_0), some (vi b_0), some (vi c_0), some (vi x_4), none, none, none] [vi (if (w32 x_4) = (w32 b_0) then c_0 else a_0)] σ 0 0 := by
        exact z_st (by rw [if_neg (c := (w32 x_4) = (w32 a_0)) h_62]) J_7
      refine z_iload (M := M_X12_addTriangle) dX12_addTriangle_36 rfl ?_
      refine z_iload_n (M := M_X12_addTriangle) dX12_addTriangle_38 rfl ?_
      by_cases h_64 : (w32 x_4) = (w32 b_0)
      · refine z_icmp_ne_f (M := M_X12_addTriangle) (tgt := 46) dX12_addTriangle_39 (by decide) rfl rfl h_64 ?_
        refine z_iload_n (M := M_X12_addTriangle) dX12_addTriangle_42 rfl ?_
        refine z_goto (M := M_X12_addTriangle) (tgt := 47) dX12_addTriangle_43 (by decide) ?_
        exact z_st (by rw [if_pos (c := (w32 x_4) = (w32 b_0)) h_64]) J_63
      · refine z_icmp_ne_t (M := M_X12_addTriangle) (tgt := 46) dX12_addTriangle_39 (by decide) rfl rfl h_64 ?_
        refine z_iload_n (M := M_X12_addTriangle) dX12_addTriangle_46 rfl ?_
        exact z_st (by rw [if_neg (c := (w32 x_4) = (w32 b_0)) h_64]) J_63
  refine z_iload_n (M := M_X12_addTriangle) dX12_addTriangle_0 rfl ?_
  refine z_iload_n (M := M_X12_addTriangle) dX12_addTriangle_1 rfl ?_
  by_cases h_65 : (w32 a_0) < (w32 b_0)
  · refine z_icmp_ge_f (M := M_X12_addTriangle) (tgt := 14) dX12_addTriangle_2 (by decide) rfl rfl h_65 ?_
    refine z_iload_n (M := M_X12_addTriangle) dX12_addTriangle_5 rfl ?_
    refine z_iload_n (M := M_X12_addTriangle) dX12_addTriangle_6 rfl ?_
    by_cases h_66 : (w32 a_0) < (w32 c_0)
    · refine z_icmp_ge_f (M := M_X12_addTriangle) (tgt := 14) dX12_addTriangle_7 (by decide) rfl rfl h_66 ?_
      refine z_iload_n (M := M_X12_addTriangle) dX12_addTriangle_10 rfl ?_
      refine z_goto (M := M_X12_addTriangle) (tgt := 24) dX12_addTriangle_11 (by decide) ?_
      exact z_st (by rw [if_pos (c := ((w32 a_0) < (w32 b_0)) ∧ ((w32 a_0) < (w32 c_0))) ⟨h_65, h_66⟩]) J_3
    · refine z_icmp_ge_t (M := M_X12_addTriangle) (tgt := 14) dX12_addTriangle_7 (by decide) rfl rfl (Int.not_lt.mp h_66) ?_
      have J_67 : YY l E M_X12_addTriangle 2 0 0 (pS (none) σ') 24 [some (vr 277), some (vi a_0), some (vi b_0), some (vi c_0), none, none, none, none] [vi (if (w32 b_0) < (w32 c_0) then b_0 else c_0)] σ 0 0 := by
        exact z_st (by rw [if_neg (c := ((w32 a_0) < (w32 b_0)) ∧ ((w32 a_0) < (w32 c_0))) (fun q => h_66 q.2)]) J_3
      refine z_iload_n (M := M_X12_addTriangle) dX12_addTriangle_14 rfl ?_
      refine z_iload_n (M := M_X12_addTriangle) dX12_addTriangle_15 rfl ?_
      by_cases h_68 : (w32 b_0) < (w32 c_0)
      · refine z_icmp_ge_f (M := M_X12_addTriangle) (tgt := 23) dX12_addTriangle_16 (by decide) rfl rfl h_68 ?_
        refine z_iload_n (M := M_X12_addTriangle) dX12_addTriangle_19 rfl ?_
        refine z_goto (M := M_X12_addTriangle) (tgt := 24) dX12_addTriangle_20 (by decide) ?_
        exact z_st (by rw [if_pos (c := (w32 b_0) < (w32 c_0)) h_68]) J_67
      · refine z_icmp_ge_t (M := M_X12_addTriangle) (tgt := 23) dX12_addTriangle_16 (by decide) rfl rfl (Int.not_lt.mp h_68) ?_
        refine z_iload_n (M := M_X12_addTriangle) dX12_addTriangle_23 rfl ?_
        exact z_st (by rw [if_neg (c := (w32 b_0) < (w32 c_0)) h_68]) J_67
  · refine z_icmp_ge_t (M := M_X12_addTriangle) (tgt := 14) dX12_addTriangle_2 (by decide) rfl rfl (Int.not_lt.mp h_65) ?_
    have J_69 : YY l E M_X12_addTriangle 2 0 0 (pS (none) σ') 24 [some (vr 277), some (vi a_0), some (vi b_0), some (vi c_0), none, none, none, none] [vi (if (w32 b_0) < (w32 c_0) then b_0 else c_0)] σ 0 0 := by
      exact z_st (by rw [if_neg (c := ((w32 a_0) < (w32 b_0)) ∧ ((w32 a_0) < (w32 c_0))) (fun q => h_65 q.1)]) J_3
    refine z_iload_n (M := M_X12_addTriangle) dX12_addTriangle_14 rfl ?_
    refine z_iload_n (M := M_X12_addTriangle) dX12_addTriangle_15 rfl ?_
    by_cases h_70 : (w32 b_0) < (w32 c_0)
    · refine z_icmp_ge_f (M := M_X12_addTriangle) (tgt := 23) dX12_addTriangle_16 (by decide) rfl rfl h_70 ?_
      refine z_iload_n (M := M_X12_addTriangle) dX12_addTriangle_19 rfl ?_
      refine z_goto (M := M_X12_addTriangle) (tgt := 24) dX12_addTriangle_20 (by decide) ?_
      exact z_st (by rw [if_pos (c := (w32 b_0) < (w32 c_0)) h_70]) J_69
    · refine z_icmp_ge_t (M := M_X12_addTriangle) (tgt := 23) dX12_addTriangle_16 (by decide) rfl rfl (Int.not_lt.mp h_70) ?_
      refine z_iload_n (M := M_X12_addTriangle) dX12_addTriangle_23 rfl ?_
      exact z_st (by rw [if_neg (c := (w32 b_0) < (w32 c_0)) h_70]) J_69
theorem c_X12_waitFor (hl : l.stackTraces = false) {σ : SG} {a_0 : Int} {b_0 : Int} {σ' : SG}  (H : fR_waitFor σ a_0 b_0 = some σ') : en_S l E M_X12_waitFor 1 0 0 [vr 277, vi a_0, vi b_0] σ (pS (none) σ') := by
  unfold fR_waitFor at H
  refine z_mk (lv := [some (vr 277), some (vi a_0), some (vi b_0)]) m_X12_waitFor rfl hl (Nat.le_of_ble_eq_true rfl) rfl ?_
  refine z_aload_n (M := M_X12_waitFor) dX12_waitFor_0 rfl ?_
  refine z_getR (M := M_X12_waitFor) (ci := 15) (C := RX12) (T := TX12) (Nf := 135) (ty := tyX12) cl15 dX12_waitFor_1 ly_277 123 (by decide) t_2514 rfl ?_
  refine z_aload_n (M := M_X12_waitFor) dX12_waitFor_4 rfl ?_
  refine z_getI (M := M_X12_waitFor) (ci := 15) (C := RX12) (T := TX12) (Nf := 135) (ty := tyX12) cl15 dX12_waitFor_5 ly_277 125 (by decide) t_2516 rfl rfl ?_
  refine z_iload_n (M := M_X12_waitFor) dX12_waitFor_8 rfl ?_
  obtain ⟨σ_1, σ_1_e, hi_2, H⟩ := wa_e H
  refine z_iast (M := M_X12_waitFor) dX12_waitFor_9 ly_350 rfl rfl rfl hi_2 σ_1_e ?_
  refine z_aload_n (M := M_X12_waitFor) dX12_waitFor_10 rfl ?_
  refine z_getR (M := M_X12_waitFor) (ci := 15) (C := RX12) (T := TX12) (Nf := 135) (ty := tyX12) cl15 dX12_waitFor_11 ly_277 124 (by decide) t_2515 rfl ?_
  refine z_aload_n (M := M_X12_waitFor) dX12_waitFor_14 rfl ?_
  refine z_getI (M := M_X12_waitFor) (ci := 15) (C := RX12) (T := TX12) (Nf := 135) (ty := tyX12) cl15 dX12_waitFor_15 ly_277 125 (by decide) t_2516 rfl rfl ?_
  refine z_iload_n (M := M_X12_waitFor) dX12_waitFor_18 rfl ?_
  obtain ⟨σ_3, σ_3_e, hi_4, H⟩ := wa_e H
  refine z_iast (M := M_X12_waitFor) dX12_waitFor_19 ly_351 rfl rfl rfl hi_4 σ_3_e ?_
  refine z_aload_n (M := M_X12_waitFor) dX12_waitFor_20 rfl ?_
  refine z_dup (M := M_X12_waitFor) dX12_waitFor_21 rfl ?_
  refine z_getI (M := M_X12_waitFor) (ci := 15) (C := RX12) (T := TX12) (Nf := 135) (ty := tyX12) cl15 dX12_waitFor_22 ly_277 125 (by decide) t_2516 rfl rfl ?_
  refine z_iconst (M := M_X12_waitFor) dX12_waitFor_25 ?_
  refine z_iadd (M := M_X12_waitFor) dX12_waitFor_26 ?_
  obtain ⟨σ_5, σ_5_e, H⟩ := wf_e H
  refine z_putI (M := M_X12_waitFor) (ci := 15) (C := RX12) (T := TX12) (Nf := 135) (ty := tyX12) cl15 dX12_waitFor_27 ly_277 125 (by decide) t_2516 rfl rfl rfl rfl σ_5_e ?_
  cases H
  exact z_vret (M := M_X12_waitFor) dX12_waitFor_30 rfl (Nat.le_of_ble_eq_true rfl) (Nat.le_of_ble_eq_true rfl) ⟨rfl, rfl⟩
theorem c_X12_gatherTriangles (hl : l.stackTraces = false) {σ : SG} {σ' : SG}  (H : fR_gatherTriangles σ = some σ') : en_S l E M_X12_gatherTriangles 7 0 0 [vr 277] σ (pS (none) σ') := by
  unfold fR_gatherTriangles at H
  refine z_mk (lv := [some (vr 277), none, none, none, none, none, none, none]) m_X12_gatherTriangles rfl hl (Nat.le_of_ble_eq_true rfl) rfl ?_
  refine z_aload_n (M := M_X12_gatherTriangles) dX12_gatherTriangles_0 rfl ?_
  refine z_iconst (M := M_X12_gatherTriangles) dX12_gatherTriangles_1 ?_
  obtain ⟨σ_1, σ_1_e, H⟩ := wf_e H
  refine z_putI (M := M_X12_gatherTriangles) (ci := 15) (C := RX12) (T := TX12) (Nf := 135) (ty := tyX12) cl15 dX12_gatherTriangles_2 ly_277 131 (by decide) t_2522 rfl rfl rfl rfl σ_1_e ?_
  refine z_aload_n (M := M_X12_gatherTriangles) dX12_gatherTriangles_5 rfl ?_
  refine z_iconst (M := M_X12_gatherTriangles) dX12_gatherTriangles_6 ?_
  obtain ⟨σ_2, σ_2_e, H⟩ := wf_e H
  refine z_putI (M := M_X12_gatherTriangles) (ci := 15) (C := RX12) (T := TX12) (Nf := 135) (ty := tyX12) cl15 dX12_gatherTriangles_7 ly_277 125 (by decide) t_2516 rfl rfl rfl rfl σ_2_e ?_
  refine z_aload_n (M := M_X12_gatherTriangles) dX12_gatherTriangles_10 rfl ?_
  refine z_getI (M := M_X12_gatherTriangles) (ci := 15) (C := RX12) (T := TX12) (Nf := 135) (ty := tyX12) cl15 dX12_gatherTriangles_11 ly_277 119 (by decide) t_2510 rfl rfl ?_
  refine z_iconst (M := M_X12_gatherTriangles) dX12_gatherTriangles_14 ?_
  rcases if_e H with ⟨h_3, H⟩ | ⟨h_3, H⟩
  · refine z_icmp_ge_f (M := M_X12_gatherTriangles) (tgt := 19) dX12_gatherTriangles_15 (by decide) rfl (by decide +kernel) h_3 ?_
    cases H
    exact z_vret (M := M_X12_gatherTriangles) dX12_gatherTriangles_18 rfl (Nat.le_of_ble_eq_true rfl) (Nat.le_of_ble_eq_true rfl) ⟨rfl, rfl⟩
  · refine z_icmp_ge_t (M := M_X12_gatherTriangles) (tgt := 19) dX12_gatherTriangles_15 (by decide) rfl (by decide +kernel) (Int.not_lt.mp h_3) ?_
    refine z_iconst (M := M_X12_gatherTriangles) dX12_gatherTriangles_19 ?_
    refine z_istore_n (M := M_X12_gatherTriangles) (lv' := [some (vr 277), some (vi 0), none, none, none, none, none, none]) dX12_gatherTriangles_20 (Nat.le_of_ble_eq_true rfl) rfl rfl ?_
    obtain ⟨rl_9, hw_6, hk_7⟩ := bd_e H
    have J_113 : ∀ k_18 σ_19, rl_9 = (k_18, σ_19) → YY l E M_X12_gatherTriangles 7 0 0 (pS (none) σ') 46 [some (vr 277), some (vi k_18), none, none, none, none, none, none] [] σ_19 0 0 := by
      intro k_18 σ_19 e
      have H := hk_7
      rw [e] at H
      refine z_aload_n (M := M_X12_gatherTriangles) dX12_gatherTriangles_46 rfl ?_
      obtain ⟨x_21, hc_20, H⟩ := bd_e H
      refine z_callV (M := M_X12_gatherTriangles) (M' := M_X12_leastSpot) (as := []) (rest := []) rfl rfl dX12_gatherTriangles_47 m_X12_leastSpot t_3629 t_3631 s_310 (c_X12_leastSpot hl  hc_20) rfl rfl ly_277 rfl (Nat.le_of_ble_eq_true rfl) (Nat.le_of_ble_eq_true rfl) (Nat.le_of_ble_eq_true rfl) (Nat.le_of_ble_eq_true rfl) ?_
      refine z_st (st' := [vi x_21]) rfl ?_
      refine z_istore_n (M := M_X12_gatherTriangles) (lv' := [some (vr 277), some (vi x_21), none, none, none, none, none, none]) dX12_gatherTriangles_50 (Nat.le_of_ble_eq_true rfl) rfl rfl ?_
      refine z_aload_n (M := M_X12_gatherTriangles) dX12_gatherTriangles_51 rfl ?_
      refine z_iload_n (M := M_X12_gatherTriangles) dX12_gatherTriangles_52 rfl ?_
      refine z_aload_n (M := M_X12_gatherTriangles) dX12_gatherTriangles_53 rfl ?_
      refine z_iload_n (M := M_X12_gatherTriangles) dX12_gatherTriangles_54 rfl ?_
      refine z_zconst (M := M_X12_gatherTriangles) (b := true) dX12_gatherTriangles_55 rfl ?_
      obtain ⟨x_23, hc_22, H⟩ := bd_e H
      refine z_callV (M := M_X12_gatherTriangles) (M' := M_X12_hullBehind) (as := [vi x_21, zv true]) (rest := [vi x_21, vr 277]) rfl rfl dX12_gatherTriangles_56 m_X12_hullBehind t_3637 t_3639 s_312 (c_X12_hullBehind hl  hc_22) rfl rfl ly_277 rfl (Nat.le_of_ble_eq_true rfl) (Nat.le_of_ble_eq_true rfl) (Nat.le_of_ble_eq_true rfl) (Nat.le_of_ble_eq_true rfl) ?_
      refine z_st (st' := [vi x_23, vi x_21, vr 277]) rfl ?_
      obtain ⟨σ_25, hc_24, H⟩ := bd_e H
      refine z_callV (M := M_X12_gatherTriangles) (M' := M_X12_waitFor) (as := [vi x_21, vi x_23]) (rest := []) rfl rfl dX12_gatherTriangles_59 m_X12_waitFor t_3657 t_3659 s_316 (c_X12_waitFor hl  hc_24) rfl rfl ly_277 rfl (Nat.le_of_ble_eq_true rfl) (Nat.le_of_ble_eq_true rfl) (Nat.le_of_ble_eq_true rfl) (Nat.le_of_ble_eq_true rfl) ?_
      refine z_st (st' := []) rfl ?_
      obtain ⟨rl_30, hw_27, hk_28⟩ := bd_e H
      have J_112 : ∀ σ_111, rl_30 = σ_111 → YY l E M_X12_gatherTriangles 7 0 0 (pS (none) σ') 274 [some (vr 277), some (vi x_21), none, none, none, none, none, none] [] σ_111 0 0 := by
        intro σ_111 e
        have H := hk_28
        rw [e] at H
        cases H
        exact z_vret (M := M_X12_gatherTriangles) dX12_gatherTriangles_274 rfl (Nat.le_of_ble_eq_true rfl) (Nat.le_of_ble_eq_true rfl) ⟨rfl, rfl⟩
      refine whl_go hw_27 (fun σ_26 => YY l E M_X12_gatherTriangles 7 0 0 (pS (none) σ') 62 [some (vr 277), some (vi x_21), none, none, none, none, none, none] [] σ_26 0 0) ?_
      rintro σ_26 o_31 H K_32 K_33
      refine z_aload_n (M := M_X12_gatherTriangles) dX12_gatherTriangles_62 rfl ?_
      refine z_getI (M := M_X12_gatherTriangles) (ci := 15) (C := RX12) (T := TX12) (Nf := 135) (ty := tyX12) cl15 dX12_gatherTriangles_63 ly_277 125 (by decide) t_2516 rfl rfl ?_
      rcases if_e H with ⟨h_34, H⟩ | ⟨h_34, H⟩
      · refine z_if_le_f (M := M_X12_gatherTriangles) (tgt := 274) dX12_gatherTriangles_66 (by decide) rfl h_34 ?_
        refine z_aload_n (M := M_X12_gatherTriangles) dX12_gatherTriangles_69 rfl ?_
        refine z_dup (M := M_X12_gatherTriangles) dX12_gatherTriangles_70 rfl ?_
        refine z_getI (M := M_X12_gatherTriangles) (ci := 15) (C := RX12) (T := TX12) (Nf := 135) (ty := tyX12) cl15 dX12_gatherTriangles_71 ly_277 125 (by decide) t_2516 rfl rfl ?_
        refine z_iconst (M := M_X12_gatherTriangles) dX12_gatherTriangles_74 ?_
        refine z_isub (M := M_X12_gatherTriangles) dX12_gatherTriangles_75 ?_
        obtain ⟨σ_35, σ_35_e, H⟩ := wf_e H
        refine z_putI (M := M_X12_gatherTriangles) (ci := 15) (C := RX12) (T := TX12) (Nf := 135) (ty := tyX12) cl15 dX12_gatherTriangles_76 ly_277 125 (by decide) t_2516 rfl rfl rfl rfl σ_35_e ?_
        refine z_aload_n (M := M_X12_gatherTriangles) dX12_gatherTriangles_79 rfl ?_
        refine z_getR (M := M_X12_gatherTriangles) (ci := 15) (C := RX12) (T := TX12) (Nf := 135) (ty := tyX12) cl15 dX12_gatherTriangles_80 ly_277 123 (by decide) t_2514 rfl ?_
        refine z_aload_n (M := M_X12_gatherTriangles) dX12_gatherTriangles_83 rfl ?_
        refine z_getI (M := M_X12_gatherTriangles) (ci := 15) (C := RX12) (T := TX12) (Nf := 135) (ty := tyX12) cl15 dX12_gatherTriangles_84 ly_277 125 (by decide) t_2516 rfl rfl ?_
        obtain ⟨x_36, x_36_e, hi_37, H⟩ := rd_e H
        refine z_iald (M := M_X12_gatherTriangles) dX12_gatherTriangles_87 ly_350 rfl rfl rfl hi_37 x_36_e ?_
        refine z_istore_n (M := M_X12_gatherTriangles) (lv' := [some (vr 277), some (vi x_21), some (vi x_36), none, none, none, none, none]) dX12_gatherTriangles_88 (Nat.le_of_ble_eq_true rfl) rfl rfl ?_
        refine z_aload_n (M := M_X12_gatherTriangles) dX12_gatherTriangles_89 rfl ?_
        refine z_getR (M := M_X12_gatherTriangles) (ci := 15) (C := RX12) (T := TX12) (Nf := 135) (ty := tyX12) cl15 dX12_gatherTriangles_90 ly_277 124 (by decide) t_2515 rfl ?_
        refine z_aload_n (M := M_X12_gatherTriangles) dX12_gatherTriangles_93 rfl ?_
        refine z_getI (M := M_X12_gatherTriangles) (ci := 15) (C := RX12) (T := TX12) (Nf := 135) (ty := tyX12) cl15 dX12_gatherTriangles_94 ly_277 125 (by decide) t_2516 rfl rfl ?_
        obtain ⟨x_38, x_38_e, hi_39, H⟩ := rd_e H
        refine z_iald (M := M_X12_gatherTriangles) dX12_gatherTriangles_97 ly_351 rfl rfl rfl hi_39 x_38_e ?_
        refine z_istore_n (M := M_X12_gatherTriangles) (lv' := [some (vr 277), some (vi x_21), some (vi x_36), some (vi x_38), none, none, none, none]) dX12_gatherTriangles_98 (Nat.le_of_ble_eq_true rfl) rfl rfl ?_
        refine z_aload_n (M := M_X12_gatherTriangles) dX12_gatherTriangles_99 rfl ?_
        refine z_getR (M := M_X12_gatherTriangles) (ci := 15) (C := RX12) (T := TX12) (Nf := 135) (ty := tyX12) cl15 dX12_gatherTriangles_100 ly_277 122 (by decide) t_2513 rfl ?_
        refine z_sipush (M := M_X12_gatherTriangles) dX12_gatherTriangles_103 (by decide +kernel) ?_
        refine z_iload_n (M := M_X12_gatherTriangles) dX12_gatherTriangles_106 rfl ?_
        refine z_imul (M := M_X12_gatherTriangles) dX12_gatherTriangles_107 ?_
        refine z_iload_n (M := M_X12_gatherTriangles) dX12_gatherTriangles_108 rfl ?_
        refine z_iadd (M := M_X12_gatherTriangles) dX12_gatherTriangles_109 ?_
        obtain ⟨x_40, x_40_e, hi_41, H⟩ := rd_e H
        refine z_zald (M := M_X12_gatherTriangles) dX12_gatherTriangles_110 ly_349 rfl rfl rfl hi_41 x_40_e ?_
        rcases if_e H with ⟨h_42, H⟩ | ⟨h_42, H⟩
        · refine z_zeq_f (M := M_X12_gatherTriangles) (tgt := 117) dX12_gatherTriangles_111 (by decide) h_42 ?_
          refine z_goto (M := M_X12_gatherTriangles) (tgt := 62) dX12_gatherTriangles_114 (by decide) ?_
          refine z_le (lv' := [some (vr 277), some (vi x_21), none, none, none, none, none, none]) ⟨Or.inr rfl, Or.inr rfl, Or.inl rfl, Or.inl rfl, Or.inl rfl, Or.inl rfl, Or.inl rfl, Or.inl rfl, trivial⟩ ?_
          exact K_32 _ (Option.some.inj H).symm
        · refine z_zeq_t (M := M_X12_gatherTriangles) (tgt := 117) dX12_gatherTriangles_111 (by decide) h_42 ?_
          refine z_aload_n (M := M_X12_gatherTriangles) dX12_gatherTriangles_117 rfl ?_
          refine z_iload_n (M := M_X12_gatherTriangles) dX12_gatherTriangles_118 rfl ?_
          refine z_iload_n (M := M_X12_gatherTriangles) dX12_gatherTriangles_119 rfl ?_
          obtain ⟨⟨x_46, σ_45⟩, hc_44, H⟩ := bd_e H
          refine z_callV (M := M_X12_gatherTriangles) (M' := M_X12_third) (as := [vi x_36, vi x_38]) (rest := []) rfl rfl dX12_gatherTriangles_120 m_X12_third t_3661 t_3663 s_317 (c_X12_third hl  hc_44) rfl rfl ly_277 rfl (Nat.le_of_ble_eq_true rfl) (Nat.le_of_ble_eq_true rfl) (Nat.le_of_ble_eq_true rfl) (Nat.le_of_ble_eq_true rfl) ?_
          refine z_st (st' := [vi x_46]) rfl ?_
          refine z_istore (M := M_X12_gatherTriangles) (lv' := [some (vr 277), some (vi x_21), some (vi x_36), some (vi x_38), some (vi x_46), none, none, none]) dX12_gatherTriangles_123 (Nat.le_of_ble_eq_true rfl) rfl rfl ?_
          refine z_iload (M := M_X12_gatherTriangles) dX12_gatherTriangles_125 rfl ?_
          refine z_iconst (M := M_X12_gatherTriangles) dX12_gatherTriangles_127 ?_
          rcases if_e H with ⟨h_47, H⟩ | ⟨h_47, H⟩
          · refine z_icmp_ne_f (M := M_X12_gatherTriangles) (tgt := 134) dX12_gatherTriangles_128 (by decide) rfl (by decide +kernel) h_47 ?_
            refine z_goto (M := M_X12_gatherTriangles) (tgt := 62) dX12_gatherTriangles_131 (by decide) ?_
            refine z_le (lv' := [some (vr 277), some (vi x_21), none, none, none, none, none, none]) ⟨Or.inr rfl, Or.inr rfl, Or.inl rfl, Or.inl rfl, Or.inl rfl, Or.inl rfl, Or.inl rfl, Or.inl rfl, trivial⟩ ?_
            exact K_32 _ (Option.some.inj H).symm
          · refine z_icmp_ne_t (M := M_X12_gatherTriangles) (tgt := 134) dX12_gatherTriangles_128 (by decide) rfl (by decide +kernel) h_47 ?_
            refine z_aload_n (M := M_X12_gatherTriangles) dX12_gatherTriangles_134 rfl ?_
            refine z_iload_n (M := M_X12_gatherTriangles) dX12_gatherTriangles_135 rfl ?_
            refine z_iload_n (M := M_X12_gatherTriangles) dX12_gatherTriangles_136 rfl ?_
            refine z_iload (M := M_X12_gatherTriangles) dX12_gatherTriangles_137 rfl ?_
            obtain ⟨σ_50, hc_49, H⟩ := bd_e H
            refine z_callV (M := M_X12_gatherTriangles) (M' := M_X12_gatherCircle) (as := [vi x_36, vi x_38, vi x_46]) (rest := []) rfl rfl dX12_gatherTriangles_139 m_X12_gatherCircle t_3669 t_3671 s_319 (c_X12_gatherCircle hl  hc_49) rfl rfl ly_277 rfl (Nat.le_of_ble_eq_true rfl) (Nat.le_of_ble_eq_true rfl) (Nat.le_of_ble_eq_true rfl) (Nat.le_of_ble_eq_true rfl) ?_
            refine z_st (st' := []) rfl ?_
            refine z_iconst (M := M_X12_gatherTriangles) dX12_gatherTriangles_142 ?_
            refine z_istore (M := M_X12_gatherTriangles) (lv' := [some (vr 277), some (vi x_21), some (vi x_36), some (vi x_38), some (vi x_46), some (vi 0), none, none]) dX12_gatherTriangles_143 (Nat.le_of_ble_eq_true rfl) rfl rfl ?_
            obtain ⟨rl_56, hw_53, hk_54⟩ := bd_e H
            have J_109 : ∀ k_83 σ_84, rl_56 = (k_83, σ_84) → YY l E M_X12_gatherTriangles 7 0 0 (pS (none) σ') 225 [some (vr 277), some (vi x_21), some (vi x_36), some (vi x_38), some (vi x_46), some (vi k_83), none, none] [] σ_84 0 0 := by
              intro k_83 σ_84 e
              have H := hk_54
              rw [e] at H
              refine z_iconst (M := M_X12_gatherTriangles) dX12_gatherTriangles_225 ?_
              refine z_istore (M := M_X12_gatherTriangles) (lv' := [some (vr 277), some (vi x_21), some (vi x_36), some (vi x_38), some (vi x_46), some (vi 1), none, none]) dX12_gatherTriangles_226 (Nat.le_of_ble_eq_true rfl) rfl rfl ?_
              obtain ⟨rl_90, hw_87, hk_88⟩ := bd_e H
              have J_108 : ∀ k_105 σ_106, rl_90 = (k_105, σ_106) → YY l E M_X12_gatherTriangles 7 0 0 (pS (none) σ') 271 [some (vr 277), some (vi x_21), some (vi x_36), some (vi x_38), some (vi x_46), some (vi k_105), none, none] [] σ_106 0 0 := by
                intro k_105 σ_106 e
                have H := hk_88
                rw [e] at H
                refine z_goto (M := M_X12_gatherTriangles) (tgt := 62) dX12_gatherTriangles_271 (by decide) ?_
                refine z_le (lv' := [some (vr 277), some (vi x_21), none, none, none, none, none, none]) ⟨Or.inr rfl, Or.inr rfl, Or.inl rfl, Or.inl rfl, Or.inl rfl, Or.inl rfl, Or.inl rfl, Or.inl rfl, trivial⟩ ?_
                exact K_32 _ (Option.some.inj H).symm
              refine whl_go hw_87 (fun (k_85, σ_86) => YY l E M_X12_gatherTriangles 7 0 0 (pS (none) σ') 228 [some (vr 277), some (vi x_21), some (vi x_36), some (vi x_38), some (vi x_46), some (vi k_85), none, none] [] σ_86 0 0) ?_
              rintro ⟨k_85, σ_86⟩ o_91 H K_92 K_93
              refine z_iload (M := M_X12_gatherTriangles) dX12_gatherTriangles_228 rfl ?_
              refine z_iconst (M := M_X12_gatherTriangles) dX12_gatherTriangles_230 ?_
              refine z_iadd (M := M_X12_gatherTriangles) dX12_gatherTriangles_231 ?_
              refine z_aload_n (M := M_X12_gatherTriangles) dX12_gatherTriangles_232 rfl ?_
              refine z_getI (M := M_X12_gatherTriangles) (ci := 15) (C := RX12) (T := TX12) (Nf := 135) (ty := tyX12) cl15 dX12_gatherTriangles_233 ly_277 127 (by decide) t_2518 rfl rfl ?_
              rcases if_e H with ⟨h_94, H⟩ | ⟨h_94, H⟩
              · refine z_icmp_ge_f (M := M_X12_gatherTriangles) (tgt := 271) dX12_gatherTriangles_236 (by decide) rfl rfl h_94 ?_
                refine z_aload_n (M := M_X12_gatherTriangles) dX12_gatherTriangles_239 rfl ?_
                refine z_aload_n (M := M_X12_gatherTriangles) dX12_gatherTriangles_240 rfl ?_
                refine z_getR (M := M_X12_gatherTriangles) (ci := 15) (C := RX12) (T := TX12) (Nf := 135) (ty := tyX12) cl15 dX12_gatherTriangles_241 ly_277 126 (by decide) t_2517 rfl ?_
                refine z_iconst (M := M_X12_gatherTriangles) dX12_gatherTriangles_244 ?_
                obtain ⟨x_95, x_95_e, hi_96, H⟩ := rd_e H
                refine z_iald (M := M_X12_gatherTriangles) dX12_gatherTriangles_245 ly_352 rfl (by decide +kernel) rfl hi_96 x_95_e ?_
                refine z_aload_n (M := M_X12_gatherTriangles) dX12_gatherTriangles_246 rfl ?_
                refine z_getR (M := M_X12_gatherTriangles) (ci := 15) (C := RX12) (T := TX12) (Nf := 135) (ty := tyX12) cl15 dX12_gatherTriangles_247 ly_277 126 (by decide) t_2517 rfl ?_
                refine z_iload (M := M_X12_gatherTriangles) dX12_gatherTriangles_250 rfl ?_
                obtain ⟨x_97, x_97_e, hi_98, H⟩ := rd_e H
                refine z_iald (M := M_X12_gatherTriangles) dX12_gatherTriangles_252 ly_352 rfl rfl rfl hi_98 x_97_e ?_
                refine z_aload_n (M := M_X12_gatherTriangles) dX12_gatherTriangles_253 rfl ?_
                refine z_getR (M := M_X12_gatherTriangles) (ci := 15) (C := RX12) (T := TX12) (Nf := 135) (ty := tyX12) cl15 dX12_gatherTriangles_254 ly_277 126 (by decide) t_2517 rfl ?_
                refine z_iload (M := M_X12_gatherTriangles) dX12_gatherTriangles_257 rfl ?_
                refine z_iconst (M := M_X12_gatherTriangles) dX12_gatherTriangles_259 ?_
                refine z_iadd (M := M_X12_gatherTriangles) dX12_gatherTriangles_260 ?_
                obtain ⟨x_99, x_99_e, hi_100, H⟩ := rd_e H
                refine z_iald (M := M_X12_gatherTriangles) dX12_gatherTriangles_261 ly_352 rfl rfl rfl hi_100 x_99_e ?_
                obtain ⟨σ_102, hc_101, H⟩ := bd_e H
                refine z_callV (M := M_X12_gatherTriangles) (M' := M_X12_addTriangle) (as := [vi x_95, vi x_97, vi x_99]) (rest := []) rfl rfl dX12_gatherTriangles_262 m_X12_addTriangle t_3673 t_3675 s_320 (c_X12_addTriangle hl  hc_101) rfl rfl ly_277 rfl (Nat.le_of_ble_eq_true rfl) (Nat.le_of_ble_eq_true rfl) (Nat.le_of_ble_eq_true rfl) (Nat.le_of_ble_eq_true rfl) ?_
                refine z_st (st' := []) rfl ?_
                refine z_iinc (M := M_X12_gatherTriangles) (lv' := [some (vr 277), some (vi x_21), some (vi x_36), some (vi x_38), some (vi x_46), some (vi (k_85 + 1)), none, none]) dX12_gatherTriangles_265 rfl (Nat.le_of_ble_eq_true rfl) rfl rfl ?_
                refine z_goto (M := M_X12_gatherTriangles) (tgt := 228) dX12_gatherTriangles_268 (by decide) ?_
                exact K_92 _ (Option.some.inj H).symm
              · refine z_icmp_ge_t (M := M_X12_gatherTriangles) (tgt := 271) dX12_gatherTriangles_236 (by decide) rfl rfl (Int.not_lt.mp h_94) ?_
                exact J_108 _ _ (K_93 _ (Option.some.inj H).symm).symm
            refine whl_go hw_53 (fun (k_51, σ_52) => YY l E M_X12_gatherTriangles 7 0 0 (pS (none) σ') 145 [some (vr 277), some (vi x_21), some (vi x_36), some (vi x_38), some (vi x_46), some (vi k_51), none, none] [] σ_52 0 0) ?_
            rintro ⟨k_51, σ_52⟩ o_57 H K_58 K_59
            refine z_iload (M := M_X12_gatherTriangles) dX12_gatherTriangles_145 rfl ?_
            refine z_aload_n (M := M_X12_gatherTriangles) dX12_gatherTriangles_147 rfl ?_
            refine z_getI (M := M_X12_gatherTriangles) (ci := 15) (C := RX12) (T := TX12) (Nf := 135) (ty := tyX12) cl15 dX12_gatherTriangles_148 ly_277 127 (by decide) t_2518 rfl rfl ?_
            rcases if_e H with ⟨h_60, H⟩ | ⟨h_60, H⟩
            · refine z_icmp_ge_f (M := M_X12_gatherTriangles) (tgt := 225) dX12_gatherTriangles_151 (by decide) rfl rfl h_60 ?_
              refine z_aload_n (M := M_X12_gatherTriangles) dX12_gatherTriangles_154 rfl ?_
              refine z_getR (M := M_X12_gatherTriangles) (ci := 15) (C := RX12) (T := TX12) (Nf := 135) (ty := tyX12) cl15 dX12_gatherTriangles_155 ly_277 126 (by decide) t_2517 rfl ?_
              refine z_iload (M := M_X12_gatherTriangles) dX12_gatherTriangles_158 rfl ?_
              obtain ⟨x_61, x_61_e, hi_62, H⟩ := rd_e H
              refine z_iald (M := M_X12_gatherTriangles) dX12_gatherTriangles_160 ly_352 rfl rfl rfl hi_62 x_61_e ?_
              refine z_istore (M := M_X12_gatherTriangles) (lv' := [some (vr 277), some (vi x_21), some (vi x_36), some (vi x_38), some (vi x_46), some (vi k_51), some (vi x_61), none]) dX12_gatherTriangles_161 (Nat.le_of_ble_eq_true rfl) rfl rfl ?_
              refine z_aload_n (M := M_X12_gatherTriangles) dX12_gatherTriangles_163 rfl ?_
              refine z_getR (M := M_X12_gatherTriangles) (ci := 15) (C := RX12) (T := TX12) (Nf := 135) (ty := tyX12) cl15 dX12_gatherTriangles_164 ly_277 126 (by decide) t_2517 rfl ?_
              refine z_iload (M := M_X12_gatherTriangles) dX12_gatherTriangles_167 rfl ?_
              refine z_iconst (M := M_X12_gatherTriangles) dX12_gatherTriangles_169 ?_
              refine z_iadd (M := M_X12_gatherTriangles) dX12_gatherTriangles_170 ?_
              refine z_aload_n (M := M_X12_gatherTriangles) dX12_gatherTriangles_171 rfl ?_
              refine z_getI (M := M_X12_gatherTriangles) (ci := 15) (C := RX12) (T := TX12) (Nf := 135) (ty := tyX12) cl15 dX12_gatherTriangles_172 ly_277 127 (by decide) t_2518 rfl rfl ?_
              obtain ⟨hd_63, H⟩ := ck_e H
              refine z_irem (M := M_X12_gatherTriangles) dX12_gatherTriangles_175 hd_63 ?_
              obtain ⟨x_64, x_64_e, hi_65, H⟩ := rd_e H
              refine z_iald (M := M_X12_gatherTriangles) dX12_gatherTriangles_176 ly_352 rfl rfl rfl hi_65 x_64_e ?_
              refine z_istore (M := M_X12_gatherTriangles) (lv' := [some (vr 277), some (vi x_21), some (vi x_36), some (vi x_38), some (vi x_46), some (vi k_51), some (vi x_61), some (vi x_64)]) dX12_gatherTriangles_177 (Nat.le_of_ble_eq_true rfl) rfl rfl ?_
              refine z_aload_n (M := M_X12_gatherTriangles) dX12_gatherTriangles_179 rfl ?_
              refine z_getR (M := M_X12_gatherTriangles) (ci := 15) (C := RX12) (T := TX12) (Nf := 135) (ty := tyX12) cl15 dX12_gatherTriangles_180 ly_277 122 (by decide) t_2513 rfl ?_
              refine z_sipush (M := M_X12_gatherTriangles) dX12_gatherTriangles_183 (by decide +kernel) ?_
              refine z_iload (M := M_X12_gatherTriangles) dX12_gatherTriangles_186 rfl ?_
              refine z_imul (M := M_X12_gatherTriangles) dX12_gatherTriangles_188 ?_
              refine z_iload (M := M_X12_gatherTriangles) dX12_gatherTriangles_189 rfl ?_
              refine z_iadd (M := M_X12_gatherTriangles) dX12_gatherTriangles_191 ?_
              refine z_zconst (M := M_X12_gatherTriangles) (b := true) dX12_gatherTriangles_192 rfl ?_
              obtain ⟨σ_66, σ_66_e, hi_67, H⟩ := wa_e H
              refine z_zast (M := M_X12_gatherTriangles) dX12_gatherTriangles_193 ly_349 rfl rfl rfl hi_67 σ_66_e ?_
              obtain ⟨v_71, he_68, hk_69⟩ := bd_e H
              have J_81 : ∀ σ_79, v_71 = σ_79 → YY l E M_X12_gatherTriangles 7 0 0 (pS (none) σ') 219 [some (vr 277), some (vi x_21), some (vi x_36), some (vi x_38), some (vi x_46), some (vi k_51), some (vi x_61), some (vi x_64)] [] σ_79 0 0 := by
                intro σ_79 e
                have H := hk_69
                rw [e] at H
                refine z_iinc (M := M_X12_gatherTriangles) (lv' := [some (vr 277), some (vi x_21), some (vi x_36), some (vi x_38), some (vi x_46), some (vi (k_51 + 1)), some (vi x_61), some (vi x_64)]) dX12_gatherTriangles_219 rfl (Nat.le_of_ble_eq_true rfl) rfl rfl ?_
                refine z_goto (M := M_X12_gatherTriangles) (tgt := 145) dX12_gatherTriangles_222 (by decide) ?_
                refine z_le (lv' := [some (vr 277), some (vi x_21), some (vi x_36), some (vi x_38), some (vi x_46), some (vi (k_51 + 1)), none, none]) ⟨Or.inr rfl, Or.inr rfl, Or.inr rfl, Or.inr rfl, Or.inr rfl, Or.inr rfl, Or.inl rfl, Or.inl rfl, trivial⟩ ?_
                exact K_58 _ (Option.some.inj H).symm
              have H := he_68
              refine z_aload_n (M := M_X12_gatherTriangles) dX12_gatherTriangles_194 rfl ?_
              refine z_getR (M := M_X12_gatherTriangles) (ci := 15) (C := RX12) (T := TX12) (Nf := 135) (ty := tyX12) cl15 dX12_gatherTriangles_195 ly_277 122 (by decide) t_2513 rfl ?_
              refine z_sipush (M := M_X12_gatherTriangles) dX12_gatherTriangles_198 (by decide +kernel) ?_
              refine z_iload (M := M_X12_gatherTriangles) dX12_gatherTriangles_201 rfl ?_
              refine z_imul (M := M_X12_gatherTriangles) dX12_gatherTriangles_203 ?_
              refine z_iload (M := M_X12_gatherTriangles) dX12_gatherTriangles_204 rfl ?_
              refine z_iadd (M := M_X12_gatherTriangles) dX12_gatherTriangles_206 ?_
              obtain ⟨x_72, x_72_e, hi_73, H⟩ := rd_e H
              refine z_zald (M := M_X12_gatherTriangles) dX12_gatherTriangles_207 ly_349 rfl rfl rfl hi_73 x_72_e ?_
              rcases if_e H with ⟨h_74, H⟩ | ⟨h_74, H⟩
              · refine z_zne_t (M := M_X12_gatherTriangles) (tgt := 219) dX12_gatherTriangles_208 (by decide) h_74 ?_
                exact J_81 _ (Option.some.inj H).symm
              · refine z_zne_f (M := M_X12_gatherTriangles) (tgt := 219) dX12_gatherTriangles_208 (by decide) h_74 ?_
                refine z_aload_n (M := M_X12_gatherTriangles) dX12_gatherTriangles_211 rfl ?_
                refine z_iload (M := M_X12_gatherTriangles) dX12_gatherTriangles_212 rfl ?_
                refine z_iload (M := M_X12_gatherTriangles) dX12_gatherTriangles_214 rfl ?_
                obtain ⟨σ_77, hc_76, H⟩ := bd_e H
                refine z_callV (M := M_X12_gatherTriangles) (M' := M_X12_waitFor) (as := [vi x_64, vi x_61]) (rest := []) rfl rfl dX12_gatherTriangles_216 m_X12_waitFor t_3657 t_3659 s_316 (c_X12_waitFor hl  hc_76) rfl rfl ly_277 rfl (Nat.le_of_ble_eq_true rfl) (Nat.le_of_ble_eq_true rfl) (Nat.le_of_ble_eq_true rfl) (Nat.le_of_ble_eq_true rfl) ?_
                refine z_st (st' := []) rfl ?_
                exact J_81 _ (Option.some.inj H).symm
            · refine z_icmp_ge_t (M := M_X12_gatherTriangles) (tgt := 225) dX12_gatherTriangles_151 (by decide) rfl rfl (Int.not_lt.mp h_60) ?_
              exact J_109 _ _ (K_59 _ (Option.some.inj H).symm).symm
      · refine z_if_le_t (M := M_X12_gatherTriangles) (tgt := 274) dX12_gatherTriangles_66 (by decide) rfl (Int.not_lt.mp h_34) ?_
        exact J_112 _ (K_33 _ (Option.some.inj H).symm).symm
    refine whl_go hw_6 (fun (k_4, σ_5) => YY l E M_X12_gatherTriangles 7 0 0 (pS (none) σ') 21 [some (vr 277), some (vi k_4), none, none, none, none, none, none] [] σ_5 0 0) ?_
    rintro ⟨k_4, σ_5⟩ o_10 H K_11 K_12
    refine z_iload_n (M := M_X12_gatherTriangles) dX12_gatherTriangles_21 rfl ?_
    refine z_sipush (M := M_X12_gatherTriangles) dX12_gatherTriangles_22 (by decide +kernel) ?_
    refine z_aload_n (M := M_X12_gatherTriangles) dX12_gatherTriangles_25 rfl ?_
    refine z_getI (M := M_X12_gatherTriangles) (ci := 15) (C := RX12) (T := TX12) (Nf := 135) (ty := tyX12) cl15 dX12_gatherTriangles_26 ly_277 119 (by decide) t_2510 rfl rfl ?_
    refine z_imul (M := M_X12_gatherTriangles) dX12_gatherTriangles_29 ?_
    rcases if_e H with ⟨h_13, H⟩ | ⟨h_13, H⟩
    · refine z_icmp_ge_f (M := M_X12_gatherTriangles) (tgt := 46) dX12_gatherTriangles_30 (by decide) rfl rfl h_13 ?_
      refine z_aload_n (M := M_X12_gatherTriangles) dX12_gatherTriangles_33 rfl ?_
      refine z_getR (M := M_X12_gatherTriangles) (ci := 15) (C := RX12) (T := TX12) (Nf := 135) (ty := tyX12) cl15 dX12_gatherTriangles_34 ly_277 122 (by decide) t_2513 rfl ?_
      refine z_iload_n (M := M_X12_gatherTriangles) dX12_gatherTriangles_37 rfl ?_
      refine z_zconst (M := M_X12_gatherTriangles) (b := false) dX12_gatherTriangles_38 rfl ?_
      obtain ⟨σ_14, σ_14_e, hi_15, H⟩ := wa_e H
      refine z_zast (M := M_X12_gatherTriangles) dX12_gatherTriangles_39 ly_349 rfl rfl rfl hi_15 σ_14_e ?_
      refine z_iinc (M := M_X12_gatherTriangles) (lv' := [some (vr 277), some (vi (k_4 + 1)), none, none, none, none, none, none]) dX12_gatherTriangles_40 rfl (Nat.le_of_ble_eq_true rfl) rfl rfl ?_
      refine z_goto (M := M_X12_gatherTriangles) (tgt := 21) dX12_gatherTriangles_43 (by decide) ?_
      exact K_11 _ (Option.some.inj H).symm
    · refine z_icmp_ge_t (M := M_X12_gatherTriangles) (tgt := 46) dX12_gatherTriangles_30 (by decide) rfl rfl (Int.not_lt.mp h_13) ?_
      exact J_113 _ _ (K_12 _ (Option.some.inj H).symm).symm
theorem c_X12_dotSpot (hl : l.stackTraces = false) {σ : SG} {k_0 : Int} {σ' : SG}  (H : fR_dotSpot σ k_0 = some σ') : en_S l E M_X12_dotSpot 2 0 0 [vr 277, vi k_0] σ (pS (none) σ') := by
  unfold fR_dotSpot at H
  refine z_mk (lv := [some (vr 277), some (vi k_0)]) m_X12_dotSpot rfl hl (Nat.le_of_ble_eq_true rfl) rfl ?_
  refine z_aload_n (M := M_X12_dotSpot) dX12_dotSpot_0 rfl ?_
  refine z_aload_n (M := M_X12_dotSpot) dX12_dotSpot_1 rfl ?_
  refine z_getR (M := M_X12_dotSpot) (ci := 15) (C := RX12) (T := TX12) (Nf := 135) (ty := tyX12) cl15 dX12_dotSpot_2 ly_277 117 (by decide) t_2508 rfl ?_
  refine z_iload_n (M := M_X12_dotSpot) dX12_dotSpot_5 rfl ?_
  obtain ⟨x_1, x_1_e, hi_2, H⟩ := rd_e H
  refine z_lald (M := M_X12_dotSpot) dX12_dotSpot_6 ly_346 rfl rfl rfl hi_2 x_1_e ?_
  refine z_aload_n (M := M_X12_dotSpot) dX12_dotSpot_7 rfl ?_
  refine z_getR (M := M_X12_dotSpot) (ci := 15) (C := RX12) (T := TX12) (Nf := 135) (ty := tyX12) cl15 dX12_dotSpot_8 ly_277 118 (by decide) t_2509 rfl ?_
  refine z_iload_n (M := M_X12_dotSpot) dX12_dotSpot_11 rfl ?_
  obtain ⟨x_3, x_3_e, hi_4, H⟩ := rd_e H
  refine z_lald (M := M_X12_dotSpot) dX12_dotSpot_12 ly_347 rfl rfl rfl hi_4 x_3_e ?_
  obtain ⟨σ_6, hc_5, H⟩ := bd_e H
  refine z_callV (M := M_X12_dotSpot) (M' := M_X12_dot) (as := [vl x_1, vl x_3]) (rest := []) rfl rfl dX12_dotSpot_13 m_X12_dot t_2938 t_2940 s_178 (c_X12_dot hl  hc_5) rfl rfl ly_277 rfl (Nat.le_of_ble_eq_true rfl) (Nat.le_of_ble_eq_true rfl) (Nat.le_of_ble_eq_true rfl) (Nat.le_of_ble_eq_true rfl) ?_
  refine z_st (st' := []) rfl ?_
  cases H
  exact z_vret (M := M_X12_dotSpot) dX12_dotSpot_16 rfl (Nat.le_of_ble_eq_true rfl) (Nat.le_of_ble_eq_true rfl) ⟨rfl, rfl⟩
theorem c_X12_triangles (hl : l.stackTraces = false) {σ : SG} {slot_0 : Int} {to_0 : Int} {r : Int} {σ' : SG}  (H : fR_triangles σ slot_0 to_0 = some (r, σ')) : en_S l E M_X12_triangles 8 0 0 [vr 277, vi slot_0, vi to_0] σ (pS (some (vi r)) σ') := by
  unfold fR_triangles at H
  refine z_mk (lv := [some (vr 277), some (vi slot_0), some (vi to_0), none]) m_X12_triangles rfl hl (Nat.le_of_ble_eq_true rfl) rfl ?_
  refine z_aload_n (M := M_X12_triangles) dX12_triangles_0 rfl ?_
  refine z_iconst (M := M_X12_triangles) dX12_triangles_1 ?_
  obtain ⟨σ_1, σ_1_e, H⟩ := wf_e H
  refine z_putI (M := M_X12_triangles) (ci := 15) (C := RX12) (T := TX12) (Nf := 135) (ty := tyX12) cl15 dX12_triangles_2 ly_277 0 (by decide) t_2391 rfl rfl rfl rfl σ_1_e ?_
  refine z_aload_n (M := M_X12_triangles) dX12_triangles_5 rfl ?_
  have J_43 : YY l E M_X12_triangles 8 0 0 (pS (some (vi r)) σ') 25 [some (vr 277), some (vi slot_0), some (vi to_0), none] [zv (decide ((¬ ((fR_isSlot slot_0) = true)) ∨ (¬ ((fR_isSlot to_0) = true)))), vr 277] σ_1 0 0 := by
    refine z_iconst (M := M_X12_triangles) dX12_triangles_25 ?_
    obtain ⟨⟨x_46, σ_45⟩, hc_44, H⟩ := bd_e H
    refine z_callV (M := M_X12_triangles) (M' := M_X12_fails) (as := [zv (decide ((¬ ((fR_isSlot slot_0) = true)) ∨ (¬ ((fR_isSlot to_0) = true)))), vi 1]) (rest := []) rfl rfl dX12_triangles_26 m_X12_fails t_2805 t_2807 s_157 (c_X12_fails hl  hc_44) rfl rfl ly_277 rfl (Nat.le_of_ble_eq_true rfl) (Nat.le_of_ble_eq_true rfl) (Nat.le_of_ble_eq_true rfl) (Nat.le_of_ble_eq_true rfl) ?_
    refine z_st (st' := [zv x_46]) rfl ?_
    rcases if_e H with ⟨h_47, H⟩ | ⟨h_47, H⟩
    · refine z_zne_t (M := M_X12_triangles) (tgt := 74) dX12_triangles_29 (by decide) h_47 ?_
      refine z_iconst (M := M_X12_triangles) dX12_triangles_74 ?_
      cases H
      exact z_iret (M := M_X12_triangles) dX12_triangles_75 rfl (Nat.le_of_ble_eq_true rfl) (Nat.le_of_ble_eq_true rfl) ⟨rfl, rfl⟩
    · refine z_zne_f (M := M_X12_triangles) (tgt := 74) dX12_triangles_29 (by decide) h_47 ?_
      refine z_aload_n (M := M_X12_triangles) dX12_triangles_32 rfl ?_
      obtain ⟨v_127, he_128, hk_129⟩ := bd_e H
      have J_130 : ∀ x_53, v_127 = x_53 → YY l E M_X12_triangles 8 0 0 (pS (some (vi r)) σ') 46 [some (vr 277), some (vi slot_0), some (vi to_0), none] [zv x_53, vr 277] σ_45 0 0 := by
        intro x_53 e
        have H := hk_129
        rw [e] at H
        refine z_iconst (M := M_X12_triangles) dX12_triangles_46 ?_
        obtain ⟨⟨x_56, σ_55⟩, hc_54, H⟩ := bd_e H
        refine z_callV (M := M_X12_triangles) (M' := M_X12_fails) (as := [zv x_53, vi 2]) (rest := []) rfl rfl dX12_triangles_47 m_X12_fails t_2805 t_2807 s_157 (c_X12_fails hl  hc_54) rfl rfl ly_277 rfl (Nat.le_of_ble_eq_true rfl) (Nat.le_of_ble_eq_true rfl) (Nat.le_of_ble_eq_true rfl) (Nat.le_of_ble_eq_true rfl) ?_
        refine z_st (st' := [zv x_56]) rfl ?_
        rcases if_e H with ⟨h_57, H⟩ | ⟨h_57, H⟩
        · refine z_zne_t (M := M_X12_triangles) (tgt := 74) dX12_triangles_50 (by decide) h_57 ?_
          refine z_iconst (M := M_X12_triangles) dX12_triangles_74 ?_
          cases H
          exact z_iret (M := M_X12_triangles) dX12_triangles_75 rfl (Nat.le_of_ble_eq_true rfl) (Nat.le_of_ble_eq_true rfl) ⟨rfl, rfl⟩
        · refine z_zne_f (M := M_X12_triangles) (tgt := 74) dX12_triangles_50 (by decide) h_57 ?_
          refine z_aload_n (M := M_X12_triangles) dX12_triangles_53 rfl ?_
          obtain ⟨v_123, he_124, hk_125⟩ := bd_e H
          have J_126 : ∀ x_64 σ_65, v_123 = (x_64, σ_65) → YY l E M_X12_triangles 8 0 0 (pS (some (vi r)) σ') 67 [some (vr 277), some (vi slot_0), some (vi to_0), none] [zv x_64, vr 277] σ_65 0 0 := by
            intro x_64 σ_65 e
            have H := hk_125
            rw [e] at H
            refine z_iconst (M := M_X12_triangles) dX12_triangles_67 ?_
            obtain ⟨⟨x_68, σ_67⟩, hc_66, H⟩ := bd_e H
            refine z_callV (M := M_X12_triangles) (M' := M_X12_fails) (as := [zv x_64, vi 3]) (rest := []) rfl rfl dX12_triangles_68 m_X12_fails t_2805 t_2807 s_157 (c_X12_fails hl  hc_66) rfl rfl ly_277 rfl (Nat.le_of_ble_eq_true rfl) (Nat.le_of_ble_eq_true rfl) (Nat.le_of_ble_eq_true rfl) (Nat.le_of_ble_eq_true rfl) ?_
            refine z_st (st' := [zv x_68]) rfl ?_
            rcases if_e H with ⟨h_69, H⟩ | ⟨h_69, H⟩
            · refine z_zeq_f (M := M_X12_triangles) (tgt := 76) dX12_triangles_71 (by decide) h_69 ?_
              refine z_iconst (M := M_X12_triangles) dX12_triangles_74 ?_
              cases H
              exact z_iret (M := M_X12_triangles) dX12_triangles_75 rfl (Nat.le_of_ble_eq_true rfl) (Nat.le_of_ble_eq_true rfl) ⟨rfl, rfl⟩
            · refine z_zeq_t (M := M_X12_triangles) (tgt := 76) dX12_triangles_71 (by decide) h_69 ?_
              refine z_aload_n (M := M_X12_triangles) dX12_triangles_76 rfl ?_
              obtain ⟨σ_71, hc_70, H⟩ := bd_e H
              refine z_callV (M := M_X12_triangles) (M' := M_X12_gatherTriangles) (as := []) (rest := []) rfl rfl dX12_triangles_77 m_X12_gatherTriangles t_3653 t_3655 s_315 (c_X12_gatherTriangles hl  hc_70) rfl rfl ly_277 rfl (Nat.le_of_ble_eq_true rfl) (Nat.le_of_ble_eq_true rfl) (Nat.le_of_ble_eq_true rfl) (Nat.le_of_ble_eq_true rfl) ?_
              refine z_st (st' := []) rfl ?_
              refine z_aload_n (M := M_X12_triangles) dX12_triangles_80 rfl ?_
              have J_72 : YY l E M_X12_triangles 8 0 0 (pS (some (vi r)) σ') 96 [some (vr 277), some (vi slot_0), some (vi to_0), none] [zv (decide (512 < (w32 (σ_71 kR_triangleMany 0)))), vr 277] σ_71 0 0 := by
                refine z_iconst (M := M_X12_triangles) dX12_triangles_96 ?_
                obtain ⟨⟨x_75, σ_74⟩, hc_73, H⟩ := bd_e H
                refine z_callV (M := M_X12_triangles) (M' := M_X12_fails) (as := [zv (decide (512 < (w32 (σ_71 kR_triangleMany 0)))), vi 3]) (rest := []) rfl rfl dX12_triangles_97 m_X12_fails t_2805 t_2807 s_157 (c_X12_fails hl  hc_73) rfl rfl ly_277 rfl (Nat.le_of_ble_eq_true rfl) (Nat.le_of_ble_eq_true rfl) (Nat.le_of_ble_eq_true rfl) (Nat.le_of_ble_eq_true rfl) ?_
                refine z_st (st' := [zv x_75]) rfl ?_
                rcases if_e H with ⟨h_76, H⟩ | ⟨h_76, H⟩
                · refine z_zeq_f (M := M_X12_triangles) (tgt := 105) dX12_triangles_100 (by decide) h_76 ?_
                  refine z_iconst (M := M_X12_triangles) dX12_triangles_103 ?_
                  cases H
                  exact z_iret (M := M_X12_triangles) dX12_triangles_104 rfl (Nat.le_of_ble_eq_true rfl) (Nat.le_of_ble_eq_true rfl) ⟨rfl, rfl⟩
                · refine z_zeq_t (M := M_X12_triangles) (tgt := 105) dX12_triangles_100 (by decide) h_76 ?_
                  refine z_aload_n (M := M_X12_triangles) dX12_triangles_105 rfl ?_
                  refine z_bipush (M := M_X12_triangles) dX12_triangles_106 (by decide +kernel) ?_
                  obtain ⟨σ_78, hc_77, H⟩ := bd_e H
                  refine z_callV (M := M_X12_triangles) (M' := M_X12_clear) (as := [vi 32]) (rest := []) rfl rfl dX12_triangles_108 m_X12_clear t_2848 t_2850 s_161 (c_X12_clear hl  hc_77) rfl rfl ly_277 rfl (Nat.le_of_ble_eq_true rfl) (Nat.le_of_ble_eq_true rfl) (Nat.le_of_ble_eq_true rfl) (Nat.le_of_ble_eq_true rfl) ?_
                  refine z_st (st' := []) rfl ?_
                  refine z_aload_n (M := M_X12_triangles) dX12_triangles_111 rfl ?_
                  refine z_bipush (M := M_X12_triangles) dX12_triangles_112 (by decide +kernel) ?_
                  obtain ⟨σ_80, hc_79, H⟩ := bd_e H
                  refine z_callV (M := M_X12_triangles) (M' := M_X12_tell) (as := [vi 6]) (rest := []) rfl rfl dX12_triangles_114 m_X12_tell t_2902 t_2904 s_170 (c_X12_tell hl  hc_79) rfl rfl ly_277 rfl (Nat.le_of_ble_eq_true rfl) (Nat.le_of_ble_eq_true rfl) (Nat.le_of_ble_eq_true rfl) (Nat.le_of_ble_eq_true rfl) ?_
                  refine z_st (st' := []) rfl ?_
                  refine z_aload_n (M := M_X12_triangles) dX12_triangles_117 rfl ?_
                  refine z_aload_n (M := M_X12_triangles) dX12_triangles_118 rfl ?_
                  refine z_getI (M := M_X12_triangles) (ci := 15) (C := RX12) (T := TX12) (Nf := 135) (ty := tyX12) cl15 dX12_triangles_119 ly_277 131 (by decide) t_2522 rfl rfl ?_
                  obtain ⟨σ_82, hc_81, H⟩ := bd_e H
                  refine z_callV (M := M_X12_triangles) (M' := M_X12_tell) (as := [vi (σ_80 kR_triangleMany 0)]) (rest := []) rfl rfl dX12_triangles_122 m_X12_tell t_2902 t_2904 s_170 (c_X12_tell hl  hc_81) rfl rfl ly_277 rfl (Nat.le_of_ble_eq_true rfl) (Nat.le_of_ble_eq_true rfl) (Nat.le_of_ble_eq_true rfl) (Nat.le_of_ble_eq_true rfl) ?_
                  refine z_st (st' := []) rfl ?_
                  refine z_iconst (M := M_X12_triangles) dX12_triangles_125 ?_
                  refine z_istore_n (M := M_X12_triangles) (lv' := [some (vr 277), some (vi slot_0), some (vi to_0), some (vi 0)]) dX12_triangles_126 (Nat.le_of_ble_eq_true rfl) rfl rfl ?_
                  obtain ⟨rl_88, hw_85, hk_86⟩ := bd_e H
                  have J_121 : ∀ k_117 σ_118, rl_88 = (k_117, σ_118) → YY l E M_X12_triangles 8 0 0 (pS (some (vi r)) σ') 196 [some (vr 277), some (vi slot_0), some (vi to_0), some (vi k_117)] [] σ_118 0 0 := by
                    intro k_117 σ_118 e
                    have H := hk_86
                    rw [e] at H
                    refine z_aload_n (M := M_X12_triangles) dX12_triangles_196 rfl ?_
                    refine z_bipush (M := M_X12_triangles) dX12_triangles_197 (by decide +kernel) ?_
                    refine z_iload_n (M := M_X12_triangles) dX12_triangles_199 rfl ?_
                    obtain ⟨σ_120, hc_119, H⟩ := bd_e H
                    refine z_callV (M := M_X12_triangles) (M' := M_X12_move) (as := [vi 32, vi to_0]) (rest := []) rfl rfl dX12_triangles_200 m_X12_move t_3021 t_3023 s_196 (c_X12_move hl  hc_119) rfl rfl ly_277 rfl (Nat.le_of_ble_eq_true rfl) (Nat.le_of_ble_eq_true rfl) (Nat.le_of_ble_eq_true rfl) (Nat.le_of_ble_eq_true rfl) ?_
                    refine z_st (st' := []) rfl ?_
                    refine z_aload_n (M := M_X12_triangles) dX12_triangles_203 rfl ?_
                    refine z_getI (M := M_X12_triangles) (ci := 15) (C := RX12) (T := TX12) (Nf := 135) (ty := tyX12) cl15 dX12_triangles_204 ly_277 131 (by decide) t_2522 rfl rfl ?_
                    cases H
                    exact z_iret (M := M_X12_triangles) dX12_triangles_207 rfl (Nat.le_of_ble_eq_true rfl) (Nat.le_of_ble_eq_true rfl) ⟨rfl, rfl⟩
                  refine whl_go hw_85 (fun (k_83, σ_84) => YY l E M_X12_triangles 8 0 0 (pS (some (vi r)) σ') 127 [some (vr 277), some (vi slot_0), some (vi to_0), some (vi k_83)] [] σ_84 0 0) ?_
                  rintro ⟨k_83, σ_84⟩ o_89 H K_90 K_91
                  refine z_iload_n (M := M_X12_triangles) dX12_triangles_127 rfl ?_
                  refine z_aload_n (M := M_X12_triangles) dX12_triangles_128 rfl ?_
                  refine z_getI (M := M_X12_triangles) (ci := 15) (C := RX12) (T := TX12) (Nf := 135) (ty := tyX12) cl15 dX12_triangles_129 ly_277 131 (by decide) t_2522 rfl rfl ?_
                  rcases if_e H with ⟨h_92, H⟩ | ⟨h_92, H⟩
                  · refine z_icmp_ge_f (M := M_X12_triangles) (tgt := 196) dX12_triangles_132 (by decide) rfl rfl h_92 ?_
                    refine z_aload_n (M := M_X12_triangles) dX12_triangles_135 rfl ?_
                    refine z_iconst (M := M_X12_triangles) dX12_triangles_136 ?_
                    obtain ⟨σ_94, hc_93, H⟩ := bd_e H
                    refine z_callV (M := M_X12_triangles) (M' := M_X12_tell) (as := [vi 3]) (rest := []) rfl rfl dX12_triangles_137 m_X12_tell t_2902 t_2904 s_170 (c_X12_tell hl  hc_93) rfl rfl ly_277 rfl (Nat.le_of_ble_eq_true rfl) (Nat.le_of_ble_eq_true rfl) (Nat.le_of_ble_eq_true rfl) (Nat.le_of_ble_eq_true rfl) ?_
                    refine z_st (st' := []) rfl ?_
                    refine z_aload_n (M := M_X12_triangles) dX12_triangles_140 rfl ?_
                    refine z_iconst (M := M_X12_triangles) dX12_triangles_141 ?_
                    obtain ⟨σ_96, hc_95, H⟩ := bd_e H
                    refine z_callV (M := M_X12_triangles) (M' := M_X12_tell) (as := [vi 1]) (rest := []) rfl rfl dX12_triangles_142 m_X12_tell t_2902 t_2904 s_170 (c_X12_tell hl  hc_95) rfl rfl ly_277 rfl (Nat.le_of_ble_eq_true rfl) (Nat.le_of_ble_eq_true rfl) (Nat.le_of_ble_eq_true rfl) (Nat.le_of_ble_eq_true rfl) ?_
                    refine z_st (st' := []) rfl ?_
                    refine z_aload_n (M := M_X12_triangles) dX12_triangles_145 rfl ?_
                    refine z_iconst (M := M_X12_triangles) dX12_triangles_146 ?_
                    obtain ⟨σ_98, hc_97, H⟩ := bd_e H
                    refine z_callV (M := M_X12_triangles) (M' := M_X12_tell) (as := [vi 4]) (rest := []) rfl rfl dX12_triangles_147 m_X12_tell t_2902 t_2904 s_170 (c_X12_tell hl  hc_97) rfl rfl ly_277 rfl (Nat.le_of_ble_eq_true rfl) (Nat.le_of_ble_eq_true rfl) (Nat.le_of_ble_eq_true rfl) (Nat.le_of_ble_eq_true rfl) ?_
                    refine z_st (st' := []) rfl ?_
                    refine z_aload_n (M := M_X12_triangles) dX12_triangles_150 rfl ?_
                    refine z_aload_n (M := M_X12_triangles) dX12_triangles_151 rfl ?_
                    refine z_getR (M := M_X12_triangles) (ci := 15) (C := RX12) (T := TX12) (Nf := 135) (ty := tyX12) cl15 dX12_triangles_152 ly_277 128 (by decide) t_2519 rfl ?_
                    refine z_iload_n (M := M_X12_triangles) dX12_triangles_155 rfl ?_
                    obtain ⟨x_99, x_99_e, hi_100, H⟩ := rd_e H
                    refine z_iald (M := M_X12_triangles) dX12_triangles_156 ly_353 rfl rfl rfl hi_100 x_99_e ?_
                    obtain ⟨σ_102, hc_101, H⟩ := bd_e H
                    refine z_callV (M := M_X12_triangles) (M' := M_X12_dotSpot) (as := [vi x_99]) (rest := []) rfl rfl dX12_triangles_157 m_X12_dotSpot t_3681 t_3683 s_322 (c_X12_dotSpot hl  hc_101) rfl rfl ly_277 rfl (Nat.le_of_ble_eq_true rfl) (Nat.le_of_ble_eq_true rfl) (Nat.le_of_ble_eq_true rfl) (Nat.le_of_ble_eq_true rfl) ?_
                    refine z_st (st' := []) rfl ?_
                    refine z_aload_n (M := M_X12_triangles) dX12_triangles_160 rfl ?_
                    refine z_aload_n (M := M_X12_triangles) dX12_triangles_161 rfl ?_
                    refine z_getR (M := M_X12_triangles) (ci := 15) (C := RX12) (T := TX12) (Nf := 135) (ty := tyX12) cl15 dX12_triangles_162 ly_277 129 (by decide) t_2520 rfl ?_
                    refine z_iload_n (M := M_X12_triangles) dX12_triangles_165 rfl ?_
                    obtain ⟨x_103, x_103_e, hi_104, H⟩ := rd_e H
                    refine z_iald (M := M_X12_triangles) dX12_triangles_166 ly_354 rfl rfl rfl hi_104 x_103_e ?_
                    obtain ⟨σ_106, hc_105, H⟩ := bd_e H
                    refine z_callV (M := M_X12_triangles) (M' := M_X12_dotSpot) (as := [vi x_103]) (rest := []) rfl rfl dX12_triangles_167 m_X12_dotSpot t_3681 t_3683 s_322 (c_X12_dotSpot hl  hc_105) rfl rfl ly_277 rfl (Nat.le_of_ble_eq_true rfl) (Nat.le_of_ble_eq_true rfl) (Nat.le_of_ble_eq_true rfl) (Nat.le_of_ble_eq_true rfl) ?_
                    refine z_st (st' := []) rfl ?_
                    refine z_aload_n (M := M_X12_triangles) dX12_triangles_170 rfl ?_
                    refine z_aload_n (M := M_X12_triangles) dX12_triangles_171 rfl ?_
                    refine z_getR (M := M_X12_triangles) (ci := 15) (C := RX12) (T := TX12) (Nf := 135) (ty := tyX12) cl15 dX12_triangles_172 ly_277 130 (by decide) t_2521 rfl ?_
                    refine z_iload_n (M := M_X12_triangles) dX12_triangles_175 rfl ?_
                    obtain ⟨x_107, x_107_e, hi_108, H⟩ := rd_e H
                    refine z_iald (M := M_X12_triangles) dX12_triangles_176 ly_355 rfl rfl rfl hi_108 x_107_e ?_
                    obtain ⟨σ_110, hc_109, H⟩ := bd_e H
                    refine z_callV (M := M_X12_triangles) (M' := M_X12_dotSpot) (as := [vi x_107]) (rest := []) rfl rfl dX12_triangles_177 m_X12_dotSpot t_3681 t_3683 s_322 (c_X12_dotSpot hl  hc_109) rfl rfl ly_277 rfl (Nat.le_of_ble_eq_true rfl) (Nat.le_of_ble_eq_true rfl) (Nat.le_of_ble_eq_true rfl) (Nat.le_of_ble_eq_true rfl) ?_
                    refine z_st (st' := []) rfl ?_
                    refine z_aload_n (M := M_X12_triangles) dX12_triangles_180 rfl ?_
                    refine z_aload_n (M := M_X12_triangles) dX12_triangles_181 rfl ?_
                    refine z_getR (M := M_X12_triangles) (ci := 15) (C := RX12) (T := TX12) (Nf := 135) (ty := tyX12) cl15 dX12_triangles_182 ly_277 128 (by decide) t_2519 rfl ?_
                    refine z_iload_n (M := M_X12_triangles) dX12_triangles_185 rfl ?_
                    obtain ⟨x_111, x_111_e, hi_112, H⟩ := rd_e H
                    refine z_iald (M := M_X12_triangles) dX12_triangles_186 ly_353 rfl rfl rfl hi_112 x_111_e ?_
                    obtain ⟨σ_114, hc_113, H⟩ := bd_e H
                    refine z_callV (M := M_X12_triangles) (M' := M_X12_dotSpot) (as := [vi x_111]) (rest := []) rfl rfl dX12_triangles_187 m_X12_dotSpot t_3681 t_3683 s_322 (c_X12_dotSpot hl  hc_113) rfl rfl ly_277 rfl (Nat.le_of_ble_eq_true rfl) (Nat.le_of_ble_eq_true rfl) (Nat.le_of_ble_eq_true rfl) (Nat.le_of_ble_eq_true rfl) ?_
                    refine z_st (st' := []) rfl ?_
                    refine z_iinc (M := M_X12_triangles) (lv' := [some (vr 277), some (vi slot_0), some (vi to_0), some (vi (k_83 + 1))]) dX12_triangles_190 rfl (Nat.le_of_ble_eq_true rfl) rfl rfl ?_
                    refine z_goto (M := M_X12_triangles) (tgt := 127) dX12_triangles_193 (by decide) ?_
                    exact K_90 _ (Option.some.inj H).symm
                  · refine z_icmp_ge_t (M := M_X12_triangles) (tgt := 196) dX12_triangles_132 (by decide) rfl rfl (Int.not_lt.mp h_92) ?_
                    exact J_121 _ _ (K_91 _ (Option.some.inj H).symm).symm
              refine z_aload_n (M := M_X12_triangles) dX12_triangles_81 rfl ?_
              refine z_getI (M := M_X12_triangles) (ci := 15) (C := RX12) (T := TX12) (Nf := 135) (ty := tyX12) cl15 dX12_triangles_82 ly_277 131 (by decide) t_2522 rfl rfl ?_
              refine z_sipush (M := M_X12_triangles) dX12_triangles_85 (by decide +kernel) ?_
              by_cases h_122 : 512 < (w32 (σ_71 kR_triangleMany 0))
              · refine z_icmp_le_f (M := M_X12_triangles) (tgt := 95) dX12_triangles_88 (by decide) rfl (by decide +kernel) h_122 ?_
                refine z_iconst (M := M_X12_triangles) dX12_triangles_91 ?_
                refine z_goto (M := M_X12_triangles) (tgt := 96) dX12_triangles_92 (by decide) ?_
                exact z_st (by rw [zv_t (p := 512 < (w32 (σ_71 kR_triangleMany 0))) h_122]) J_72
              · refine z_icmp_le_t (M := M_X12_triangles) (tgt := 95) dX12_triangles_88 (by decide) rfl (by decide +kernel) (Int.not_lt.mp h_122) ?_
                refine z_iconst (M := M_X12_triangles) dX12_triangles_95 ?_
                exact z_st (by rw [zv_f (p := 512 < (w32 (σ_71 kR_triangleMany 0))) h_122]) J_72
          have H := he_124
          refine z_aload_n (M := M_X12_triangles) dX12_triangles_54 rfl ?_
          refine z_iload_n (M := M_X12_triangles) dX12_triangles_55 rfl ?_
          obtain ⟨⟨x_60, σ_59⟩, hc_58, H⟩ := bd_e H
          refine z_callV (M := M_X12_triangles) (M' := M_X12_gatherSpots) (as := [vi slot_0]) (rest := [vr 277]) rfl rfl dX12_triangles_56 m_X12_gatherSpots t_3621 t_3623 s_308 (c_X12_gatherSpots hl  hc_58) rfl rfl ly_277 rfl (Nat.le_of_ble_eq_true rfl) (Nat.le_of_ble_eq_true rfl) (Nat.le_of_ble_eq_true rfl) (Nat.le_of_ble_eq_true rfl) ?_
          refine z_st (st' := [zv x_60, vr 277]) rfl ?_
          rcases if_e H with ⟨h_61, H⟩ | ⟨h_61, H⟩
          · refine z_zne_t (M := M_X12_triangles) (tgt := 66) dX12_triangles_59 (by decide) h_61 ?_
            refine z_zconst (M := M_X12_triangles) (b := false) dX12_triangles_66 rfl ?_
            exact J_126 _ _ (Option.some.inj H).symm
          · refine z_zne_f (M := M_X12_triangles) (tgt := 66) dX12_triangles_59 (by decide) h_61 ?_
            refine z_zconst (M := M_X12_triangles) (b := true) dX12_triangles_62 rfl ?_
            refine z_goto (M := M_X12_triangles) (tgt := 67) dX12_triangles_63 (by decide) ?_
            exact J_126 _ _ (Option.some.inj H).symm
      have H := he_128
      refine z_aload_n (M := M_X12_triangles) dX12_triangles_33 rfl ?_
      refine z_iload_n (M := M_X12_triangles) dX12_triangles_34 rfl ?_
      obtain ⟨x_49, hc_48, H⟩ := bd_e H
      refine z_callV (M := M_X12_triangles) (M' := M_X12_has) (as := [vi slot_0]) (rest := [vr 277]) rfl rfl dX12_triangles_35 m_X12_has t_3033 t_3035 s_197 (c_X12_has hl  hc_48) rfl rfl ly_277 rfl (Nat.le_of_ble_eq_true rfl) (Nat.le_of_ble_eq_true rfl) (Nat.le_of_ble_eq_true rfl) (Nat.le_of_ble_eq_true rfl) ?_
      refine z_st (st' := [zv x_49, vr 277]) rfl ?_
      rcases if_e H with ⟨h_50, H⟩ | ⟨h_50, H⟩
      · refine z_zne_t (M := M_X12_triangles) (tgt := 45) dX12_triangles_38 (by decide) h_50 ?_
        refine z_zconst (M := M_X12_triangles) (b := false) dX12_triangles_45 rfl ?_
        exact J_130 _ (Option.some.inj H).symm
      · refine z_zne_f (M := M_X12_triangles) (tgt := 45) dX12_triangles_38 (by decide) h_50 ?_
        refine z_zconst (M := M_X12_triangles) (b := true) dX12_triangles_41 rfl ?_
        refine z_goto (M := M_X12_triangles) (tgt := 46) dX12_triangles_42 (by decide) ?_
        exact J_130 _ (Option.some.inj H).symm
  refine z_iload_n (M := M_X12_triangles) dX12_triangles_6 rfl ?_
  refine z_callS (M := M_X12_triangles) (M' := M_X12_isSlot) (as := [vi slot_0]) (rest := [vr 277]) rfl rfl dX12_triangles_7 m_X12_isSlot t_2841 t_2842 (c_X12_isSlot hl  rfl) rfl rfl (Nat.le_of_ble_eq_true rfl) (Nat.le_of_ble_eq_true rfl) (Nat.le_of_ble_eq_true rfl) (Nat.le_of_ble_eq_true rfl) ?_
  refine z_st (st' := [zv (fR_isSlot slot_0), vr 277]) rfl ?_
  by_cases h_131 : (fR_isSlot slot_0) = true
  · refine z_zeq_f (M := M_X12_triangles) (tgt := 20) dX12_triangles_10 (by decide) h_131 ?_
    refine z_iload_n (M := M_X12_triangles) dX12_triangles_13 rfl ?_
    refine z_callS (M := M_X12_triangles) (M' := M_X12_isSlot) (as := [vi to_0]) (rest := [vr 277]) rfl rfl dX12_triangles_14 m_X12_isSlot t_2841 t_2842 (c_X12_isSlot hl  rfl) rfl rfl (Nat.le_of_ble_eq_true rfl) (Nat.le_of_ble_eq_true rfl) (Nat.le_of_ble_eq_true rfl) (Nat.le_of_ble_eq_true rfl) ?_
    refine z_st (st' := [zv (fR_isSlot to_0), vr 277]) rfl ?_
    by_cases h_132 : (fR_isSlot to_0) = true
    · refine z_zne_t (M := M_X12_triangles) (tgt := 24) dX12_triangles_17 (by decide) h_132 ?_
      refine z_iconst (M := M_X12_triangles) dX12_triangles_24 ?_
      exact z_st (by rw [zv_f (p := (¬ ((fR_isSlot slot_0) = true)) ∨ (¬ ((fR_isSlot to_0) = true))) (fun q => q.elim (not_not_intro h_131) (not_not_intro h_132))]) J_43
    · refine z_zne_f (M := M_X12_triangles) (tgt := 24) dX12_triangles_17 (by decide) h_132 ?_
      refine z_iconst (M := M_X12_triangles) dX12_triangles_20 ?_
      refine z_goto (M := M_X12_triangles) (tgt := 25) dX12_triangles_21 (by decide) ?_
      exact z_st (by rw [zv_t (p := (¬ ((fR_isSlot slot_0) = true)) ∨ (¬ ((fR_isSlot to_0) = true))) (Or.inr h_132)]) J_43
  · refine z_zeq_t (M := M_X12_triangles) (tgt := 20) dX12_triangles_10 (by decide) h_131 ?_
    refine z_iconst (M := M_X12_triangles) dX12_triangles_20 ?_
    refine z_goto (M := M_X12_triangles) (tgt := 25) dX12_triangles_21 (by decide) ?_
    exact z_st (by rw [zv_t (p := (¬ ((fR_isSlot slot_0) = true)) ∨ (¬ ((fR_isSlot to_0) = true))) (Or.inl h_131)]) J_43
theorem c_X12_distance (hl : l.stackTraces = false) {σ : SG} {to_0 : Int} {p_0 : Int} {a_0 : Int} {b_0 : Int} {σ' : SG}  (H : fR_distance σ to_0 p_0 a_0 b_0 = some σ') : en_S l E M_X12_distance 3 0 0 [vr 277, vi to_0, vi p_0, vi a_0, vi b_0] σ (pS (none) σ') := by
  unfold fR_distance at H
  refine z_mk (lv := [some (vr 277), some (vi to_0), some (vi p_0), some (vi a_0), some (vi b_0), none, none, none, none, none, none, none, none, none, none, none, none, none, none, none, none, none]) m_X12_distance rfl hl (Nat.le_of_ble_eq_true rfl) rfl ?_
  refine z_aload_n (M := M_X12_distance) dX12_distance_0 rfl ?_
  refine z_getR (M := M_X12_distance) (ci := 15) (C := RX12) (T := TX12) (Nf := 135) (ty := tyX12) cl15 dX12_distance_1 ly_277 12 (by decide) t_2403 rfl ?_
  refine z_iload (M := M_X12_distance) dX12_distance_4 rfl ?_
  obtain ⟨x_1, x_1_e, hi_2, H⟩ := rd_e H
  refine z_iald (M := M_X12_distance) dX12_distance_6 ly_283 rfl rfl rfl hi_2 x_1_e ?_
  refine z_i2l (M := M_X12_distance) dX12_distance_7 ?_
  refine z_aload_n (M := M_X12_distance) dX12_distance_8 rfl ?_
  refine z_getR (M := M_X12_distance) (ci := 15) (C := RX12) (T := TX12) (Nf := 135) (ty := tyX12) cl15 dX12_distance_9 ly_277 12 (by decide) t_2403 rfl ?_
  refine z_iload_n (M := M_X12_distance) dX12_distance_12 rfl ?_
  obtain ⟨x_3, x_3_e, hi_4, H⟩ := rd_e H
  refine z_iald (M := M_X12_distance) dX12_distance_13 ly_283 rfl rfl rfl hi_4 x_3_e ?_
  refine z_i2l (M := M_X12_distance) dX12_distance_14 ?_
  refine z_lsub (M := M_X12_distance) dX12_distance_15 ?_
  refine z_lstore (M := M_X12_distance) (lv' := [some (vr 277), some (vi to_0), some (vi p_0), some (vi a_0), some (vi b_0), some (vl ((w32 x_1) - (w32 x_3))), none, none, none, none, none, none, none, none, none, none, none, none, none, none, none, none]) dX12_distance_16 (Nat.le_of_ble_eq_true rfl) rfl rfl ?_
  refine z_aload_n (M := M_X12_distance) dX12_distance_18 rfl ?_
  refine z_getR (M := M_X12_distance) (ci := 15) (C := RX12) (T := TX12) (Nf := 135) (ty := tyX12) cl15 dX12_distance_19 ly_277 13 (by decide) t_2404 rfl ?_
  refine z_iload (M := M_X12_distance) dX12_distance_22 rfl ?_
  obtain ⟨x_5, x_5_e, hi_6, H⟩ := rd_e H
  refine z_iald (M := M_X12_distance) dX12_distance_24 ly_284 rfl rfl rfl hi_6 x_5_e ?_
  refine z_i2l (M := M_X12_distance) dX12_distance_25 ?_
  refine z_aload_n (M := M_X12_distance) dX12_distance_26 rfl ?_
  refine z_getR (M := M_X12_distance) (ci := 15) (C := RX12) (T := TX12) (Nf := 135) (ty := tyX12) cl15 dX12_distance_27 ly_277 13 (by decide) t_2404 rfl ?_
  refine z_iload_n (M := M_X12_distance) dX12_distance_30 rfl ?_
  obtain ⟨x_7, x_7_e, hi_8, H⟩ := rd_e H
  refine z_iald (M := M_X12_distance) dX12_distance_31 ly_284 rfl rfl rfl hi_8 x_7_e ?_
  refine z_i2l (M := M_X12_distance) dX12_distance_32 ?_
  refine z_lsub (M := M_X12_distance) dX12_distance_33 ?_
  refine z_lstore (M := M_X12_distance) (lv' := [some (vr 277), some (vi to_0), some (vi p_0), some (vi a_0), some (vi b_0), some (vl ((w32 x_1) - (w32 x_3))), none, some (vl ((w32 x_5) - (w32 x_7))), none, none, none, none, none, none, none, none, none, none, none, none, none, none]) dX12_distance_34 (Nat.le_of_ble_eq_true rfl) rfl rfl ?_
  refine z_aload_n (M := M_X12_distance) dX12_distance_36 rfl ?_
  refine z_getR (M := M_X12_distance) (ci := 15) (C := RX12) (T := TX12) (Nf := 135) (ty := tyX12) cl15 dX12_distance_37 ly_277 12 (by decide) t_2403 rfl ?_
  refine z_iload_n (M := M_X12_distance) dX12_distance_40 rfl ?_
  obtain ⟨x_9, x_9_e, hi_10, H⟩ := rd_e H
  refine z_iald (M := M_X12_distance) dX12_distance_41 ly_283 rfl rfl rfl hi_10 x_9_e ?_
  refine z_i2l (M := M_X12_distance) dX12_distance_42 ?_
  refine z_aload_n (M := M_X12_distance) dX12_distance_43 rfl ?_
  refine z_getR (M := M_X12_distance) (ci := 15) (C := RX12) (T := TX12) (Nf := 135) (ty := tyX12) cl15 dX12_distance_44 ly_277 12 (by decide) t_2403 rfl ?_
  refine z_iload_n (M := M_X12_distance) dX12_distance_47 rfl ?_
  obtain ⟨x_11, x_11_e, hi_12, H⟩ := rd_e H
  refine z_iald (M := M_X12_distance) dX12_distance_48 ly_283 rfl rfl rfl hi_12 x_11_e ?_
  refine z_i2l (M := M_X12_distance) dX12_distance_49 ?_
  refine z_lsub (M := M_X12_distance) dX12_distance_50 ?_
  refine z_lstore (M := M_X12_distance) (lv' := [some (vr 277), some (vi to_0), some (vi p_0), some (vi a_0), some (vi b_0), some (vl ((w32 x_1) - (w32 x_3))), none, some (vl ((w32 x_5) - (w32 x_7))), none, some (vl ((w32 x_9) - (w32 x_11))), none, none, none, none, none, none, none, none, none, none, none, none]) dX12_distance_51 (Nat.le_of_ble_eq_true rfl) rfl rfl ?_
  refine z_aload_n (M := M_X12_distance) dX12_distance_53 rfl ?_
  refine z_getR (M := M_X12_distance) (ci := 15) (C := RX12) (T := TX12) (Nf := 135) (ty := tyX12) cl15 dX12_distance_54 ly_277 13 (by decide) t_2404 rfl ?_
  refine z_iload_n (M := M_X12_distance) dX12_distance_57 rfl ?_
  obtain ⟨x_13, x_13_e, hi_14, H⟩ := rd_e H
  refine z_iald (M := M_X12_distance) dX12_distance_58 ly_284 rfl rfl rfl hi_14 x_13_e ?_
  refine z_i2l (M := M_X12_distance) dX12_distance_59 ?_
  refine z_aload_n (M := M_X12_distance) dX12_distance_60 rfl ?_
  refine z_getR (M := M_X12_distance) (ci := 15) (C := RX12) (T := TX12) (Nf := 135) (ty := tyX12) cl15 dX12_distance_61 ly_277 13 (by decide) t_2404 rfl ?_
  refine z_iload_n (M := M_X12_distance) dX12_distance_64 rfl ?_
  obtain ⟨x_15, x_15_e, hi_16, H⟩ := rd_e H
  refine z_iald (M := M_X12_distance) dX12_distance_65 ly_284 rfl rfl rfl hi_16 x_15_e ?_
  refine z_i2l (M := M_X12_distance) dX12_distance_66 ?_
  refine z_lsub (M := M_X12_distance) dX12_distance_67 ?_
  refine z_lstore (M := M_X12_distance) (lv' := [some (vr 277), some (vi to_0), some (vi p_0), some (vi a_0), some (vi b_0), some (vl ((w32 x_1) - (w32 x_3))), none, some (vl ((w32 x_5) - (w32 x_7))), none, some (vl ((w32 x_9) - (w32 x_11))), none, some (vl ((w32 x_13) - (w32 x_15))), none, none, none, none, none, none, none, none, none, none]) dX12_distance_68 (Nat.le_of_ble_eq_true rfl) rfl rfl ?_
  refine z_lload (M := M_X12_distance) dX12_distance_70 rfl ?_
  refine z_lload (M := M_X12_distance) dX12_distance_72 rfl ?_
  refine z_lmul (M := M_X12_distance) dX12_distance_74 ?_
  refine z_lload (M := M_X12_distance) dX12_distance_75 rfl ?_
  refine z_lload (M := M_X12_distance) dX12_distance_77 rfl ?_
  refine z_lmul (M := M_X12_distance) dX12_distance_79 ?_
  refine z_ladd (M := M_X12_distance) dX12_distance_80 ?_
  obtain ⟨x_17, x_17_e, H⟩ := lt_e H
  refine z_st (congrArg (fun z => vl z :: []) x_17_e) ?_
  refine z_lstore (M := M_X12_distance) (lv' := [some (vr 277), some (vi to_0), some (vi p_0), some (vi a_0), some (vi b_0), some (vl ((w32 x_1) - (w32 x_3))), none, some (vl ((w32 x_5) - (w32 x_7))), none, some (vl ((w32 x_9) - (w32 x_11))), none, some (vl ((w32 x_13) - (w32 x_15))), none, some (vl x_17), none, none, none, none, none, none, none, none]) dX12_distance_81 (Nat.le_of_ble_eq_true rfl) rfl rfl ?_
  refine z_lload (M := M_X12_distance) dX12_distance_83 rfl ?_
  refine z_lload (M := M_X12_distance) dX12_distance_85 rfl ?_
  refine z_lmul (M := M_X12_distance) dX12_distance_87 ?_
  refine z_lload (M := M_X12_distance) dX12_distance_88 rfl ?_
  refine z_lload (M := M_X12_distance) dX12_distance_90 rfl ?_
  refine z_lmul (M := M_X12_distance) dX12_distance_92 ?_
  refine z_ladd (M := M_X12_distance) dX12_distance_93 ?_
  obtain ⟨x_18, x_18_e, H⟩ := lt_e H
  refine z_st (congrArg (fun z => vl z :: []) x_18_e) ?_
  refine z_lstore (M := M_X12_distance) (lv' := [some (vr 277), some (vi to_0), some (vi p_0), some (vi a_0), some (vi b_0), some (vl ((w32 x_1) - (w32 x_3))), none, some (vl ((w32 x_5) - (w32 x_7))), none, some (vl ((w32 x_9) - (w32 x_11))), none, some (vl ((w32 x_13) - (w32 x_15))), none, some (vl x_17), none, some (vl x_18), none, none, none, none, none, none]) dX12_distance_94 (Nat.le_of_ble_eq_true rfl) rfl rfl ?_
  rcases if_e H with ⟨h_65, H⟩ | ⟨h_65, H⟩
  · have J_66 : YY l E M_X12_distance 3 0 0 (pS (none) σ') 118 [some (vr 277), some (vi to_0), some (vi p_0), some (vi a_0), some (vi b_0), some (vl ((w32 x_1) - (w32 x_3))), none, some (vl ((w32 x_5) - (w32 x_7))), none, some (vl ((w32 x_9) - (w32 x_11))), none, some (vl ((w32 x_13) - (w32 x_15))), none, some (vl x_17), none, some (vl x_18), none, none, none, none, none, none] [] σ 0 0 := by
      refine z_aload_n (M := M_X12_distance) dX12_distance_118 rfl ?_
      refine z_iconst (M := M_X12_distance) dX12_distance_119 ?_
      refine z_lload (M := M_X12_distance) dX12_distance_120 rfl ?_
      refine z_lload (M := M_X12_distance) dX12_distance_122 rfl ?_
      refine z_lload (M := M_X12_distance) dX12_distance_124 rfl ?_
      refine z_lload (M := M_X12_distance) dX12_distance_126 rfl ?_
      refine z_callS (M := M_X12_distance) (M' := M_X12_cross) (as := [vl ((w32 x_1) - (w32 x_3)), vl ((w32 x_5) - (w32 x_7)), vl ((w32 x_9) - (w32 x_11)), vl ((w32 x_13) - (w32 x_15))]) (rest := [vi 2, vr 277]) rfl rfl dX12_distance_128 m_X12_cross t_3265 t_3266 (c_X12_cross hl  rfl) rfl rfl (Nat.le_of_ble_eq_true rfl) (Nat.le_of_ble_eq_true rfl) (Nat.le_of_ble_eq_true rfl) (Nat.le_of_ble_eq_true rfl) ?_
      refine z_st (st' := [vl (fR_cross ((w32 x_1) - (w32 x_3)) ((w32 x_5) - (w32 x_7)) ((w32 x_9) - (w32 x_11)) ((w32 x_13) - (w32 x_15))), vi 2, vr 277]) rfl ?_
      obtain ⟨σ_20, hc_19, H⟩ := bd_e H
      refine z_callV (M := M_X12_distance) (M' := M_X12_set) (as := [vi 2, vl (fR_cross ((w32 x_1) - (w32 x_3)) ((w32 x_5) - (w32 x_7)) ((w32 x_9) - (w32 x_11)) ((w32 x_13) - (w32 x_15)))]) (rest := []) rfl rfl dX12_distance_131 m_X12_set t_3210 t_3212 s_222 (c_X12_set hl  hc_19) rfl rfl ly_277 rfl (Nat.le_of_ble_eq_true rfl) (Nat.le_of_ble_eq_true rfl) (Nat.le_of_ble_eq_true rfl) (Nat.le_of_ble_eq_true rfl) ?_
      refine z_st (st' := []) rfl ?_
      refine z_aload_n (M := M_X12_distance) dX12_distance_134 rfl ?_
      refine z_iload_n (M := M_X12_distance) dX12_distance_135 rfl ?_
      refine z_iconst (M := M_X12_distance) dX12_distance_136 ?_
      refine z_iconst (M := M_X12_distance) dX12_distance_137 ?_
      obtain ⟨σ_22, hc_21, H⟩ := bd_e H
      refine z_callV (M := M_X12_distance) (M' := M_X12_times) (as := [vi to_0, vi 2, vi 2]) (rest := []) rfl rfl dX12_distance_138 m_X12_times t_3194 t_3196 s_219 (c_X12_times hl  hc_21) rfl rfl ly_277 rfl (Nat.le_of_ble_eq_true rfl) (Nat.le_of_ble_eq_true rfl) (Nat.le_of_ble_eq_true rfl) (Nat.le_of_ble_eq_true rfl) ?_
      refine z_st (st' := []) rfl ?_
      cases H
      exact z_vret (M := M_X12_distance) dX12_distance_141 rfl (Nat.le_of_ble_eq_true rfl) (Nat.le_of_ble_eq_true rfl) ⟨rfl, rfl⟩
    refine z_lload (M := M_X12_distance) dX12_distance_96 rfl ?_
    refine z_lconst (M := M_X12_distance) (m := 0) dX12_distance_98 (by decide +kernel) ?_
    refine z_lcmp (M := M_X12_distance) dX12_distance_99 ?_
    by_cases h_68 : 0 < (w64 x_17)
    · refine z_lif_le_f (M := M_X12_distance) (tgt := 142) dX12_distance_100 (by decide) rfl (by decide +kernel) h_68 ?_
      refine z_lload (M := M_X12_distance) dX12_distance_103 rfl ?_
      refine z_lconst (M := M_X12_distance) (m := 0) dX12_distance_105 (by decide +kernel) ?_
      refine z_lcmp (M := M_X12_distance) dX12_distance_106 ?_
      by_cases h_69 : 0 < (w64 x_18)
      · refine z_lif_le_f (M := M_X12_distance) (tgt := 142) dX12_distance_107 (by decide) rfl (by decide +kernel) h_69 ?_
        refine z_lload (M := M_X12_distance) dX12_distance_110 rfl ?_
        refine z_lload (M := M_X12_distance) dX12_distance_112 rfl ?_
        refine z_lcmp (M := M_X12_distance) dX12_distance_114 ?_
        by_cases h_70 : (w64 x_18) < (w64 x_17)
        · refine z_lif_ge_f (M := M_X12_distance) (tgt := 142) dX12_distance_115 (by decide) rfl rfl h_70 ?_
          exact J_66
        · refine z_lif_ge_t (M := M_X12_distance) (tgt := 142) dX12_distance_115 (by decide) rfl rfl (Int.not_lt.mp h_70) ?_
          exact absurd h_65 (fun q => h_70 q.2)
      · refine z_lif_le_t (M := M_X12_distance) (tgt := 142) dX12_distance_107 (by decide) rfl (by decide +kernel) (Int.not_lt.mp h_69) ?_
        exact absurd h_65 (fun q => (fun q => h_69 q.2) q.1)
    · refine z_lif_le_t (M := M_X12_distance) (tgt := 142) dX12_distance_100 (by decide) rfl (by decide +kernel) (Int.not_lt.mp h_68) ?_
      exact absurd h_65 (fun q => (fun q => h_68 q.1) q.1)
  · have J_67 : YY l E M_X12_distance 3 0 0 (pS (none) σ') 142 [some (vr 277), some (vi to_0), some (vi p_0), some (vi a_0), some (vi b_0), some (vl ((w32 x_1) - (w32 x_3))), none, some (vl ((w32 x_5) - (w32 x_7))), none, some (vl ((w32 x_9) - (w32 x_11))), none, some (vl ((w32 x_13) - (w32 x_15))), none, some (vl x_17), none, some (vl x_18), none, none, none, none, none, none] [] σ 0 0 := by
      have J_23 : YY l E M_X12_distance 3 0 0 (pS (none) σ') 154 [some (vr 277), some (vi to_0), some (vi p_0), some (vi a_0), some (vi b_0), some (vl ((w32 x_1) - (w32 x_3))), none, some (vl ((w32 x_5) - (w32 x_7))), none, some (vl ((w32 x_9) - (w32 x_11))), none, some (vl ((w32 x_13) - (w32 x_15))), none, some (vl x_17), none, some (vl x_18), none, none, none, none, none, none] [zv (decide ((w64 x_18) ≤ 0))] σ 0 0 := by
        refine z_zstore (M := M_X12_distance) (lv' := [some (vr 277), some (vi to_0), some (vi p_0), some (vi a_0), some (vi b_0), some (vl ((w32 x_1) - (w32 x_3))), none, some (vl ((w32 x_5) - (w32 x_7))), none, some (vl ((w32 x_9) - (w32 x_11))), none, some (vl ((w32 x_13) - (w32 x_15))), none, some (vl x_17), none, some (vl x_18), none, some (zv (decide ((w64 x_18) ≤ 0))), none, none, none, none]) dX12_distance_154 (Nat.le_of_ble_eq_true rfl) rfl rfl ?_
        obtain ⟨v_60, he_61, hk_62⟩ := bd_e H
        have J_63 : ∀ x_35, v_60 = x_35 → YY l E M_X12_distance 3 0 0 (pS (none) σ') 182 [some (vr 277), some (vi to_0), some (vi p_0), some (vi a_0), some (vi b_0), some (vl ((w32 x_1) - (w32 x_3))), none, some (vl ((w32 x_5) - (w32 x_7))), none, some (vl ((w32 x_9) - (w32 x_11))), none, some (vl ((w32 x_13) - (w32 x_15))), none, some (vl x_17), none, some (vl x_18), none, some (zv (decide ((w64 x_18) ≤ 0))), none, none, none, none] [vl x_35] σ 0 0 := by
          intro x_35 e
          have H := hk_62
          rw [e] at H
          refine z_lstore (M := M_X12_distance) (lv' := [some (vr 277), some (vi to_0), some (vi p_0), some (vi a_0), some (vi b_0), some (vl ((w32 x_1) - (w32 x_3))), none, some (vl ((w32 x_5) - (w32 x_7))), none, some (vl ((w32 x_9) - (w32 x_11))), none, some (vl ((w32 x_13) - (w32 x_15))), none, some (vl x_17), none, some (vl x_18), none, some (zv (decide ((w64 x_18) ≤ 0))), some (vl x_35), none, none, none]) dX12_distance_182 (Nat.le_of_ble_eq_true rfl) rfl rfl ?_
          obtain ⟨v_56, he_57, hk_58⟩ := bd_e H
          have J_59 : ∀ x_47, v_56 = x_47 → YY l E M_X12_distance 3 0 0 (pS (none) σ') 210 [some (vr 277), some (vi to_0), some (vi p_0), some (vi a_0), some (vi b_0), some (vl ((w32 x_1) - (w32 x_3))), none, some (vl ((w32 x_5) - (w32 x_7))), none, some (vl ((w32 x_9) - (w32 x_11))), none, some (vl ((w32 x_13) - (w32 x_15))), none, some (vl x_17), none, some (vl x_18), none, some (zv (decide ((w64 x_18) ≤ 0))), some (vl x_35), none, none, none] [vl x_47] σ 0 0 := by
            intro x_47 e
            have H := hk_58
            rw [e] at H
            refine z_lstore (M := M_X12_distance) (lv' := [some (vr 277), some (vi to_0), some (vi p_0), some (vi a_0), some (vi b_0), some (vl ((w32 x_1) - (w32 x_3))), none, some (vl ((w32 x_5) - (w32 x_7))), none, some (vl ((w32 x_9) - (w32 x_11))), none, some (vl ((w32 x_13) - (w32 x_15))), none, some (vl x_17), none, some (vl x_18), none, some (zv (decide ((w64 x_18) ≤ 0))), some (vl x_35), none, some (vl x_47), none]) dX12_distance_210 (Nat.le_of_ble_eq_true rfl) rfl rfl ?_
            refine z_aload_n (M := M_X12_distance) dX12_distance_212 rfl ?_
            refine z_iconst (M := M_X12_distance) dX12_distance_213 ?_
            refine z_lload (M := M_X12_distance) dX12_distance_214 rfl ?_
            refine z_lload (M := M_X12_distance) dX12_distance_216 rfl ?_
            refine z_lmul (M := M_X12_distance) dX12_distance_218 ?_
            refine z_lload (M := M_X12_distance) dX12_distance_219 rfl ?_
            refine z_lload (M := M_X12_distance) dX12_distance_221 rfl ?_
            refine z_lmul (M := M_X12_distance) dX12_distance_223 ?_
            refine z_ladd (M := M_X12_distance) dX12_distance_224 ?_
            obtain ⟨σ_49, hc_48, H⟩ := bd_e H
            refine z_callV (M := M_X12_distance) (M' := M_X12_set) (as := [vi 2, vl ((x_35 * x_35) + (x_47 * x_47))]) (rest := []) rfl rfl dX12_distance_225 m_X12_set t_3210 t_3212 s_222 (c_X12_set hl  hc_48) rfl rfl ly_277 rfl (Nat.le_of_ble_eq_true rfl) (Nat.le_of_ble_eq_true rfl) (Nat.le_of_ble_eq_true rfl) (Nat.le_of_ble_eq_true rfl) ?_
            refine z_st (st' := []) rfl ?_
            refine z_aload_n (M := M_X12_distance) dX12_distance_228 rfl ?_
            refine z_iconst (M := M_X12_distance) dX12_distance_229 ?_
            have J_50 : YY l E M_X12_distance 3 0 0 (pS (none) σ') 243 [some (vr 277), some (vi to_0), some (vi p_0), some (vi a_0), some (vi b_0), some (vl ((w32 x_1) - (w32 x_3))), none, some (vl ((w32 x_5) - (w32 x_7))), none, some (vl ((w32 x_9) - (w32 x_11))), none, some (vl ((w32 x_13) - (w32 x_15))), none, some (vl x_17), none, some (vl x_18), none, some (zv (decide ((w64 x_18) ≤ 0))), some (vl x_35), none, some (vl x_47), none] [vl (if 0 < (w64 x_17) then x_17 else 1), vi 3, vr 277] σ_49 0 0 := by
              obtain ⟨σ_52, hc_51, H⟩ := bd_e H
              refine z_callV (M := M_X12_distance) (M' := M_X12_set) (as := [vi 3, vl (if 0 < (w64 x_17) then x_17 else 1)]) (rest := []) rfl rfl dX12_distance_243 m_X12_set t_3210 t_3212 s_222 (c_X12_set hl  hc_51) rfl rfl ly_277 rfl (Nat.le_of_ble_eq_true rfl) (Nat.le_of_ble_eq_true rfl) (Nat.le_of_ble_eq_true rfl) (Nat.le_of_ble_eq_true rfl) ?_
              refine z_st (st' := []) rfl ?_
              refine z_aload_n (M := M_X12_distance) dX12_distance_246 rfl ?_
              refine z_iload_n (M := M_X12_distance) dX12_distance_247 rfl ?_
              refine z_iconst (M := M_X12_distance) dX12_distance_248 ?_
              refine z_iconst (M := M_X12_distance) dX12_distance_249 ?_
              obtain ⟨σ_54, hc_53, H⟩ := bd_e H
              refine z_callV (M := M_X12_distance) (M' := M_X12_times) (as := [vi to_0, vi 2, vi 3]) (rest := []) rfl rfl dX12_distance_250 m_X12_times t_3194 t_3196 s_219 (c_X12_times hl  hc_53) rfl rfl ly_277 rfl (Nat.le_of_ble_eq_true rfl) (Nat.le_of_ble_eq_true rfl) (Nat.le_of_ble_eq_true rfl) (Nat.le_of_ble_eq_true rfl) ?_
              refine z_st (st' := []) rfl ?_
              cases H
              exact z_vret (M := M_X12_distance) dX12_distance_253 rfl (Nat.le_of_ble_eq_true rfl) (Nat.le_of_ble_eq_true rfl) ⟨rfl, rfl⟩
            refine z_lload (M := M_X12_distance) dX12_distance_230 rfl ?_
            refine z_lconst (M := M_X12_distance) (m := 0) dX12_distance_232 (by decide +kernel) ?_
            refine z_lcmp (M := M_X12_distance) dX12_distance_233 ?_
            by_cases h_55 : 0 < (w64 x_17)
            · refine z_lif_le_f (M := M_X12_distance) (tgt := 242) dX12_distance_234 (by decide) rfl (by decide +kernel) h_55 ?_
              refine z_lload (M := M_X12_distance) dX12_distance_237 rfl ?_
              refine z_goto (M := M_X12_distance) (tgt := 243) dX12_distance_239 (by decide) ?_
              exact z_st (by rw [if_pos (c := 0 < (w64 x_17)) h_55]) J_50
            · refine z_lif_le_t (M := M_X12_distance) (tgt := 242) dX12_distance_234 (by decide) rfl (by decide +kernel) (Int.not_lt.mp h_55) ?_
              refine z_lconst (M := M_X12_distance) (m := 1) dX12_distance_242 (by decide +kernel) ?_
              exact z_st (by rw [if_neg (c := 0 < (w64 x_17)) h_55]) J_50
          have H := he_57
          refine z_zload (M := M_X12_distance) dX12_distance_184 rfl ?_
          rcases if_e H with ⟨h_40, H⟩ | ⟨h_40, H⟩
          · refine z_zeq_f (M := M_X12_distance) (tgt := 194) dX12_distance_186 (by decide) h_40 ?_
            refine z_lload (M := M_X12_distance) dX12_distance_189 rfl ?_
            refine z_goto (M := M_X12_distance) (tgt := 210) dX12_distance_191 (by decide) ?_
            exact J_59 _ (Option.some.inj H).symm
          · refine z_zeq_t (M := M_X12_distance) (tgt := 194) dX12_distance_186 (by decide) h_40 ?_
            refine z_aload_n (M := M_X12_distance) dX12_distance_194 rfl ?_
            refine z_getR (M := M_X12_distance) (ci := 15) (C := RX12) (T := TX12) (Nf := 135) (ty := tyX12) cl15 dX12_distance_195 ly_277 13 (by decide) t_2404 rfl ?_
            refine z_iload_n (M := M_X12_distance) dX12_distance_198 rfl ?_
            obtain ⟨x_42, x_42_e, hi_43, H⟩ := rd_e H
            refine z_iald (M := M_X12_distance) dX12_distance_199 ly_284 rfl rfl rfl hi_43 x_42_e ?_
            refine z_i2l (M := M_X12_distance) dX12_distance_200 ?_
            refine z_aload_n (M := M_X12_distance) dX12_distance_201 rfl ?_
            refine z_getR (M := M_X12_distance) (ci := 15) (C := RX12) (T := TX12) (Nf := 135) (ty := tyX12) cl15 dX12_distance_202 ly_277 13 (by decide) t_2404 rfl ?_
            refine z_iload (M := M_X12_distance) dX12_distance_205 rfl ?_
            obtain ⟨x_44, x_44_e, hi_45, H⟩ := rd_e H
            refine z_iald (M := M_X12_distance) dX12_distance_207 ly_284 rfl rfl rfl hi_45 x_44_e ?_
            refine z_i2l (M := M_X12_distance) dX12_distance_208 ?_
            refine z_lsub (M := M_X12_distance) dX12_distance_209 ?_
            exact J_59 _ (Option.some.inj H).symm
        have H := he_61
        refine z_zload (M := M_X12_distance) dX12_distance_156 rfl ?_
        rcases if_e H with ⟨h_28, H⟩ | ⟨h_28, H⟩
        · refine z_zeq_f (M := M_X12_distance) (tgt := 166) dX12_distance_158 (by decide) h_28 ?_
          refine z_lload (M := M_X12_distance) dX12_distance_161 rfl ?_
          refine z_goto (M := M_X12_distance) (tgt := 182) dX12_distance_163 (by decide) ?_
          exact J_63 _ (Option.some.inj H).symm
        · refine z_zeq_t (M := M_X12_distance) (tgt := 166) dX12_distance_158 (by decide) h_28 ?_
          refine z_aload_n (M := M_X12_distance) dX12_distance_166 rfl ?_
          refine z_getR (M := M_X12_distance) (ci := 15) (C := RX12) (T := TX12) (Nf := 135) (ty := tyX12) cl15 dX12_distance_167 ly_277 12 (by decide) t_2403 rfl ?_
          refine z_iload_n (M := M_X12_distance) dX12_distance_170 rfl ?_
          obtain ⟨x_30, x_30_e, hi_31, H⟩ := rd_e H
          refine z_iald (M := M_X12_distance) dX12_distance_171 ly_283 rfl rfl rfl hi_31 x_30_e ?_
          refine z_i2l (M := M_X12_distance) dX12_distance_172 ?_
          refine z_aload_n (M := M_X12_distance) dX12_distance_173 rfl ?_
          refine z_getR (M := M_X12_distance) (ci := 15) (C := RX12) (T := TX12) (Nf := 135) (ty := tyX12) cl15 dX12_distance_174 ly_277 12 (by decide) t_2403 rfl ?_
          refine z_iload (M := M_X12_distance) dX12_distance_177 rfl ?_
          obtain ⟨x_32, x_32_e, hi_33, H⟩ := rd_e H
          refine z_iald (M := M_X12_distance) dX12_distance_179 ly_283 rfl rfl rfl hi_33 x_32_e ?_
          refine z_i2l (M := M_X12_distance) dX12_distance_180 ?_
          refine z_lsub (M := M_X12_distance) dX12_distance_181 ?_
          exact J_63 _ (Option.some.inj H).symm
      refine z_lload (M := M_X12_distance) dX12_distance_142 rfl ?_
      refine z_lconst (M := M_X12_distance) (m := 0) dX12_distance_144 (by decide +kernel) ?_
      refine z_lcmp (M := M_X12_distance) dX12_distance_145 ?_
      by_cases h_64 : (w64 x_18) ≤ 0
      · refine z_lif_gt_f (M := M_X12_distance) (tgt := 153) dX12_distance_146 (by decide) rfl (by decide +kernel) h_64 ?_
        refine z_iconst (M := M_X12_distance) dX12_distance_149 ?_
        refine z_goto (M := M_X12_distance) (tgt := 154) dX12_distance_150 (by decide) ?_
        exact z_st (by rw [zv_t (p := (w64 x_18) ≤ 0) h_64]) J_23
      · refine z_lif_gt_t (M := M_X12_distance) (tgt := 153) dX12_distance_146 (by decide) rfl (by decide +kernel) (Int.not_le.mp h_64) ?_
        refine z_iconst (M := M_X12_distance) dX12_distance_153 ?_
        exact z_st (by rw [zv_f (p := (w64 x_18) ≤ 0) h_64]) J_23
    refine z_lload (M := M_X12_distance) dX12_distance_96 rfl ?_
    refine z_lconst (M := M_X12_distance) (m := 0) dX12_distance_98 (by decide +kernel) ?_
    refine z_lcmp (M := M_X12_distance) dX12_distance_99 ?_
    by_cases h_71 : 0 < (w64 x_17)
    · refine z_lif_le_f (M := M_X12_distance) (tgt := 142) dX12_distance_100 (by decide) rfl (by decide +kernel) h_71 ?_
      refine z_lload (M := M_X12_distance) dX12_distance_103 rfl ?_
      refine z_lconst (M := M_X12_distance) (m := 0) dX12_distance_105 (by decide +kernel) ?_
      refine z_lcmp (M := M_X12_distance) dX12_distance_106 ?_
      by_cases h_72 : 0 < (w64 x_18)
      · refine z_lif_le_f (M := M_X12_distance) (tgt := 142) dX12_distance_107 (by decide) rfl (by decide +kernel) h_72 ?_
        refine z_lload (M := M_X12_distance) dX12_distance_110 rfl ?_
        refine z_lload (M := M_X12_distance) dX12_distance_112 rfl ?_
        refine z_lcmp (M := M_X12_distance) dX12_distance_114 ?_
        by_cases h_73 : (w64 x_18) < (w64 x_17)
        · refine z_lif_ge_f (M := M_X12_distance) (tgt := 142) dX12_distance_115 (by decide) rfl rfl h_73 ?_
          exact absurd ⟨⟨h_71, h_72⟩, h_73⟩ h_65
        · refine z_lif_ge_t (M := M_X12_distance) (tgt := 142) dX12_distance_115 (by decide) rfl rfl (Int.not_lt.mp h_73) ?_
          exact J_67
      · refine z_lif_le_t (M := M_X12_distance) (tgt := 142) dX12_distance_107 (by decide) rfl (by decide +kernel) (Int.not_lt.mp h_72) ?_
        exact J_67
    · refine z_lif_le_t (M := M_X12_distance) (tgt := 142) dX12_distance_100 (by decide) rfl (by decide +kernel) (Int.not_lt.mp h_71) ?_
      exact J_67
theorem c_X12_farthest (hl : l.stackTraces = false) {σ : SG} {a_0 : Int} {b_0 : Int} {far_0 : Int} {r : Int} {σ' : SG}  (H : fR_farthest σ a_0 b_0 far_0 = some (r, σ')) : en_S l E M_X12_farthest 4 0 0 [vr 277, vi a_0, vi b_0, vl far_0] σ (pS (some (vi r)) σ') := by
  unfold fR_farthest at H
  refine z_mk (lv := [some (vr 277), some (vi a_0), some (vi b_0), some (vl far_0), none, none, none, none, none, none, none, none, none]) m_X12_farthest rfl hl (Nat.le_of_ble_eq_true rfl) rfl ?_
  refine z_aload_n (M := M_X12_farthest) dX12_farthest_0 rfl ?_
  refine z_getR (M := M_X12_farthest) (ci := 15) (C := RX12) (T := TX12) (Nf := 135) (ty := tyX12) cl15 dX12_farthest_1 ly_277 12 (by decide) t_2403 rfl ?_
  refine z_iload_n (M := M_X12_farthest) dX12_farthest_4 rfl ?_
  obtain ⟨x_1, x_1_e, hi_2, H⟩ := rd_e H
  refine z_iald (M := M_X12_farthest) dX12_farthest_5 ly_283 rfl rfl rfl hi_2 x_1_e ?_
  refine z_i2l (M := M_X12_farthest) dX12_farthest_6 ?_
  refine z_aload_n (M := M_X12_farthest) dX12_farthest_7 rfl ?_
  refine z_getR (M := M_X12_farthest) (ci := 15) (C := RX12) (T := TX12) (Nf := 135) (ty := tyX12) cl15 dX12_farthest_8 ly_277 12 (by decide) t_2403 rfl ?_
  refine z_iload_n (M := M_X12_farthest) dX12_farthest_11 rfl ?_
  obtain ⟨x_3, x_3_e, hi_4, H⟩ := rd_e H
  refine z_iald (M := M_X12_farthest) dX12_farthest_12 ly_283 rfl rfl rfl hi_4 x_3_e ?_
  refine z_i2l (M := M_X12_farthest) dX12_farthest_13 ?_
  refine z_lsub (M := M_X12_farthest) dX12_farthest_14 ?_
  refine z_lstore (M := M_X12_farthest) (lv' := [some (vr 277), some (vi a_0), some (vi b_0), some (vl far_0), none, some (vl ((w32 x_1) - (w32 x_3))), none, none, none, none, none, none, none]) dX12_farthest_15 (Nat.le_of_ble_eq_true rfl) rfl rfl ?_
  refine z_aload_n (M := M_X12_farthest) dX12_farthest_17 rfl ?_
  refine z_getR (M := M_X12_farthest) (ci := 15) (C := RX12) (T := TX12) (Nf := 135) (ty := tyX12) cl15 dX12_farthest_18 ly_277 13 (by decide) t_2404 rfl ?_
  refine z_iload_n (M := M_X12_farthest) dX12_farthest_21 rfl ?_
  obtain ⟨x_5, x_5_e, hi_6, H⟩ := rd_e H
  refine z_iald (M := M_X12_farthest) dX12_farthest_22 ly_284 rfl rfl rfl hi_6 x_5_e ?_
  refine z_i2l (M := M_X12_farthest) dX12_farthest_23 ?_
  refine z_aload_n (M := M_X12_farthest) dX12_farthest_24 rfl ?_
  refine z_getR (M := M_X12_farthest) (ci := 15) (C := RX12) (T := TX12) (Nf := 135) (ty := tyX12) cl15 dX12_farthest_25 ly_277 13 (by decide) t_2404 rfl ?_
  refine z_iload_n (M := M_X12_farthest) dX12_farthest_28 rfl ?_
  obtain ⟨x_7, x_7_e, hi_8, H⟩ := rd_e H
  refine z_iald (M := M_X12_farthest) dX12_farthest_29 ly_284 rfl rfl rfl hi_8 x_7_e ?_
  refine z_i2l (M := M_X12_farthest) dX12_farthest_30 ?_
  refine z_lsub (M := M_X12_farthest) dX12_farthest_31 ?_
  refine z_lstore (M := M_X12_farthest) (lv' := [some (vr 277), some (vi a_0), some (vi b_0), some (vl far_0), none, some (vl ((w32 x_1) - (w32 x_3))), none, some (vl ((w32 x_5) - (w32 x_7))), none, none, none, none, none]) dX12_farthest_32 (Nat.le_of_ble_eq_true rfl) rfl rfl ?_
  refine z_lload (M := M_X12_farthest) dX12_farthest_34 rfl ?_
  refine z_lload (M := M_X12_farthest) dX12_farthest_36 rfl ?_
  refine z_lmul (M := M_X12_farthest) dX12_farthest_38 ?_
  refine z_lload (M := M_X12_farthest) dX12_farthest_39 rfl ?_
  refine z_lload (M := M_X12_farthest) dX12_farthest_41 rfl ?_
  refine z_lmul (M := M_X12_farthest) dX12_farthest_43 ?_
  refine z_ladd (M := M_X12_farthest) dX12_farthest_44 ?_
  obtain ⟨x_9, x_9_e, H⟩ := lt_e H
  refine z_st (congrArg (fun z => vl z :: []) x_9_e) ?_
  refine z_lstore (M := M_X12_farthest) (lv' := [some (vr 277), some (vi a_0), some (vi b_0), some (vl far_0), none, some (vl ((w32 x_1) - (w32 x_3))), none, some (vl ((w32 x_5) - (w32 x_7))), none, some (vl x_9), none, none, none]) dX12_farthest_45 (Nat.le_of_ble_eq_true rfl) rfl rfl ?_
  refine z_aload_n (M := M_X12_farthest) dX12_farthest_47 rfl ?_
  refine z_iconst (M := M_X12_farthest) dX12_farthest_48 ?_
  refine z_lload_n (M := M_X12_farthest) dX12_farthest_49 rfl ?_
  refine z_lload_n (M := M_X12_farthest) dX12_farthest_50 rfl ?_
  refine z_lmul (M := M_X12_farthest) dX12_farthest_51 ?_
  obtain ⟨σ_11, hc_10, H⟩ := bd_e H
  refine z_callV (M := M_X12_farthest) (M' := M_X12_set) (as := [vi 4, vl (far_0 * far_0)]) (rest := []) rfl rfl dX12_farthest_52 m_X12_set t_3210 t_3212 s_222 (c_X12_set hl  hc_10) rfl rfl ly_277 rfl (Nat.le_of_ble_eq_true rfl) (Nat.le_of_ble_eq_true rfl) (Nat.le_of_ble_eq_true rfl) (Nat.le_of_ble_eq_true rfl) ?_
  refine z_st (st' := []) rfl ?_
  refine z_aload_n (M := M_X12_farthest) dX12_farthest_55 rfl ?_
  refine z_iconst (M := M_X12_farthest) dX12_farthest_56 ?_
  have J_12 : YY l E M_X12_farthest 4 0 0 (pS (some (vi r)) σ') 70 [some (vr 277), some (vi a_0), some (vi b_0), some (vl far_0), none, some (vl ((w32 x_1) - (w32 x_3))), none, some (vl ((w32 x_5) - (w32 x_7))), none, some (vl x_9), none, none, none] [vl (if 0 < (w64 x_9) then x_9 else 1), vi 5, vr 277] σ_11 0 0 := by
    obtain ⟨σ_14, hc_13, H⟩ := bd_e H
    refine z_callV (M := M_X12_farthest) (M' := M_X12_set) (as := [vi 5, vl (if 0 < (w64 x_9) then x_9 else 1)]) (rest := []) rfl rfl dX12_farthest_70 m_X12_set t_3210 t_3212 s_222 (c_X12_set hl  hc_13) rfl rfl ly_277 rfl (Nat.le_of_ble_eq_true rfl) (Nat.le_of_ble_eq_true rfl) (Nat.le_of_ble_eq_true rfl) (Nat.le_of_ble_eq_true rfl) ?_
    refine z_st (st' := []) rfl ?_
    refine z_aload_n (M := M_X12_farthest) dX12_farthest_73 rfl ?_
    refine z_bipush (M := M_X12_farthest) dX12_farthest_74 (by decide +kernel) ?_
    refine z_iconst (M := M_X12_farthest) dX12_farthest_76 ?_
    refine z_iconst (M := M_X12_farthest) dX12_farthest_77 ?_
    obtain ⟨σ_16, hc_15, H⟩ := bd_e H
    refine z_callV (M := M_X12_farthest) (M' := M_X12_times) (as := [vi 10, vi 4, vi 5]) (rest := []) rfl rfl dX12_farthest_78 m_X12_times t_3194 t_3196 s_219 (c_X12_times hl  hc_15) rfl rfl ly_277 rfl (Nat.le_of_ble_eq_true rfl) (Nat.le_of_ble_eq_true rfl) (Nat.le_of_ble_eq_true rfl) (Nat.le_of_ble_eq_true rfl) ?_
    refine z_st (st' := []) rfl ?_
    refine z_iconst (M := M_X12_farthest) dX12_farthest_81 ?_
    refine z_istore (M := M_X12_farthest) (lv' := [some (vr 277), some (vi a_0), some (vi b_0), some (vl far_0), none, some (vl ((w32 x_1) - (w32 x_3))), none, some (vl ((w32 x_5) - (w32 x_7))), none, some (vl x_9), none, some (vi (-1)), none]) dX12_farthest_82 (Nat.le_of_ble_eq_true rfl) rfl rfl ?_
    refine z_iload_n (M := M_X12_farthest) dX12_farthest_84 rfl ?_
    refine z_iconst (M := M_X12_farthest) dX12_farthest_85 ?_
    refine z_iadd (M := M_X12_farthest) dX12_farthest_86 ?_
    refine z_istore (M := M_X12_farthest) (lv' := [some (vr 277), some (vi a_0), some (vi b_0), some (vl far_0), none, some (vl ((w32 x_1) - (w32 x_3))), none, some (vl ((w32 x_5) - (w32 x_7))), none, some (vl x_9), none, some (vi (-1)), some (vi (a_0 + 1))]) dX12_farthest_87 (Nat.le_of_ble_eq_true rfl) rfl rfl ?_
    obtain ⟨rl_23, hw_20, hk_21⟩ := bd_e H
    have J_43 : ∀ best_40 k_41 σ_42, rl_23 = (best_40, k_41, σ_42) → YY l E M_X12_farthest 4 0 0 (pS (some (vi r)) σ') 150 [some (vr 277), some (vi a_0), some (vi b_0), some (vl far_0), none, some (vl ((w32 x_1) - (w32 x_3))), none, some (vl ((w32 x_5) - (w32 x_7))), none, some (vl x_9), none, some (vi best_40), some (vi k_41)] [] σ_42 0 0 := by
      intro best_40 k_41 σ_42 e
      have H := hk_21
      rw [e] at H
      refine z_iload (M := M_X12_farthest) dX12_farthest_150 rfl ?_
      cases H
      exact z_iret (M := M_X12_farthest) dX12_farthest_152 rfl (Nat.le_of_ble_eq_true rfl) (Nat.le_of_ble_eq_true rfl) ⟨rfl, rfl⟩
    refine whl_go hw_20 (fun (best_17, k_18, σ_19) => YY l E M_X12_farthest 4 0 0 (pS (some (vi r)) σ') 89 [some (vr 277), some (vi a_0), some (vi b_0), some (vl far_0), none, some (vl ((w32 x_1) - (w32 x_3))), none, some (vl ((w32 x_5) - (w32 x_7))), none, some (vl x_9), none, some (vi best_17), some (vi k_18)] [] σ_19 0 0) ?_
    rintro ⟨best_17, k_18, σ_19⟩ o_24 H K_25 K_26
    refine z_iload (M := M_X12_farthest) dX12_farthest_89 rfl ?_
    refine z_iload_n (M := M_X12_farthest) dX12_farthest_91 rfl ?_
    rcases if_e H with ⟨h_27, H⟩ | ⟨h_27, H⟩
    · refine z_icmp_ge_f (M := M_X12_farthest) (tgt := 150) dX12_farthest_92 (by decide) rfl rfl h_27 ?_
      refine z_aload_n (M := M_X12_farthest) dX12_farthest_95 rfl ?_
      refine z_bipush (M := M_X12_farthest) dX12_farthest_96 (by decide +kernel) ?_
      refine z_iload (M := M_X12_farthest) dX12_farthest_98 rfl ?_
      refine z_iload_n (M := M_X12_farthest) dX12_farthest_100 rfl ?_
      refine z_iload_n (M := M_X12_farthest) dX12_farthest_101 rfl ?_
      obtain ⟨σ_29, hc_28, H⟩ := bd_e H
      refine z_callV (M := M_X12_farthest) (M' := M_X12_distance) (as := [vi 11, vi k_18, vi a_0, vi b_0]) (rest := []) rfl rfl dX12_farthest_102 m_X12_distance t_3701 t_3703 s_326 (c_X12_distance hl  hc_28) rfl rfl ly_277 rfl (Nat.le_of_ble_eq_true rfl) (Nat.le_of_ble_eq_true rfl) (Nat.le_of_ble_eq_true rfl) (Nat.le_of_ble_eq_true rfl) ?_
      refine z_st (st' := []) rfl ?_
      refine z_aload_n (M := M_X12_farthest) dX12_farthest_105 rfl ?_
      refine z_bipush (M := M_X12_farthest) dX12_farthest_106 (by decide +kernel) ?_
      refine z_bipush (M := M_X12_farthest) dX12_farthest_108 (by decide +kernel) ?_
      refine z_bipush (M := M_X12_farthest) dX12_farthest_110 (by decide +kernel) ?_
      refine z_zconst (M := M_X12_farthest) (b := true) dX12_farthest_112 rfl ?_
      obtain ⟨σ_31, hc_30, H⟩ := bd_e H
      refine z_callV (M := M_X12_farthest) (M' := M_X12_add) (as := [vi 12, vi 11, vi 10, zv true]) (rest := []) rfl rfl dX12_farthest_113 m_X12_add t_3174 t_3176 s_214 (c_X12_add hl  hc_30) rfl rfl ly_277 rfl (Nat.le_of_ble_eq_true rfl) (Nat.le_of_ble_eq_true rfl) (Nat.le_of_ble_eq_true rfl) (Nat.le_of_ble_eq_true rfl) ?_
      refine z_st (st' := []) rfl ?_
      refine z_aload_n (M := M_X12_farthest) dX12_farthest_116 rfl ?_
      refine z_getR (M := M_X12_farthest) (ci := 15) (C := RX12) (T := TX12) (Nf := 135) (ty := tyX12) cl15 dX12_farthest_117 ly_277 38 (by decide) t_2429 rfl ?_
      refine z_bipush (M := M_X12_farthest) dX12_farthest_120 (by decide +kernel) ?_
      obtain ⟨x_32, x_32_e, hi_33, H⟩ := rd_e H
      refine z_iald (M := M_X12_farthest) dX12_farthest_122 ly_296 rfl (by decide +kernel) rfl hi_33 x_32_e ?_
      rcases if_e H with ⟨h_34, H⟩ | ⟨h_34, H⟩
      · refine z_if_gt_f (M := M_X12_farthest) (tgt := 129) dX12_farthest_123 (by decide) rfl h_34 ?_
        refine z_goto (M := M_X12_farthest) (tgt := 144) dX12_farthest_126 (by decide) ?_
        refine z_iinc (M := M_X12_farthest) (lv' := [some (vr 277), some (vi a_0), some (vi b_0), some (vl far_0), none, some (vl ((w32 x_1) - (w32 x_3))), none, some (vl ((w32 x_5) - (w32 x_7))), none, some (vl x_9), none, some (vi best_17), some (vi (k_18 + 1))]) dX12_farthest_144 rfl (Nat.le_of_ble_eq_true rfl) rfl rfl ?_
        refine z_goto (M := M_X12_farthest) (tgt := 89) dX12_farthest_147 (by decide) ?_
        exact K_25 _ (Option.some.inj H).symm
      · refine z_if_gt_t (M := M_X12_farthest) (tgt := 129) dX12_farthest_123 (by decide) rfl (Int.not_le.mp h_34) ?_
        refine z_iload (M := M_X12_farthest) dX12_farthest_129 rfl ?_
        refine z_istore (M := M_X12_farthest) (lv' := [some (vr 277), some (vi a_0), some (vi b_0), some (vl far_0), none, some (vl ((w32 x_1) - (w32 x_3))), none, some (vl ((w32 x_5) - (w32 x_7))), none, some (vl x_9), none, some (vi k_18), some (vi k_18)]) dX12_farthest_131 (Nat.le_of_ble_eq_true rfl) rfl rfl ?_
        refine z_aload_n (M := M_X12_farthest) dX12_farthest_133 rfl ?_
        refine z_bipush (M := M_X12_farthest) dX12_farthest_134 (by decide +kernel) ?_
        refine z_bipush (M := M_X12_farthest) dX12_farthest_136 (by decide +kernel) ?_
        refine z_bipush (M := M_X12_farthest) dX12_farthest_138 (by decide +kernel) ?_
        refine z_zconst (M := M_X12_farthest) (b := false) dX12_farthest_140 rfl ?_
        obtain ⟨σ_37, hc_36, H⟩ := bd_e H
        refine z_callV (M := M_X12_farthest) (M' := M_X12_add) (as := [vi 10, vi 11, vi 6, zv false]) (rest := []) rfl rfl dX12_farthest_141 m_X12_add t_3174 t_3176 s_214 (c_X12_add hl  hc_36) rfl rfl ly_277 rfl (Nat.le_of_ble_eq_true rfl) (Nat.le_of_ble_eq_true rfl) (Nat.le_of_ble_eq_true rfl) (Nat.le_of_ble_eq_true rfl) ?_
        refine z_st (st' := []) rfl ?_
        refine z_iinc (M := M_X12_farthest) (lv' := [some (vr 277), some (vi a_0), some (vi b_0), some (vl far_0), none, some (vl ((w32 x_1) - (w32 x_3))), none, some (vl ((w32 x_5) - (w32 x_7))), none, some (vl x_9), none, some (vi k_18), some (vi (k_18 + 1))]) dX12_farthest_144 rfl (Nat.le_of_ble_eq_true rfl) rfl rfl ?_
        refine z_goto (M := M_X12_farthest) (tgt := 89) dX12_farthest_147 (by decide) ?_
        exact K_25 _ (Option.some.inj H).symm
    · refine z_icmp_ge_t (M := M_X12_farthest) (tgt := 150) dX12_farthest_92 (by decide) rfl rfl (Int.not_lt.mp h_27) ?_
      exact J_43 _ _ _ (K_26 _ (Option.some.inj H).symm).symm
  refine z_lload (M := M_X12_farthest) dX12_farthest_57 rfl ?_
  refine z_lconst (M := M_X12_farthest) (m := 0) dX12_farthest_59 (by decide +kernel) ?_
  refine z_lcmp (M := M_X12_farthest) dX12_farthest_60 ?_
  by_cases h_44 : 0 < (w64 x_9)
  · refine z_lif_le_f (M := M_X12_farthest) (tgt := 69) dX12_farthest_61 (by decide) rfl (by decide +kernel) h_44 ?_
    refine z_lload (M := M_X12_farthest) dX12_farthest_64 rfl ?_
    refine z_goto (M := M_X12_farthest) (tgt := 70) dX12_farthest_66 (by decide) ?_
    exact z_st (by rw [if_pos (c := 0 < (w64 x_9)) h_44]) J_12
  · refine z_lif_le_t (M := M_X12_farthest) (tgt := 69) dX12_farthest_61 (by decide) rfl (by decide +kernel) (Int.not_lt.mp h_44) ?_
    refine z_lconst (M := M_X12_farthest) (m := 1) dX12_farthest_69 (by decide +kernel) ?_
    exact z_st (by rw [if_neg (c := 0 < (w64 x_9)) h_44]) J_12
end LFBC
