section LFAT
variable {l : Launch} {E : EE}
theorem c_X12_set (hl : l.stackTraces = false) {σ : SG} {r_0 : Int} {v_0 : Int} {σ' : SG}  (H : fR_set σ r_0 v_0 = some σ') : en_S l E M_X12_set 2 0 0 [vr 277, vi r_0, vl v_0] σ (pS (none) σ') := by
  unfold fR_set at H
  refine z_mk (lv := [some (vr 277), some (vi r_0), some (vl v_0), none, none, none]) m_X12_set rfl hl (Nat.le_of_ble_eq_true rfl) rfl ?_
  have J_1 : YY l E M_X12_set 2 0 0 (pS (none) σ') 12 [some (vr 277), some (vi r_0), some (vl v_0), none, none, none] [vl (if (w64 v_0) < 0 then (-v_0) else v_0)] σ 0 0 := by
    refine z_lstore (M := M_X12_set) (lv' := [some (vr 277), some (vi r_0), some (vl v_0), none, some (vl (if (w64 v_0) < 0 then (-v_0) else v_0)), none]) dX12_set_12 (Nat.le_of_ble_eq_true rfl) rfl rfl ?_
    refine z_aload_n (M := M_X12_set) dX12_set_14 rfl ?_
    refine z_getR (M := M_X12_set) (ci := 15) (C := RX12) (T := TX12) (Nf := 135) (ty := tyX12) cl15 dX12_set_15 ly_277 36 (by decide) t_2427 rfl ?_
    refine z_sipush (M := M_X12_set) dX12_set_18 (by decide +kernel) ?_
    refine z_iload_n (M := M_X12_set) dX12_set_21 rfl ?_
    refine z_imul (M := M_X12_set) dX12_set_22 ?_
    refine z_lload (M := M_X12_set) dX12_set_23 rfl ?_
    refine z_ldc2 (M := M_X12_set) (n := 4294967295) dX12_set_25 t_3169 (by decide +kernel) ?_
    refine z_land (M := M_X12_set) dX12_set_28 ?_
    obtain ⟨σ_2, σ_2_e, hi_3, H⟩ := wa_e H
    refine z_last (M := M_X12_set) dX12_set_29 ly_294 rfl rfl rfl hi_3 σ_2_e ?_
    refine z_aload_n (M := M_X12_set) dX12_set_30 rfl ?_
    refine z_getR (M := M_X12_set) (ci := 15) (C := RX12) (T := TX12) (Nf := 135) (ty := tyX12) cl15 dX12_set_31 ly_277 36 (by decide) t_2427 rfl ?_
    refine z_sipush (M := M_X12_set) dX12_set_34 (by decide +kernel) ?_
    refine z_iload_n (M := M_X12_set) dX12_set_37 rfl ?_
    refine z_imul (M := M_X12_set) dX12_set_38 ?_
    refine z_iconst (M := M_X12_set) dX12_set_39 ?_
    refine z_iadd (M := M_X12_set) dX12_set_40 ?_
    refine z_lload (M := M_X12_set) dX12_set_41 rfl ?_
    refine z_bipush (M := M_X12_set) dX12_set_43 (by decide +kernel) ?_
    refine z_lushr (M := M_X12_set) dX12_set_45 ?_
    obtain ⟨σ_4, σ_4_e, hi_5, H⟩ := wa_e H
    refine z_last (M := M_X12_set) dX12_set_46 ly_294 rfl rfl rfl hi_5 σ_4_e ?_
    refine z_aload_n (M := M_X12_set) dX12_set_47 rfl ?_
    refine z_getR (M := M_X12_set) (ci := 15) (C := RX12) (T := TX12) (Nf := 135) (ty := tyX12) cl15 dX12_set_48 ly_277 37 (by decide) t_2428 rfl ?_
    refine z_iload_n (M := M_X12_set) dX12_set_51 rfl ?_
    refine z_iconst (M := M_X12_set) dX12_set_52 ?_
    obtain ⟨σ_6, σ_6_e, hi_7, H⟩ := wa_e H
    refine z_iast (M := M_X12_set) dX12_set_53 ly_295 rfl rfl rfl hi_7 σ_6_e ?_
    refine z_aload_n (M := M_X12_set) dX12_set_54 rfl ?_
    refine z_getR (M := M_X12_set) (ci := 15) (C := RX12) (T := TX12) (Nf := 135) (ty := tyX12) cl15 dX12_set_55 ly_277 38 (by decide) t_2429 rfl ?_
    refine z_iload_n (M := M_X12_set) dX12_set_58 rfl ?_
    have J_8 : YY l E M_X12_set 2 0 0 (pS (none) σ') 70 [some (vr 277), some (vi r_0), some (vl v_0), none, some (vl (if (w64 v_0) < 0 then (-v_0) else v_0)), none] [vi (if (w64 v_0) < 0 then (-1) else 1), vi r_0, vr 296] σ_6 0 0 := by
      obtain ⟨σ_9, σ_9_e, hi_10, H⟩ := wa_e H
      refine z_iast (M := M_X12_set) dX12_set_70 ly_296 rfl rfl rfl hi_10 σ_9_e ?_
      refine z_aload_n (M := M_X12_set) dX12_set_71 rfl ?_
      refine z_iload_n (M := M_X12_set) dX12_set_72 rfl ?_
      obtain ⟨σ_12, hc_11, H⟩ := bd_e H
      refine z_callV (M := M_X12_set) (M' := M_X12_trim) (as := [vi r_0]) (rest := []) rfl rfl dX12_set_73 m_X12_trim t_3170 t_3172 s_213 (c_X12_trim hl  hc_11) rfl rfl ly_277 rfl (Nat.le_of_ble_eq_true rfl) (Nat.le_of_ble_eq_true rfl) (Nat.le_of_ble_eq_true rfl) (Nat.le_of_ble_eq_true rfl) ?_
      refine z_st (st' := []) rfl ?_
      cases H
      exact z_vret (M := M_X12_set) dX12_set_76 rfl (Nat.le_of_ble_eq_true rfl) (Nat.le_of_ble_eq_true rfl) ⟨rfl, rfl⟩
    refine z_lload_n (M := M_X12_set) dX12_set_59 rfl ?_
    refine z_lconst (M := M_X12_set) (m := 0) dX12_set_60 (by decide +kernel) ?_
    refine z_lcmp (M := M_X12_set) dX12_set_61 ?_
    by_cases h_13 : (w64 v_0) < 0
    · refine z_lif_ge_f (M := M_X12_set) (tgt := 69) dX12_set_62 (by decide) rfl (by decide +kernel) h_13 ?_
      refine z_iconst (M := M_X12_set) dX12_set_65 ?_
      refine z_goto (M := M_X12_set) (tgt := 70) dX12_set_66 (by decide) ?_
      exact z_st (by rw [if_pos (c := (w64 v_0) < 0) h_13]) J_8
    · refine z_lif_ge_t (M := M_X12_set) (tgt := 69) dX12_set_62 (by decide) rfl (by decide +kernel) (Int.not_lt.mp h_13) ?_
      refine z_iconst (M := M_X12_set) dX12_set_69 ?_
      exact z_st (by rw [if_neg (c := (w64 v_0) < 0) h_13]) J_8
  refine z_lload_n (M := M_X12_set) dX12_set_0 rfl ?_
  refine z_lconst (M := M_X12_set) (m := 0) dX12_set_1 (by decide +kernel) ?_
  refine z_lcmp (M := M_X12_set) dX12_set_2 ?_
  by_cases h_14 : (w64 v_0) < 0
  · refine z_lif_ge_f (M := M_X12_set) (tgt := 11) dX12_set_3 (by decide) rfl (by decide +kernel) h_14 ?_
    refine z_lload_n (M := M_X12_set) dX12_set_6 rfl ?_
    refine z_lneg (M := M_X12_set) dX12_set_7 ?_
    refine z_goto (M := M_X12_set) (tgt := 12) dX12_set_8 (by decide) ?_
    exact z_st (by rw [if_pos (c := (w64 v_0) < 0) h_14]) J_1
  · refine z_lif_ge_t (M := M_X12_set) (tgt := 11) dX12_set_3 (by decide) rfl (by decide +kernel) (Int.not_lt.mp h_14) ?_
    refine z_lload_n (M := M_X12_set) dX12_set_11 rfl ?_
    exact z_st (by rw [if_neg (c := (w64 v_0) < 0) h_14]) J_1
theorem c_X12_limb (hl : l.stackTraces = false) {σ : SG} {r_0 : Int} {k_0 : Int} {r : Int}  (H : fR_limb σ r_0 k_0 = some r) : en_S l E M_X12_limb 1 0 0 [vr 277, vi r_0, vi k_0] σ (pS (some (vl r)) σ) := by
  unfold fR_limb at H
  refine z_mk (lv := [some (vr 277), some (vi r_0), some (vi k_0)]) m_X12_limb rfl hl (Nat.le_of_ble_eq_true rfl) rfl ?_
  obtain ⟨v_9, he_10, hk_11⟩ := bd_e H
  have J_12 : ∀ x_8, v_9 = x_8 → YY l E M_X12_limb 1 0 0 (pS (some (vl r)) σ) 26 [some (vr 277), some (vi r_0), some (vi k_0)] [vl x_8] σ 0 0 := by
    intro x_8 e
    have H := hk_11
    rw [e] at H
    cases H
    exact z_lret (M := M_X12_limb) dX12_limb_26 rfl (Nat.le_of_ble_eq_true rfl) (Nat.le_of_ble_eq_true rfl) ⟨rfl, rfl⟩
  have H := he_10
  refine z_iload_n (M := M_X12_limb) dX12_limb_0 rfl ?_
  refine z_aload_n (M := M_X12_limb) dX12_limb_1 rfl ?_
  refine z_getR (M := M_X12_limb) (ci := 15) (C := RX12) (T := TX12) (Nf := 135) (ty := tyX12) cl15 dX12_limb_2 ly_277 37 (by decide) t_2428 rfl ?_
  refine z_iload_n (M := M_X12_limb) dX12_limb_5 rfl ?_
  obtain ⟨x_1, x_1_e, hi_2, H⟩ := rd_e H
  refine z_iald (M := M_X12_limb) dX12_limb_6 ly_295 rfl rfl rfl hi_2 x_1_e ?_
  rcases if_e H with ⟨h_3, H⟩ | ⟨h_3, H⟩
  · refine z_icmp_ge_f (M := M_X12_limb) (tgt := 25) dX12_limb_7 (by decide) rfl rfl h_3 ?_
    refine z_aload_n (M := M_X12_limb) dX12_limb_10 rfl ?_
    refine z_getR (M := M_X12_limb) (ci := 15) (C := RX12) (T := TX12) (Nf := 135) (ty := tyX12) cl15 dX12_limb_11 ly_277 36 (by decide) t_2427 rfl ?_
    refine z_sipush (M := M_X12_limb) dX12_limb_14 (by decide +kernel) ?_
    refine z_iload_n (M := M_X12_limb) dX12_limb_17 rfl ?_
    refine z_imul (M := M_X12_limb) dX12_limb_18 ?_
    refine z_iload_n (M := M_X12_limb) dX12_limb_19 rfl ?_
    refine z_iadd (M := M_X12_limb) dX12_limb_20 ?_
    obtain ⟨x_4, x_4_e, hi_5, H⟩ := rd_e H
    refine z_lald (M := M_X12_limb) dX12_limb_21 ly_294 rfl rfl rfl hi_5 x_4_e ?_
    refine z_goto (M := M_X12_limb) (tgt := 26) dX12_limb_22 (by decide) ?_
    exact J_12 _ (Option.some.inj H).symm
  · refine z_icmp_ge_t (M := M_X12_limb) (tgt := 25) dX12_limb_7 (by decide) rfl rfl (Int.not_lt.mp h_3) ?_
    refine z_lconst (M := M_X12_limb) (m := 0) dX12_limb_25 (by decide +kernel) ?_
    exact J_12 _ (Option.some.inj H).symm
theorem c_X12_sizes (hl : l.stackTraces = false) {σ : SG} {a_0 : Int} {b_0 : Int} {r : Int}  (H : fR_sizes σ a_0 b_0 = some r) : en_S l E M_X12_sizes 1 0 0 [vr 277, vi a_0, vi b_0] σ (pS (some (vi r)) σ) := by
  unfold fR_sizes at H
  refine z_mk (lv := [some (vr 277), some (vi a_0), some (vi b_0), none]) m_X12_sizes rfl hl (Nat.le_of_ble_eq_true rfl) rfl ?_
  refine z_aload_n (M := M_X12_sizes) dX12_sizes_0 rfl ?_
  refine z_getR (M := M_X12_sizes) (ci := 15) (C := RX12) (T := TX12) (Nf := 135) (ty := tyX12) cl15 dX12_sizes_1 ly_277 37 (by decide) t_2428 rfl ?_
  refine z_iload_n (M := M_X12_sizes) dX12_sizes_4 rfl ?_
  obtain ⟨x_1, x_1_e, hi_2, H⟩ := rd_e H
  refine z_iald (M := M_X12_sizes) dX12_sizes_5 ly_295 rfl rfl rfl hi_2 x_1_e ?_
  refine z_aload_n (M := M_X12_sizes) dX12_sizes_6 rfl ?_
  refine z_getR (M := M_X12_sizes) (ci := 15) (C := RX12) (T := TX12) (Nf := 135) (ty := tyX12) cl15 dX12_sizes_7 ly_277 37 (by decide) t_2428 rfl ?_
  refine z_iload_n (M := M_X12_sizes) dX12_sizes_10 rfl ?_
  obtain ⟨x_3, x_3_e, hi_4, H⟩ := rd_e H
  refine z_iald (M := M_X12_sizes) dX12_sizes_11 ly_295 rfl rfl rfl hi_4 x_3_e ?_
  rcases if_e H with ⟨h_5, H⟩ | ⟨h_5, H⟩
  · refine z_icmp_eq_f (M := M_X12_sizes) (tgt := 36) dX12_sizes_12 (by decide) rfl rfl h_5 ?_
    obtain ⟨v_14, he_15, hk_16⟩ := bd_e H
    have J_17 : ∀ x_13, v_14 = x_13 → YY l E M_X12_sizes 1 0 0 (pS (some (vi r)) σ) 35 [some (vr 277), some (vi a_0), some (vi b_0), none] [vi x_13] σ 0 0 := by
      intro x_13 e
      have H := hk_16
      rw [e] at H
      cases H
      exact z_iret (M := M_X12_sizes) dX12_sizes_35 rfl (Nat.le_of_ble_eq_true rfl) (Nat.le_of_ble_eq_true rfl) ⟨rfl, rfl⟩
    have H := he_15
    refine z_aload_n (M := M_X12_sizes) dX12_sizes_15 rfl ?_
    refine z_getR (M := M_X12_sizes) (ci := 15) (C := RX12) (T := TX12) (Nf := 135) (ty := tyX12) cl15 dX12_sizes_16 ly_277 37 (by decide) t_2428 rfl ?_
    refine z_iload_n (M := M_X12_sizes) dX12_sizes_19 rfl ?_
    obtain ⟨x_6, x_6_e, hi_7, H⟩ := rd_e H
    refine z_iald (M := M_X12_sizes) dX12_sizes_20 ly_295 rfl rfl rfl hi_7 x_6_e ?_
    refine z_aload_n (M := M_X12_sizes) dX12_sizes_21 rfl ?_
    refine z_getR (M := M_X12_sizes) (ci := 15) (C := RX12) (T := TX12) (Nf := 135) (ty := tyX12) cl15 dX12_sizes_22 ly_277 37 (by decide) t_2428 rfl ?_
    refine z_iload_n (M := M_X12_sizes) dX12_sizes_25 rfl ?_
    obtain ⟨x_8, x_8_e, hi_9, H⟩ := rd_e H
    refine z_iald (M := M_X12_sizes) dX12_sizes_26 ly_295 rfl rfl rfl hi_9 x_8_e ?_
    rcases if_e H with ⟨h_10, H⟩ | ⟨h_10, H⟩
    · refine z_icmp_ge_f (M := M_X12_sizes) (tgt := 34) dX12_sizes_27 (by decide) rfl rfl h_10 ?_
      refine z_iconst (M := M_X12_sizes) dX12_sizes_30 ?_
      refine z_goto (M := M_X12_sizes) (tgt := 35) dX12_sizes_31 (by decide) ?_
      exact J_17 _ (Option.some.inj H).symm
    · refine z_icmp_ge_t (M := M_X12_sizes) (tgt := 34) dX12_sizes_27 (by decide) rfl rfl (Int.not_lt.mp h_10) ?_
      refine z_iconst (M := M_X12_sizes) dX12_sizes_34 ?_
      exact J_17 _ (Option.some.inj H).symm
  · refine z_icmp_eq_t (M := M_X12_sizes) (tgt := 36) dX12_sizes_12 (by decide) rfl rfl (Decidable.not_not.mp h_5) ?_
    refine z_aload_n (M := M_X12_sizes) dX12_sizes_36 rfl ?_
    refine z_getR (M := M_X12_sizes) (ci := 15) (C := RX12) (T := TX12) (Nf := 135) (ty := tyX12) cl15 dX12_sizes_37 ly_277 37 (by decide) t_2428 rfl ?_
    refine z_iload_n (M := M_X12_sizes) dX12_sizes_40 rfl ?_
    obtain ⟨x_18, x_18_e, hi_19, H⟩ := rd_e H
    refine z_iald (M := M_X12_sizes) dX12_sizes_41 ly_295 rfl rfl rfl hi_19 x_18_e ?_
    refine z_iconst (M := M_X12_sizes) dX12_sizes_42 ?_
    refine z_isub (M := M_X12_sizes) dX12_sizes_43 ?_
    refine z_istore_n (M := M_X12_sizes) (lv' := [some (vr 277), some (vi a_0), some (vi b_0), some (vi (x_18 - 1))]) dX12_sizes_44 (Nat.le_of_ble_eq_true rfl) rfl rfl ?_
    obtain ⟨rl_24, hw_21, hk_22⟩ := bd_e H
    have J_80 : ∀ k_47, rl_24 = k_47 → YY l E M_X12_sizes 1 0 0 (pS (some (vi r)) σ) 83 [some (vr 277), some (vi a_0), some (vi b_0), some (vi k_47)] [] σ 0 0 := by
      intro k_47 e
      have H := hk_22
      rw [e] at H
      obtain ⟨v_76, he_77, hk_78⟩ := bd_e H
      have J_79 : ∀ x_75, v_76 = x_75 → YY l E M_X12_sizes 1 0 0 (pS (some (vi r)) σ) 124 [some (vr 277), some (vi a_0), some (vi b_0), some (vi k_47)] [vi x_75] σ 0 0 := by
        intro x_75 e
        have H := hk_78
        rw [e] at H
        cases H
        exact z_iret (M := M_X12_sizes) dX12_sizes_124 rfl (Nat.le_of_ble_eq_true rfl) (Nat.le_of_ble_eq_true rfl) ⟨rfl, rfl⟩
      have H := he_77
      refine z_iload_n (M := M_X12_sizes) dX12_sizes_83 rfl ?_
      rcases if_e H with ⟨h_60, H⟩ | ⟨h_60, H⟩
      · refine z_if_ge_f (M := M_X12_sizes) (tgt := 91) dX12_sizes_84 (by decide) rfl h_60 ?_
        refine z_iconst (M := M_X12_sizes) dX12_sizes_87 ?_
        refine z_goto (M := M_X12_sizes) (tgt := 124) dX12_sizes_88 (by decide) ?_
        exact J_79 _ (Option.some.inj H).symm
      · refine z_if_ge_t (M := M_X12_sizes) (tgt := 91) dX12_sizes_84 (by decide) rfl (Int.not_lt.mp h_60) ?_
        obtain ⟨v_71, he_72, hk_73⟩ := bd_e H
        have J_74 : ∀ x_69, v_71 = x_69 → YY l E M_X12_sizes 1 0 0 (pS (some (vi r)) σ) 124 [some (vr 277), some (vi a_0), some (vi b_0), some (vi k_47)] [vi x_69] σ 0 0 := by
          intro x_69 e
          have H := hk_73
          rw [e] at H
          exact J_79 _ (Option.some.inj H).symm
        have H := he_72
        refine z_aload_n (M := M_X12_sizes) dX12_sizes_91 rfl ?_
        refine z_getR (M := M_X12_sizes) (ci := 15) (C := RX12) (T := TX12) (Nf := 135) (ty := tyX12) cl15 dX12_sizes_92 ly_277 36 (by decide) t_2427 rfl ?_
        refine z_sipush (M := M_X12_sizes) dX12_sizes_95 (by decide +kernel) ?_
        refine z_iload_n (M := M_X12_sizes) dX12_sizes_98 rfl ?_
        refine z_imul (M := M_X12_sizes) dX12_sizes_99 ?_
        refine z_iload_n (M := M_X12_sizes) dX12_sizes_100 rfl ?_
        refine z_iadd (M := M_X12_sizes) dX12_sizes_101 ?_
        obtain ⟨x_62, x_62_e, hi_63, H⟩ := rd_e H
        refine z_lald (M := M_X12_sizes) dX12_sizes_102 ly_294 rfl rfl rfl hi_63 x_62_e ?_
        refine z_aload_n (M := M_X12_sizes) dX12_sizes_103 rfl ?_
        refine z_getR (M := M_X12_sizes) (ci := 15) (C := RX12) (T := TX12) (Nf := 135) (ty := tyX12) cl15 dX12_sizes_104 ly_277 36 (by decide) t_2427 rfl ?_
        refine z_sipush (M := M_X12_sizes) dX12_sizes_107 (by decide +kernel) ?_
        refine z_iload_n (M := M_X12_sizes) dX12_sizes_110 rfl ?_
        refine z_imul (M := M_X12_sizes) dX12_sizes_111 ?_
        refine z_iload_n (M := M_X12_sizes) dX12_sizes_112 rfl ?_
        refine z_iadd (M := M_X12_sizes) dX12_sizes_113 ?_
        obtain ⟨x_64, x_64_e, hi_65, H⟩ := rd_e H
        refine z_lald (M := M_X12_sizes) dX12_sizes_114 ly_294 rfl rfl rfl hi_65 x_64_e ?_
        refine z_lcmp (M := M_X12_sizes) dX12_sizes_115 ?_
        rcases if_e H with ⟨h_66, H⟩ | ⟨h_66, H⟩
        · refine z_lif_ge_f (M := M_X12_sizes) (tgt := 123) dX12_sizes_116 (by decide) rfl rfl h_66 ?_
          refine z_iconst (M := M_X12_sizes) dX12_sizes_119 ?_
          refine z_goto (M := M_X12_sizes) (tgt := 124) dX12_sizes_120 (by decide) ?_
          exact J_74 _ (Option.some.inj H).symm
        · refine z_lif_ge_t (M := M_X12_sizes) (tgt := 123) dX12_sizes_116 (by decide) rfl rfl (Int.not_lt.mp h_66) ?_
          refine z_iconst (M := M_X12_sizes) dX12_sizes_123 ?_
          exact J_74 _ (Option.some.inj H).symm
    refine whl_go hw_21 (fun k_20 => YY l E M_X12_sizes 1 0 0 (pS (some (vi r)) σ) 45 [some (vr 277), some (vi a_0), some (vi b_0), some (vi k_20)] [] σ 0 0) ?_
    rintro k_20 o_25 H K_26 K_27
    refine z_iload_n (M := M_X12_sizes) dX12_sizes_45 rfl ?_
    rcases if_e H with ⟨h_38, H⟩ | ⟨h_38, H⟩
    · refine z_if_lt_f (M := M_X12_sizes) (tgt := 83) dX12_sizes_46 (by decide) rfl h_38 ?_
      refine z_aload_n (M := M_X12_sizes) dX12_sizes_49 rfl ?_
      refine z_getR (M := M_X12_sizes) (ci := 15) (C := RX12) (T := TX12) (Nf := 135) (ty := tyX12) cl15 dX12_sizes_50 ly_277 36 (by decide) t_2427 rfl ?_
      refine z_sipush (M := M_X12_sizes) dX12_sizes_53 (by decide +kernel) ?_
      refine z_iload_n (M := M_X12_sizes) dX12_sizes_56 rfl ?_
      refine z_imul (M := M_X12_sizes) dX12_sizes_57 ?_
      refine z_iload_n (M := M_X12_sizes) dX12_sizes_58 rfl ?_
      refine z_iadd (M := M_X12_sizes) dX12_sizes_59 ?_
      obtain ⟨x_39, x_39_e, hi_40, H⟩ := rd_e H
      refine z_lald (M := M_X12_sizes) dX12_sizes_60 ly_294 rfl rfl rfl hi_40 x_39_e ?_
      refine z_aload_n (M := M_X12_sizes) dX12_sizes_61 rfl ?_
      refine z_getR (M := M_X12_sizes) (ci := 15) (C := RX12) (T := TX12) (Nf := 135) (ty := tyX12) cl15 dX12_sizes_62 ly_277 36 (by decide) t_2427 rfl ?_
      refine z_sipush (M := M_X12_sizes) dX12_sizes_65 (by decide +kernel) ?_
      refine z_iload_n (M := M_X12_sizes) dX12_sizes_68 rfl ?_
      refine z_imul (M := M_X12_sizes) dX12_sizes_69 ?_
      refine z_iload_n (M := M_X12_sizes) dX12_sizes_70 rfl ?_
      refine z_iadd (M := M_X12_sizes) dX12_sizes_71 ?_
      obtain ⟨x_41, x_41_e, hi_42, H⟩ := rd_e H
      refine z_lald (M := M_X12_sizes) dX12_sizes_72 ly_294 rfl rfl rfl hi_42 x_41_e ?_
      refine z_lcmp (M := M_X12_sizes) dX12_sizes_73 ?_
      rcases if_e H with ⟨h_43, H⟩ | ⟨h_43, H⟩
      · refine z_lif_ne_f (M := M_X12_sizes) (tgt := 83) dX12_sizes_74 (by decide) rfl rfl h_43 ?_
        refine z_iinc (M := M_X12_sizes) (lv' := [some (vr 277), some (vi a_0), some (vi b_0), some (vi (k_20 + (-1)))]) dX12_sizes_77 rfl (Nat.le_of_ble_eq_true rfl) rfl rfl ?_
        refine z_goto (M := M_X12_sizes) (tgt := 45) dX12_sizes_80 (by decide) ?_
        exact K_26 _ (Option.some.inj H).symm
      · refine z_lif_ne_t (M := M_X12_sizes) (tgt := 83) dX12_sizes_74 (by decide) rfl rfl h_43 ?_
        exact J_80 _ (K_27 _ (Option.some.inj H).symm).symm
    · refine z_if_lt_t (M := M_X12_sizes) (tgt := 83) dX12_sizes_46 (by decide) rfl (Int.not_le.mp h_38) ?_
      exact J_80 _ (K_27 _ (Option.some.inj H).symm).symm
theorem c_X12_addSizes (hl : l.stackTraces = false) {σ : SG} {to_0 : Int} {a_0 : Int} {b_0 : Int} {σ' : SG}  (H : fR_addSizes σ to_0 a_0 b_0 = some σ') : en_S l E M_X12_addSizes 2 0 0 [vr 277, vi to_0, vi a_0, vi b_0] σ (pS (none) σ') := by
  unfold fR_addSizes at H
  refine z_mk (lv := [some (vr 277), some (vi to_0), some (vi a_0), some (vi b_0), none, none, none, none]) m_X12_addSizes rfl hl (Nat.le_of_ble_eq_true rfl) rfl ?_
  obtain ⟨v_38, he_39, hk_40⟩ := bd_e H
  have J_41 : ∀ x_12, v_38 = x_12 → YY l E M_X12_addSizes 2 0 0 (pS (none) σ') 30 [some (vr 277), some (vi to_0), some (vi a_0), some (vi b_0), none, none, none, none] [vi x_12] σ 0 0 := by
    intro x_12 e
    have H := hk_40
    rw [e] at H
    refine z_iconst (M := M_X12_addSizes) dX12_addSizes_30 ?_
    refine z_iadd (M := M_X12_addSizes) dX12_addSizes_31 ?_
    refine z_istore (M := M_X12_addSizes) (lv' := [some (vr 277), some (vi to_0), some (vi a_0), some (vi b_0), some (vi (x_12 + 1)), none, none, none]) dX12_addSizes_32 (Nat.le_of_ble_eq_true rfl) rfl rfl ?_
    refine z_lconst (M := M_X12_addSizes) (m := 0) dX12_addSizes_34 (by decide +kernel) ?_
    refine z_lstore (M := M_X12_addSizes) (lv' := [some (vr 277), some (vi to_0), some (vi a_0), some (vi b_0), some (vi (x_12 + 1)), some (vl 0), none, none]) dX12_addSizes_35 (Nat.le_of_ble_eq_true rfl) rfl rfl ?_
    refine z_iconst (M := M_X12_addSizes) dX12_addSizes_37 ?_
    refine z_istore (M := M_X12_addSizes) (lv' := [some (vr 277), some (vi to_0), some (vi a_0), some (vi b_0), some (vi (x_12 + 1)), some (vl 0), none, some (vi 0)]) dX12_addSizes_38 (Nat.le_of_ble_eq_true rfl) rfl rfl ?_
    obtain ⟨rl_19, hw_16, hk_17⟩ := bd_e H
    have J_37 : ∀ carry_32 k_33 σ_34, rl_19 = (carry_32, k_33, σ_34) → YY l E M_X12_addSizes 2 0 0 (pS (none) σ') 99 [some (vr 277), some (vi to_0), some (vi a_0), some (vi b_0), some (vi (x_12 + 1)), some (vl carry_32), none, some (vi k_33)] [] σ_34 0 0 := by
      intro carry_32 k_33 σ_34 e
      have H := hk_17
      rw [e] at H
      refine z_aload_n (M := M_X12_addSizes) dX12_addSizes_99 rfl ?_
      refine z_getR (M := M_X12_addSizes) (ci := 15) (C := RX12) (T := TX12) (Nf := 135) (ty := tyX12) cl15 dX12_addSizes_100 ly_277 37 (by decide) t_2428 rfl ?_
      refine z_iload_n (M := M_X12_addSizes) dX12_addSizes_103 rfl ?_
      refine z_iload (M := M_X12_addSizes) dX12_addSizes_104 rfl ?_
      obtain ⟨σ_35, σ_35_e, hi_36, H⟩ := wa_e H
      refine z_iast (M := M_X12_addSizes) dX12_addSizes_106 ly_295 rfl rfl rfl hi_36 σ_35_e ?_
      cases H
      exact z_vret (M := M_X12_addSizes) dX12_addSizes_107 rfl (Nat.le_of_ble_eq_true rfl) (Nat.le_of_ble_eq_true rfl) ⟨rfl, rfl⟩
    refine whl_go hw_16 (fun (carry_13, k_14, σ_15) => YY l E M_X12_addSizes 2 0 0 (pS (none) σ') 40 [some (vr 277), some (vi to_0), some (vi a_0), some (vi b_0), some (vi (x_12 + 1)), some (vl carry_13), none, some (vi k_14)] [] σ_15 0 0) ?_
    rintro ⟨carry_13, k_14, σ_15⟩ o_20 H K_21 K_22
    refine z_iload (M := M_X12_addSizes) dX12_addSizes_40 rfl ?_
    refine z_iload (M := M_X12_addSizes) dX12_addSizes_42 rfl ?_
    rcases if_e H with ⟨h_23, H⟩ | ⟨h_23, H⟩
    · refine z_icmp_ge_f (M := M_X12_addSizes) (tgt := 99) dX12_addSizes_44 (by decide) rfl rfl h_23 ?_
      refine z_lload (M := M_X12_addSizes) dX12_addSizes_47 rfl ?_
      refine z_aload_n (M := M_X12_addSizes) dX12_addSizes_49 rfl ?_
      refine z_iload_n (M := M_X12_addSizes) dX12_addSizes_50 rfl ?_
      refine z_iload (M := M_X12_addSizes) dX12_addSizes_51 rfl ?_
      obtain ⟨x_25, hc_24, H⟩ := bd_e H
      refine z_callV (M := M_X12_addSizes) (M' := M_X12_limb) (as := [vi a_0, vi k_14]) (rest := [vl carry_13]) rfl rfl dX12_addSizes_53 m_X12_limb t_3182 t_3184 s_216 (c_X12_limb hl  hc_24) rfl rfl ly_277 rfl (Nat.le_of_ble_eq_true rfl) (Nat.le_of_ble_eq_true rfl) (Nat.le_of_ble_eq_true rfl) (Nat.le_of_ble_eq_true rfl) ?_
      refine z_st (st' := [vl x_25, vl carry_13]) rfl ?_
      refine z_aload_n (M := M_X12_addSizes) dX12_addSizes_56 rfl ?_
      refine z_iload_n (M := M_X12_addSizes) dX12_addSizes_57 rfl ?_
      refine z_iload (M := M_X12_addSizes) dX12_addSizes_58 rfl ?_
      obtain ⟨x_27, hc_26, H⟩ := bd_e H
      refine z_callV (M := M_X12_addSizes) (M' := M_X12_limb) (as := [vi b_0, vi k_14]) (rest := [vl x_25, vl carry_13]) rfl rfl dX12_addSizes_60 m_X12_limb t_3182 t_3184 s_216 (c_X12_limb hl  hc_26) rfl rfl ly_277 rfl (Nat.le_of_ble_eq_true rfl) (Nat.le_of_ble_eq_true rfl) (Nat.le_of_ble_eq_true rfl) (Nat.le_of_ble_eq_true rfl) ?_
      refine z_st (st' := [vl x_27, vl x_25, vl carry_13]) rfl ?_
      refine z_ladd (M := M_X12_addSizes) dX12_addSizes_63 ?_
      refine z_ladd (M := M_X12_addSizes) dX12_addSizes_64 ?_
      refine z_lstore (M := M_X12_addSizes) (lv' := [some (vr 277), some (vi to_0), some (vi a_0), some (vi b_0), some (vi (x_12 + 1)), some (vl (carry_13 + (x_25 + x_27))), none, some (vi k_14)]) dX12_addSizes_65 (Nat.le_of_ble_eq_true rfl) rfl rfl ?_
      refine z_aload_n (M := M_X12_addSizes) dX12_addSizes_67 rfl ?_
      refine z_getR (M := M_X12_addSizes) (ci := 15) (C := RX12) (T := TX12) (Nf := 135) (ty := tyX12) cl15 dX12_addSizes_68 ly_277 36 (by decide) t_2427 rfl ?_
      refine z_sipush (M := M_X12_addSizes) dX12_addSizes_71 (by decide +kernel) ?_
      refine z_iload_n (M := M_X12_addSizes) dX12_addSizes_74 rfl ?_
      refine z_imul (M := M_X12_addSizes) dX12_addSizes_75 ?_
      refine z_iload (M := M_X12_addSizes) dX12_addSizes_76 rfl ?_
      refine z_iadd (M := M_X12_addSizes) dX12_addSizes_78 ?_
      refine z_lload (M := M_X12_addSizes) dX12_addSizes_79 rfl ?_
      refine z_ldc2 (M := M_X12_addSizes) (n := 4294967295) dX12_addSizes_81 t_3169 (by decide +kernel) ?_
      refine z_land (M := M_X12_addSizes) dX12_addSizes_84 ?_
      obtain ⟨σ_28, σ_28_e, hi_29, H⟩ := wa_e H
      refine z_last (M := M_X12_addSizes) dX12_addSizes_85 ly_294 rfl rfl rfl hi_29 σ_28_e ?_
      refine z_lload (M := M_X12_addSizes) dX12_addSizes_86 rfl ?_
      refine z_bipush (M := M_X12_addSizes) dX12_addSizes_88 (by decide +kernel) ?_
      refine z_lushr (M := M_X12_addSizes) dX12_addSizes_90 ?_
      refine z_lstore (M := M_X12_addSizes) (lv' := [some (vr 277), some (vi to_0), some (vi a_0), some (vi b_0), some (vi (x_12 + 1)), some (vl (q_lus (carry_13 + (x_25 + x_27)) 32)), none, some (vi k_14)]) dX12_addSizes_91 (Nat.le_of_ble_eq_true rfl) rfl rfl ?_
      refine z_iinc (M := M_X12_addSizes) (lv' := [some (vr 277), some (vi to_0), some (vi a_0), some (vi b_0), some (vi (x_12 + 1)), some (vl (q_lus (carry_13 + (x_25 + x_27)) 32)), none, some (vi (k_14 + 1))]) dX12_addSizes_93 rfl (Nat.le_of_ble_eq_true rfl) rfl rfl ?_
      refine z_goto (M := M_X12_addSizes) (tgt := 40) dX12_addSizes_96 (by decide) ?_
      exact K_21 _ (Option.some.inj H).symm
    · refine z_icmp_ge_t (M := M_X12_addSizes) (tgt := 99) dX12_addSizes_44 (by decide) rfl rfl (Int.not_lt.mp h_23) ?_
      exact J_37 _ _ _ (K_22 _ (Option.some.inj H).symm).symm
  have H := he_39
  refine z_aload_n (M := M_X12_addSizes) dX12_addSizes_0 rfl ?_
  refine z_getR (M := M_X12_addSizes) (ci := 15) (C := RX12) (T := TX12) (Nf := 135) (ty := tyX12) cl15 dX12_addSizes_1 ly_277 37 (by decide) t_2428 rfl ?_
  refine z_iload_n (M := M_X12_addSizes) dX12_addSizes_4 rfl ?_
  obtain ⟨x_1, x_1_e, hi_2, H⟩ := rd_e H
  refine z_iald (M := M_X12_addSizes) dX12_addSizes_5 ly_295 rfl rfl rfl hi_2 x_1_e ?_
  refine z_aload_n (M := M_X12_addSizes) dX12_addSizes_6 rfl ?_
  refine z_getR (M := M_X12_addSizes) (ci := 15) (C := RX12) (T := TX12) (Nf := 135) (ty := tyX12) cl15 dX12_addSizes_7 ly_277 37 (by decide) t_2428 rfl ?_
  refine z_iload_n (M := M_X12_addSizes) dX12_addSizes_10 rfl ?_
  obtain ⟨x_3, x_3_e, hi_4, H⟩ := rd_e H
  refine z_iald (M := M_X12_addSizes) dX12_addSizes_11 ly_295 rfl rfl rfl hi_4 x_3_e ?_
  rcases if_e H with ⟨h_5, H⟩ | ⟨h_5, H⟩
  · refine z_icmp_le_f (M := M_X12_addSizes) (tgt := 24) dX12_addSizes_12 (by decide) rfl rfl h_5 ?_
    refine z_aload_n (M := M_X12_addSizes) dX12_addSizes_15 rfl ?_
    refine z_getR (M := M_X12_addSizes) (ci := 15) (C := RX12) (T := TX12) (Nf := 135) (ty := tyX12) cl15 dX12_addSizes_16 ly_277 37 (by decide) t_2428 rfl ?_
    refine z_iload_n (M := M_X12_addSizes) dX12_addSizes_19 rfl ?_
    obtain ⟨x_6, x_6_e, hi_7, H⟩ := rd_e H
    refine z_iald (M := M_X12_addSizes) dX12_addSizes_20 ly_295 rfl rfl rfl hi_7 x_6_e ?_
    refine z_goto (M := M_X12_addSizes) (tgt := 30) dX12_addSizes_21 (by decide) ?_
    exact J_41 _ (Option.some.inj H).symm
  · refine z_icmp_le_t (M := M_X12_addSizes) (tgt := 24) dX12_addSizes_12 (by decide) rfl rfl (Int.not_lt.mp h_5) ?_
    refine z_aload_n (M := M_X12_addSizes) dX12_addSizes_24 rfl ?_
    refine z_getR (M := M_X12_addSizes) (ci := 15) (C := RX12) (T := TX12) (Nf := 135) (ty := tyX12) cl15 dX12_addSizes_25 ly_277 37 (by decide) t_2428 rfl ?_
    refine z_iload_n (M := M_X12_addSizes) dX12_addSizes_28 rfl ?_
    obtain ⟨x_9, x_9_e, hi_10, H⟩ := rd_e H
    refine z_iald (M := M_X12_addSizes) dX12_addSizes_29 ly_295 rfl rfl rfl hi_10 x_9_e ?_
    exact J_41 _ (Option.some.inj H).symm
theorem c_X12_lessSizes (hl : l.stackTraces = false) {σ : SG} {to_0 : Int} {a_0 : Int} {b_0 : Int} {σ' : SG}  (H : fR_lessSizes σ to_0 a_0 b_0 = some σ') : en_S l E M_X12_lessSizes 2 0 0 [vr 277, vi to_0, vi a_0, vi b_0] σ (pS (none) σ') := by
  unfold fR_lessSizes at H
  refine z_mk (lv := [some (vr 277), some (vi to_0), some (vi a_0), some (vi b_0), none, none, none, none, none, none]) m_X12_lessSizes rfl hl (Nat.le_of_ble_eq_true rfl) rfl ?_
  refine z_aload_n (M := M_X12_lessSizes) dX12_lessSizes_0 rfl ?_
  refine z_getR (M := M_X12_lessSizes) (ci := 15) (C := RX12) (T := TX12) (Nf := 135) (ty := tyX12) cl15 dX12_lessSizes_1 ly_277 37 (by decide) t_2428 rfl ?_
  refine z_iload_n (M := M_X12_lessSizes) dX12_lessSizes_4 rfl ?_
  obtain ⟨x_1, x_1_e, hi_2, H⟩ := rd_e H
  refine z_iald (M := M_X12_lessSizes) dX12_lessSizes_5 ly_295 rfl rfl rfl hi_2 x_1_e ?_
  refine z_istore (M := M_X12_lessSizes) (lv' := [some (vr 277), some (vi to_0), some (vi a_0), some (vi b_0), some (vi x_1), none, none, none, none, none]) dX12_lessSizes_6 (Nat.le_of_ble_eq_true rfl) rfl rfl ?_
  refine z_lconst (M := M_X12_lessSizes) (m := 0) dX12_lessSizes_8 (by decide +kernel) ?_
  refine z_lstore (M := M_X12_lessSizes) (lv' := [some (vr 277), some (vi to_0), some (vi a_0), some (vi b_0), some (vi x_1), some (vl 0), none, none, none, none]) dX12_lessSizes_9 (Nat.le_of_ble_eq_true rfl) rfl rfl ?_
  refine z_iconst (M := M_X12_lessSizes) dX12_lessSizes_11 ?_
  refine z_istore (M := M_X12_lessSizes) (lv' := [some (vr 277), some (vi to_0), some (vi a_0), some (vi b_0), some (vi x_1), some (vl 0), none, some (vi 0), none, none]) dX12_lessSizes_12 (Nat.le_of_ble_eq_true rfl) rfl rfl ?_
  obtain ⟨rl_9, hw_6, hk_7⟩ := bd_e H
  have J_29 : ∀ carry_24 k_25 σ_26, rl_9 = (carry_24, k_25, σ_26) → YY l E M_X12_lessSizes 2 0 0 (pS (none) σ') 80 [some (vr 277), some (vi to_0), some (vi a_0), some (vi b_0), some (vi x_1), some (vl carry_24), none, some (vi k_25), none, none] [] σ_26 0 0 := by
    intro carry_24 k_25 σ_26 e
    have H := hk_7
    rw [e] at H
    refine z_aload_n (M := M_X12_lessSizes) dX12_lessSizes_80 rfl ?_
    refine z_getR (M := M_X12_lessSizes) (ci := 15) (C := RX12) (T := TX12) (Nf := 135) (ty := tyX12) cl15 dX12_lessSizes_81 ly_277 37 (by decide) t_2428 rfl ?_
    refine z_iload_n (M := M_X12_lessSizes) dX12_lessSizes_84 rfl ?_
    refine z_iload (M := M_X12_lessSizes) dX12_lessSizes_85 rfl ?_
    obtain ⟨σ_27, σ_27_e, hi_28, H⟩ := wa_e H
    refine z_iast (M := M_X12_lessSizes) dX12_lessSizes_87 ly_295 rfl rfl rfl hi_28 σ_27_e ?_
    cases H
    exact z_vret (M := M_X12_lessSizes) dX12_lessSizes_88 rfl (Nat.le_of_ble_eq_true rfl) (Nat.le_of_ble_eq_true rfl) ⟨rfl, rfl⟩
  refine whl_go hw_6 (fun (carry_3, k_4, σ_5) => YY l E M_X12_lessSizes 2 0 0 (pS (none) σ') 14 [some (vr 277), some (vi to_0), some (vi a_0), some (vi b_0), some (vi x_1), some (vl carry_3), none, some (vi k_4), none, none] [] σ_5 0 0) ?_
  rintro ⟨carry_3, k_4, σ_5⟩ o_10 H K_11 K_12
  refine z_iload (M := M_X12_lessSizes) dX12_lessSizes_14 rfl ?_
  refine z_iload (M := M_X12_lessSizes) dX12_lessSizes_16 rfl ?_
  rcases if_e H with ⟨h_13, H⟩ | ⟨h_13, H⟩
  · refine z_icmp_ge_f (M := M_X12_lessSizes) (tgt := 80) dX12_lessSizes_18 (by decide) rfl rfl h_13 ?_
    refine z_aload_n (M := M_X12_lessSizes) dX12_lessSizes_21 rfl ?_
    refine z_iload_n (M := M_X12_lessSizes) dX12_lessSizes_22 rfl ?_
    refine z_iload (M := M_X12_lessSizes) dX12_lessSizes_23 rfl ?_
    obtain ⟨x_15, hc_14, H⟩ := bd_e H
    refine z_callV (M := M_X12_lessSizes) (M' := M_X12_limb) (as := [vi a_0, vi k_4]) (rest := []) rfl rfl dX12_lessSizes_25 m_X12_limb t_3182 t_3184 s_216 (c_X12_limb hl  hc_14) rfl rfl ly_277 rfl (Nat.le_of_ble_eq_true rfl) (Nat.le_of_ble_eq_true rfl) (Nat.le_of_ble_eq_true rfl) (Nat.le_of_ble_eq_true rfl) ?_
    refine z_st (st' := [vl x_15]) rfl ?_
    refine z_aload_n (M := M_X12_lessSizes) dX12_lessSizes_28 rfl ?_
    refine z_iload_n (M := M_X12_lessSizes) dX12_lessSizes_29 rfl ?_
    refine z_iload (M := M_X12_lessSizes) dX12_lessSizes_30 rfl ?_
    obtain ⟨x_17, hc_16, H⟩ := bd_e H
    refine z_callV (M := M_X12_lessSizes) (M' := M_X12_limb) (as := [vi b_0, vi k_4]) (rest := [vl x_15]) rfl rfl dX12_lessSizes_32 m_X12_limb t_3182 t_3184 s_216 (c_X12_limb hl  hc_16) rfl rfl ly_277 rfl (Nat.le_of_ble_eq_true rfl) (Nat.le_of_ble_eq_true rfl) (Nat.le_of_ble_eq_true rfl) (Nat.le_of_ble_eq_true rfl) ?_
    refine z_st (st' := [vl x_17, vl x_15]) rfl ?_
    refine z_lsub (M := M_X12_lessSizes) dX12_lessSizes_35 ?_
    refine z_lload (M := M_X12_lessSizes) dX12_lessSizes_36 rfl ?_
    refine z_lsub (M := M_X12_lessSizes) dX12_lessSizes_38 ?_
    refine z_lstore (M := M_X12_lessSizes) (lv' := [some (vr 277), some (vi to_0), some (vi a_0), some (vi b_0), some (vi x_1), some (vl carry_3), none, some (vi k_4), some (vl ((x_15 - x_17) - carry_3)), none]) dX12_lessSizes_39 (Nat.le_of_ble_eq_true rfl) rfl rfl ?_
    have J_18 : YY l E M_X12_lessSizes 2 0 0 (pS (none) σ') 53 [some (vr 277), some (vi to_0), some (vi a_0), some (vi b_0), some (vi x_1), some (vl carry_3), none, some (vi k_4), some (vl ((x_15 - x_17) - carry_3)), none] [vl (if (w64 ((x_15 - x_17) - carry_3)) < 0 then 1 else 0)] σ_5 0 0 := by
      refine z_lstore (M := M_X12_lessSizes) (lv' := [some (vr 277), some (vi to_0), some (vi a_0), some (vi b_0), some (vi x_1), some (vl (if (w64 ((x_15 - x_17) - carry_3)) < 0 then 1 else 0)), none, some (vi k_4), some (vl ((x_15 - x_17) - carry_3)), none]) dX12_lessSizes_53 (Nat.le_of_ble_eq_true rfl) rfl rfl ?_
      refine z_aload_n (M := M_X12_lessSizes) dX12_lessSizes_55 rfl ?_
      refine z_getR (M := M_X12_lessSizes) (ci := 15) (C := RX12) (T := TX12) (Nf := 135) (ty := tyX12) cl15 dX12_lessSizes_56 ly_277 36 (by decide) t_2427 rfl ?_
      refine z_sipush (M := M_X12_lessSizes) dX12_lessSizes_59 (by decide +kernel) ?_
      refine z_iload_n (M := M_X12_lessSizes) dX12_lessSizes_62 rfl ?_
      refine z_imul (M := M_X12_lessSizes) dX12_lessSizes_63 ?_
      refine z_iload (M := M_X12_lessSizes) dX12_lessSizes_64 rfl ?_
      refine z_iadd (M := M_X12_lessSizes) dX12_lessSizes_66 ?_
      refine z_lload (M := M_X12_lessSizes) dX12_lessSizes_67 rfl ?_
      refine z_ldc2 (M := M_X12_lessSizes) (n := 4294967295) dX12_lessSizes_69 t_3169 (by decide +kernel) ?_
      refine z_land (M := M_X12_lessSizes) dX12_lessSizes_72 ?_
      obtain ⟨σ_19, σ_19_e, hi_20, H⟩ := wa_e H
      refine z_last (M := M_X12_lessSizes) dX12_lessSizes_73 ly_294 rfl rfl rfl hi_20 σ_19_e ?_
      refine z_iinc (M := M_X12_lessSizes) (lv' := [some (vr 277), some (vi to_0), some (vi a_0), some (vi b_0), some (vi x_1), some (vl (if (w64 ((x_15 - x_17) - carry_3)) < 0 then 1 else 0)), none, some (vi (k_4 + 1)), some (vl ((x_15 - x_17) - carry_3)), none]) dX12_lessSizes_74 rfl (Nat.le_of_ble_eq_true rfl) rfl rfl ?_
      refine z_goto (M := M_X12_lessSizes) (tgt := 14) dX12_lessSizes_77 (by decide) ?_
      refine z_le (lv' := [some (vr 277), some (vi to_0), some (vi a_0), some (vi b_0), some (vi x_1), some (vl (if (w64 ((x_15 - x_17) - carry_3)) < 0 then 1 else 0)), none, some (vi (k_4 + 1)), none, none]) ⟨Or.inr rfl, Or.inr rfl, Or.inr rfl, Or.inr rfl, Or.inr rfl, Or.inr rfl, Or.inl rfl, Or.inr rfl, Or.inl rfl, Or.inl rfl, trivial⟩ ?_
      exact K_11 _ (Option.some.inj H).symm
    refine z_lload (M := M_X12_lessSizes) dX12_lessSizes_41 rfl ?_
    refine z_lconst (M := M_X12_lessSizes) (m := 0) dX12_lessSizes_43 (by decide +kernel) ?_
    refine z_lcmp (M := M_X12_lessSizes) dX12_lessSizes_44 ?_
    by_cases h_22 : (w64 ((x_15 - x_17) - carry_3)) < 0
    · refine z_lif_ge_f (M := M_X12_lessSizes) (tgt := 52) dX12_lessSizes_45 (by decide) rfl (by decide +kernel) h_22 ?_
      refine z_lconst (M := M_X12_lessSizes) (m := 1) dX12_lessSizes_48 (by decide +kernel) ?_
      refine z_goto (M := M_X12_lessSizes) (tgt := 53) dX12_lessSizes_49 (by decide) ?_
      exact z_st (by rw [if_pos (c := (w64 ((x_15 - x_17) - carry_3)) < 0) h_22]) J_18
    · refine z_lif_ge_t (M := M_X12_lessSizes) (tgt := 52) dX12_lessSizes_45 (by decide) rfl (by decide +kernel) (Int.not_lt.mp h_22) ?_
      refine z_lconst (M := M_X12_lessSizes) (m := 0) dX12_lessSizes_52 (by decide +kernel) ?_
      exact z_st (by rw [if_neg (c := (w64 ((x_15 - x_17) - carry_3)) < 0) h_22]) J_18
  · refine z_icmp_ge_t (M := M_X12_lessSizes) (tgt := 80) dX12_lessSizes_18 (by decide) rfl rfl (Int.not_lt.mp h_13) ?_
    exact J_29 _ _ _ (K_12 _ (Option.some.inj H).symm).symm
theorem c_X12_add (hl : l.stackTraces = false) {σ : SG} {to_0 : Int} {a_0 : Int} {b_0 : Int} {less_0 : Bool} {σ' : SG}  (H : fR_add σ to_0 a_0 b_0 less_0 = some σ') : en_S l E M_X12_add 3 0 0 [vr 277, vi to_0, vi a_0, vi b_0, zv less_0] σ (pS (none) σ') := by
  unfold fR_add at H
  refine z_mk (lv := [some (vr 277), some (vi to_0), some (vi a_0), some (vi b_0), some (zv less_0), none, none]) m_X12_add rfl hl (Nat.le_of_ble_eq_true rfl) rfl ?_
  refine z_aload_n (M := M_X12_add) dX12_add_0 rfl ?_
  refine z_getR (M := M_X12_add) (ci := 15) (C := RX12) (T := TX12) (Nf := 135) (ty := tyX12) cl15 dX12_add_1 ly_277 38 (by decide) t_2429 rfl ?_
  refine z_iload_n (M := M_X12_add) dX12_add_4 rfl ?_
  obtain ⟨x_1, x_1_e, hi_2, H⟩ := rd_e H
  refine z_iald (M := M_X12_add) dX12_add_5 ly_296 rfl rfl rfl hi_2 x_1_e ?_
  refine z_istore (M := M_X12_add) (lv' := [some (vr 277), some (vi to_0), some (vi a_0), some (vi b_0), some (zv less_0), some (vi x_1), none]) dX12_add_6 (Nat.le_of_ble_eq_true rfl) rfl rfl ?_
  obtain ⟨v_59, he_60, hk_61⟩ := bd_e H
  have J_62 : ∀ x_14, v_59 = x_14 → YY l E M_X12_add 3 0 0 (pS (none) σ') 29 [some (vr 277), some (vi to_0), some (vi a_0), some (vi b_0), some (zv less_0), some (vi x_1), none] [vi x_14] σ 0 0 := by
    intro x_14 e
    have H := hk_61
    rw [e] at H
    refine z_istore (M := M_X12_add) (lv' := [some (vr 277), some (vi to_0), some (vi a_0), some (vi b_0), some (zv less_0), some (vi x_1), some (vi x_14)]) dX12_add_29 (Nat.le_of_ble_eq_true rfl) rfl rfl ?_
    obtain ⟨v_18, he_15, hk_16⟩ := bd_e H
    have J_58 : ∀ σ_55, v_18 = σ_55 → YY l E M_X12_add 3 0 0 (pS (none) σ') 118 [some (vr 277), some (vi to_0), some (vi a_0), some (vi b_0), some (zv less_0), some (vi x_1), some (vi x_14)] [] σ_55 0 0 := by
      intro σ_55 e
      have H := hk_16
      rw [e] at H
      refine z_aload_n (M := M_X12_add) dX12_add_118 rfl ?_
      refine z_iload_n (M := M_X12_add) dX12_add_119 rfl ?_
      obtain ⟨σ_57, hc_56, H⟩ := bd_e H
      refine z_callV (M := M_X12_add) (M' := M_X12_trim) (as := [vi to_0]) (rest := []) rfl rfl dX12_add_120 m_X12_trim t_3170 t_3172 s_213 (c_X12_trim hl  hc_56) rfl rfl ly_277 rfl (Nat.le_of_ble_eq_true rfl) (Nat.le_of_ble_eq_true rfl) (Nat.le_of_ble_eq_true rfl) (Nat.le_of_ble_eq_true rfl) ?_
      refine z_st (st' := []) rfl ?_
      cases H
      exact z_vret (M := M_X12_add) dX12_add_123 rfl (Nat.le_of_ble_eq_true rfl) (Nat.le_of_ble_eq_true rfl) ⟨rfl, rfl⟩
    have H := he_15
    rcases if_e H with ⟨h_46, H⟩ | ⟨h_46, H⟩
    · have J_47 : YY l E M_X12_add 3 0 0 (pS (none) σ') 48 [some (vr 277), some (vi to_0), some (vi a_0), some (vi b_0), some (zv less_0), some (vi x_1), some (vi x_14)] [] σ 0 0 := by
        refine z_aload_n (M := M_X12_add) dX12_add_48 rfl ?_
        refine z_iload_n (M := M_X12_add) dX12_add_49 rfl ?_
        refine z_iload_n (M := M_X12_add) dX12_add_50 rfl ?_
        refine z_iload_n (M := M_X12_add) dX12_add_51 rfl ?_
        obtain ⟨σ_20, hc_19, H⟩ := bd_e H
        refine z_callV (M := M_X12_add) (M' := M_X12_addSizes) (as := [vi to_0, vi a_0, vi b_0]) (rest := []) rfl rfl dX12_add_52 m_X12_addSizes t_3178 t_3180 s_215 (c_X12_addSizes hl  hc_19) rfl rfl ly_277 rfl (Nat.le_of_ble_eq_true rfl) (Nat.le_of_ble_eq_true rfl) (Nat.le_of_ble_eq_true rfl) (Nat.le_of_ble_eq_true rfl) ?_
        refine z_st (st' := []) rfl ?_
        refine z_aload_n (M := M_X12_add) dX12_add_55 rfl ?_
        refine z_getR (M := M_X12_add) (ci := 15) (C := RX12) (T := TX12) (Nf := 135) (ty := tyX12) cl15 dX12_add_56 ly_277 38 (by decide) t_2429 rfl ?_
        refine z_iload_n (M := M_X12_add) dX12_add_59 rfl ?_
        have J_21 : YY l E M_X12_add 3 0 0 (pS (none) σ') 72 [some (vr 277), some (vi to_0), some (vi a_0), some (vi b_0), some (zv less_0), some (vi x_1), some (vi x_14)] [vi (if (w32 x_1) = 0 then x_14 else x_1), vi to_0, vr 296] σ_20 0 0 := by
          obtain ⟨σ_22, σ_22_e, hi_23, H⟩ := wa_e H
          refine z_iast (M := M_X12_add) dX12_add_72 ly_296 rfl rfl rfl hi_23 σ_22_e ?_
          refine z_goto (M := M_X12_add) (tgt := 118) dX12_add_73 (by decide) ?_
          exact J_58 _ (Option.some.inj H).symm
        refine z_iload (M := M_X12_add) dX12_add_60 rfl ?_
        by_cases h_25 : (w32 x_1) = 0
        · refine z_if_ne_f (M := M_X12_add) (tgt := 70) dX12_add_62 (by decide) rfl h_25 ?_
          refine z_iload (M := M_X12_add) dX12_add_65 rfl ?_
          refine z_goto (M := M_X12_add) (tgt := 72) dX12_add_67 (by decide) ?_
          exact z_st (by rw [if_pos (c := (w32 x_1) = 0) h_25]) J_21
        · refine z_if_ne_t (M := M_X12_add) (tgt := 70) dX12_add_62 (by decide) rfl h_25 ?_
          refine z_iload (M := M_X12_add) dX12_add_70 rfl ?_
          exact z_st (by rw [if_neg (c := (w32 x_1) = 0) h_25]) J_21
      refine z_iload (M := M_X12_add) dX12_add_31 rfl ?_
      by_cases h_49 : (w32 x_1) = 0
      · refine z_if_eq_t (M := M_X12_add) (tgt := 48) dX12_add_33 (by decide) rfl h_49 ?_
        exact J_47
      · refine z_if_eq_f (M := M_X12_add) (tgt := 48) dX12_add_33 (by decide) rfl h_49 ?_
        refine z_iload (M := M_X12_add) dX12_add_36 rfl ?_
        by_cases h_50 : (w32 x_14) = 0
        · refine z_if_eq_t (M := M_X12_add) (tgt := 48) dX12_add_38 (by decide) rfl h_50 ?_
          exact J_47
        · refine z_if_eq_f (M := M_X12_add) (tgt := 48) dX12_add_38 (by decide) rfl h_50 ?_
          refine z_iload (M := M_X12_add) dX12_add_41 rfl ?_
          refine z_iload (M := M_X12_add) dX12_add_43 rfl ?_
          by_cases h_51 : (w32 x_1) = (w32 x_14)
          · refine z_icmp_ne_f (M := M_X12_add) (tgt := 76) dX12_add_45 (by decide) rfl rfl h_51 ?_
            exact J_47
          · refine z_icmp_ne_t (M := M_X12_add) (tgt := 76) dX12_add_45 (by decide) rfl rfl h_51 ?_
            exact absurd h_46 (fun q => q.elim (fun q => q.elim h_49 h_50) h_51)
    · have J_48 : YY l E M_X12_add 3 0 0 (pS (none) σ') 76 [some (vr 277), some (vi to_0), some (vi a_0), some (vi b_0), some (zv less_0), some (vi x_1), some (vi x_14)] [] σ 0 0 := by
        obtain ⟨v_29, he_26, hk_27⟩ := bd_e H
        have J_45 : ∀ σ_43, v_29 = σ_43 → YY l E M_X12_add 3 0 0 (pS (none) σ') 118 [some (vr 277), some (vi to_0), some (vi a_0), some (vi b_0), some (zv less_0), some (vi x_1), some (vi x_14)] [] σ_43 0 0 := by
          intro σ_43 e
          have H := hk_27
          rw [e] at H
          exact J_58 _ (Option.some.inj H).symm
        have H := he_26
        refine z_aload_n (M := M_X12_add) dX12_add_76 rfl ?_
        refine z_iload_n (M := M_X12_add) dX12_add_77 rfl ?_
        refine z_iload_n (M := M_X12_add) dX12_add_78 rfl ?_
        obtain ⟨x_31, hc_30, H⟩ := bd_e H
        refine z_callV (M := M_X12_add) (M' := M_X12_sizes) (as := [vi a_0, vi b_0]) (rest := []) rfl rfl dX12_add_79 m_X12_sizes t_3186 t_3188 s_217 (c_X12_sizes hl  hc_30) rfl rfl ly_277 rfl (Nat.le_of_ble_eq_true rfl) (Nat.le_of_ble_eq_true rfl) (Nat.le_of_ble_eq_true rfl) (Nat.le_of_ble_eq_true rfl) ?_
        refine z_st (st' := [vi x_31]) rfl ?_
        rcases if_e H with ⟨h_32, H⟩ | ⟨h_32, H⟩
        · refine z_if_lt_f (M := M_X12_add) (tgt := 103) dX12_add_82 (by decide) rfl h_32 ?_
          refine z_aload_n (M := M_X12_add) dX12_add_85 rfl ?_
          refine z_iload_n (M := M_X12_add) dX12_add_86 rfl ?_
          refine z_iload_n (M := M_X12_add) dX12_add_87 rfl ?_
          refine z_iload_n (M := M_X12_add) dX12_add_88 rfl ?_
          obtain ⟨σ_34, hc_33, H⟩ := bd_e H
          refine z_callV (M := M_X12_add) (M' := M_X12_lessSizes) (as := [vi to_0, vi a_0, vi b_0]) (rest := []) rfl rfl dX12_add_89 m_X12_lessSizes t_3190 t_3192 s_218 (c_X12_lessSizes hl  hc_33) rfl rfl ly_277 rfl (Nat.le_of_ble_eq_true rfl) (Nat.le_of_ble_eq_true rfl) (Nat.le_of_ble_eq_true rfl) (Nat.le_of_ble_eq_true rfl) ?_
          refine z_st (st' := []) rfl ?_
          refine z_aload_n (M := M_X12_add) dX12_add_92 rfl ?_
          refine z_getR (M := M_X12_add) (ci := 15) (C := RX12) (T := TX12) (Nf := 135) (ty := tyX12) cl15 dX12_add_93 ly_277 38 (by decide) t_2429 rfl ?_
          refine z_iload_n (M := M_X12_add) dX12_add_96 rfl ?_
          refine z_iload (M := M_X12_add) dX12_add_97 rfl ?_
          obtain ⟨σ_35, σ_35_e, hi_36, H⟩ := wa_e H
          refine z_iast (M := M_X12_add) dX12_add_99 ly_296 rfl rfl rfl hi_36 σ_35_e ?_
          refine z_goto (M := M_X12_add) (tgt := 118) dX12_add_100 (by decide) ?_
          exact J_45 _ (Option.some.inj H).symm
        · refine z_if_lt_t (M := M_X12_add) (tgt := 103) dX12_add_82 (by decide) rfl (Int.not_le.mp h_32) ?_
          refine z_aload_n (M := M_X12_add) dX12_add_103 rfl ?_
          refine z_iload_n (M := M_X12_add) dX12_add_104 rfl ?_
          refine z_iload_n (M := M_X12_add) dX12_add_105 rfl ?_
          refine z_iload_n (M := M_X12_add) dX12_add_106 rfl ?_
          obtain ⟨σ_39, hc_38, H⟩ := bd_e H
          refine z_callV (M := M_X12_add) (M' := M_X12_lessSizes) (as := [vi to_0, vi b_0, vi a_0]) (rest := []) rfl rfl dX12_add_107 m_X12_lessSizes t_3190 t_3192 s_218 (c_X12_lessSizes hl  hc_38) rfl rfl ly_277 rfl (Nat.le_of_ble_eq_true rfl) (Nat.le_of_ble_eq_true rfl) (Nat.le_of_ble_eq_true rfl) (Nat.le_of_ble_eq_true rfl) ?_
          refine z_st (st' := []) rfl ?_
          refine z_aload_n (M := M_X12_add) dX12_add_110 rfl ?_
          refine z_getR (M := M_X12_add) (ci := 15) (C := RX12) (T := TX12) (Nf := 135) (ty := tyX12) cl15 dX12_add_111 ly_277 38 (by decide) t_2429 rfl ?_
          refine z_iload_n (M := M_X12_add) dX12_add_114 rfl ?_
          refine z_iload (M := M_X12_add) dX12_add_115 rfl ?_
          obtain ⟨σ_40, σ_40_e, hi_41, H⟩ := wa_e H
          refine z_iast (M := M_X12_add) dX12_add_117 ly_296 rfl rfl rfl hi_41 σ_40_e ?_
          exact J_45 _ (Option.some.inj H).symm
      refine z_iload (M := M_X12_add) dX12_add_31 rfl ?_
      by_cases h_52 : (w32 x_1) = 0
      · refine z_if_eq_t (M := M_X12_add) (tgt := 48) dX12_add_33 (by decide) rfl h_52 ?_
        exact absurd (Or.inl (Or.inl h_52)) h_46
      · refine z_if_eq_f (M := M_X12_add) (tgt := 48) dX12_add_33 (by decide) rfl h_52 ?_
        refine z_iload (M := M_X12_add) dX12_add_36 rfl ?_
        by_cases h_53 : (w32 x_14) = 0
        · refine z_if_eq_t (M := M_X12_add) (tgt := 48) dX12_add_38 (by decide) rfl h_53 ?_
          exact absurd (Or.inl (Or.inr h_53)) h_46
        · refine z_if_eq_f (M := M_X12_add) (tgt := 48) dX12_add_38 (by decide) rfl h_53 ?_
          refine z_iload (M := M_X12_add) dX12_add_41 rfl ?_
          refine z_iload (M := M_X12_add) dX12_add_43 rfl ?_
          by_cases h_54 : (w32 x_1) = (w32 x_14)
          · refine z_icmp_ne_f (M := M_X12_add) (tgt := 76) dX12_add_45 (by decide) rfl rfl h_54 ?_
            exact absurd (Or.inr h_54) h_46
          · refine z_icmp_ne_t (M := M_X12_add) (tgt := 76) dX12_add_45 (by decide) rfl rfl h_54 ?_
            exact J_48
  have H := he_60
  refine z_zload (M := M_X12_add) dX12_add_8 rfl ?_
  rcases if_e H with ⟨h_7, H⟩ | ⟨h_7, H⟩
  · refine z_zeq_f (M := M_X12_add) (tgt := 23) dX12_add_10 (by decide) h_7 ?_
    refine z_aload_n (M := M_X12_add) dX12_add_13 rfl ?_
    refine z_getR (M := M_X12_add) (ci := 15) (C := RX12) (T := TX12) (Nf := 135) (ty := tyX12) cl15 dX12_add_14 ly_277 38 (by decide) t_2429 rfl ?_
    refine z_iload_n (M := M_X12_add) dX12_add_17 rfl ?_
    obtain ⟨x_8, x_8_e, hi_9, H⟩ := rd_e H
    refine z_iald (M := M_X12_add) dX12_add_18 ly_296 rfl rfl rfl hi_9 x_8_e ?_
    refine z_ineg (M := M_X12_add) dX12_add_19 ?_
    refine z_goto (M := M_X12_add) (tgt := 29) dX12_add_20 (by decide) ?_
    exact J_62 _ (Option.some.inj H).symm
  · refine z_zeq_t (M := M_X12_add) (tgt := 23) dX12_add_10 (by decide) h_7 ?_
    refine z_aload_n (M := M_X12_add) dX12_add_23 rfl ?_
    refine z_getR (M := M_X12_add) (ci := 15) (C := RX12) (T := TX12) (Nf := 135) (ty := tyX12) cl15 dX12_add_24 ly_277 38 (by decide) t_2429 rfl ?_
    refine z_iload_n (M := M_X12_add) dX12_add_27 rfl ?_
    obtain ⟨x_11, x_11_e, hi_12, H⟩ := rd_e H
    refine z_iald (M := M_X12_add) dX12_add_28 ly_296 rfl rfl rfl hi_12 x_11_e ?_
    exact J_62 _ (Option.some.inj H).symm
theorem c_X12_times (hl : l.stackTraces = false) {σ : SG} {to_0 : Int} {a_0 : Int} {b_0 : Int} {σ' : SG}  (H : fR_times σ to_0 a_0 b_0 = some σ') : en_S l E M_X12_times 2 0 0 [vr 277, vi to_0, vi a_0, vi b_0] σ (pS (none) σ') := by
  unfold fR_times at H
  refine z_mk (lv := [some (vr 277), some (vi to_0), some (vi a_0), some (vi b_0), none, none, none, none, none, none, none]) m_X12_times rfl hl (Nat.le_of_ble_eq_true rfl) rfl ?_
  refine z_aload_n (M := M_X12_times) dX12_times_0 rfl ?_
  refine z_getR (M := M_X12_times) (ci := 15) (C := RX12) (T := TX12) (Nf := 135) (ty := tyX12) cl15 dX12_times_1 ly_277 37 (by decide) t_2428 rfl ?_
  refine z_iload_n (M := M_X12_times) dX12_times_4 rfl ?_
  obtain ⟨x_1, x_1_e, hi_2, H⟩ := rd_e H
  refine z_iald (M := M_X12_times) dX12_times_5 ly_295 rfl rfl rfl hi_2 x_1_e ?_
  refine z_aload_n (M := M_X12_times) dX12_times_6 rfl ?_
  refine z_getR (M := M_X12_times) (ci := 15) (C := RX12) (T := TX12) (Nf := 135) (ty := tyX12) cl15 dX12_times_7 ly_277 37 (by decide) t_2428 rfl ?_
  refine z_iload_n (M := M_X12_times) dX12_times_10 rfl ?_
  obtain ⟨x_3, x_3_e, hi_4, H⟩ := rd_e H
  refine z_iald (M := M_X12_times) dX12_times_11 ly_295 rfl rfl rfl hi_4 x_3_e ?_
  refine z_iadd (M := M_X12_times) dX12_times_12 ?_
  refine z_istore (M := M_X12_times) (lv' := [some (vr 277), some (vi to_0), some (vi a_0), some (vi b_0), some (vi (x_1 + x_3)), none, none, none, none, none, none]) dX12_times_13 (Nat.le_of_ble_eq_true rfl) rfl rfl ?_
  refine z_iconst (M := M_X12_times) dX12_times_15 ?_
  refine z_istore (M := M_X12_times) (lv' := [some (vr 277), some (vi to_0), some (vi a_0), some (vi b_0), some (vi (x_1 + x_3)), some (vi 0), none, none, none, none, none]) dX12_times_16 (Nat.le_of_ble_eq_true rfl) rfl rfl ?_
  obtain ⟨rl_10, hw_7, hk_8⟩ := bd_e H
  have J_79 : ∀ k_19 σ_20, rl_10 = (k_19, σ_20) → YY l E M_X12_times 2 0 0 (pS (none) σ') 45 [some (vr 277), some (vi to_0), some (vi a_0), some (vi b_0), some (vi (x_1 + x_3)), some (vi k_19), none, none, none, none, none] [] σ_20 0 0 := by
    intro k_19 σ_20 e
    have H := hk_8
    rw [e] at H
    refine z_iconst (M := M_X12_times) dX12_times_45 ?_
    refine z_istore (M := M_X12_times) (lv' := [some (vr 277), some (vi to_0), some (vi a_0), some (vi b_0), some (vi (x_1 + x_3)), some (vi 0), none, none, none, none, none]) dX12_times_46 (Nat.le_of_ble_eq_true rfl) rfl rfl ?_
    obtain ⟨rl_26, hw_23, hk_24⟩ := bd_e H
    have J_78 : ∀ i_66 σ_67, rl_26 = (i_66, σ_67) → YY l E M_X12_times 2 0 0 (pS (none) σ') 188 [some (vr 277), some (vi to_0), some (vi a_0), some (vi b_0), some (vi (x_1 + x_3)), some (vi i_66), none, none, none, none, none] [] σ_67 0 0 := by
      intro i_66 σ_67 e
      have H := hk_24
      rw [e] at H
      refine z_aload_n (M := M_X12_times) dX12_times_188 rfl ?_
      refine z_getR (M := M_X12_times) (ci := 15) (C := RX12) (T := TX12) (Nf := 135) (ty := tyX12) cl15 dX12_times_189 ly_277 37 (by decide) t_2428 rfl ?_
      refine z_iload_n (M := M_X12_times) dX12_times_192 rfl ?_
      refine z_iload (M := M_X12_times) dX12_times_193 rfl ?_
      obtain ⟨σ_68, σ_68_e, hi_69, H⟩ := wa_e H
      refine z_iast (M := M_X12_times) dX12_times_195 ly_295 rfl rfl rfl hi_69 σ_68_e ?_
      refine z_aload_n (M := M_X12_times) dX12_times_196 rfl ?_
      refine z_getR (M := M_X12_times) (ci := 15) (C := RX12) (T := TX12) (Nf := 135) (ty := tyX12) cl15 dX12_times_197 ly_277 38 (by decide) t_2429 rfl ?_
      refine z_iload_n (M := M_X12_times) dX12_times_200 rfl ?_
      refine z_aload_n (M := M_X12_times) dX12_times_201 rfl ?_
      refine z_getR (M := M_X12_times) (ci := 15) (C := RX12) (T := TX12) (Nf := 135) (ty := tyX12) cl15 dX12_times_202 ly_277 38 (by decide) t_2429 rfl ?_
      refine z_iload_n (M := M_X12_times) dX12_times_205 rfl ?_
      obtain ⟨x_70, x_70_e, hi_71, H⟩ := rd_e H
      refine z_iald (M := M_X12_times) dX12_times_206 ly_296 rfl rfl rfl hi_71 x_70_e ?_
      refine z_aload_n (M := M_X12_times) dX12_times_207 rfl ?_
      refine z_getR (M := M_X12_times) (ci := 15) (C := RX12) (T := TX12) (Nf := 135) (ty := tyX12) cl15 dX12_times_208 ly_277 38 (by decide) t_2429 rfl ?_
      refine z_iload_n (M := M_X12_times) dX12_times_211 rfl ?_
      obtain ⟨x_72, x_72_e, hi_73, H⟩ := rd_e H
      refine z_iald (M := M_X12_times) dX12_times_212 ly_296 rfl rfl rfl hi_73 x_72_e ?_
      refine z_imul (M := M_X12_times) dX12_times_213 ?_
      obtain ⟨σ_74, σ_74_e, hi_75, H⟩ := wa_e H
      refine z_iast (M := M_X12_times) dX12_times_214 ly_296 rfl rfl rfl hi_75 σ_74_e ?_
      refine z_aload_n (M := M_X12_times) dX12_times_215 rfl ?_
      refine z_iload_n (M := M_X12_times) dX12_times_216 rfl ?_
      obtain ⟨σ_77, hc_76, H⟩ := bd_e H
      refine z_callV (M := M_X12_times) (M' := M_X12_trim) (as := [vi to_0]) (rest := []) rfl rfl dX12_times_217 m_X12_trim t_3170 t_3172 s_213 (c_X12_trim hl  hc_76) rfl rfl ly_277 rfl (Nat.le_of_ble_eq_true rfl) (Nat.le_of_ble_eq_true rfl) (Nat.le_of_ble_eq_true rfl) (Nat.le_of_ble_eq_true rfl) ?_
      refine z_st (st' := []) rfl ?_
      cases H
      exact z_vret (M := M_X12_times) dX12_times_220 rfl (Nat.le_of_ble_eq_true rfl) (Nat.le_of_ble_eq_true rfl) ⟨rfl, rfl⟩
    refine whl_go hw_23 (fun (i_21, σ_22) => YY l E M_X12_times 2 0 0 (pS (none) σ') 48 [some (vr 277), some (vi to_0), some (vi a_0), some (vi b_0), some (vi (x_1 + x_3)), some (vi i_21), none, none, none, none, none] [] σ_22 0 0) ?_
    rintro ⟨i_21, σ_22⟩ o_27 H K_28 K_29
    refine z_iload (M := M_X12_times) dX12_times_48 rfl ?_
    refine z_aload_n (M := M_X12_times) dX12_times_50 rfl ?_
    refine z_getR (M := M_X12_times) (ci := 15) (C := RX12) (T := TX12) (Nf := 135) (ty := tyX12) cl15 dX12_times_51 ly_277 37 (by decide) t_2428 rfl ?_
    refine z_iload_n (M := M_X12_times) dX12_times_54 rfl ?_
    obtain ⟨x_30, x_30_e, hi_31, H⟩ := rd_e H
    refine z_iald (M := M_X12_times) dX12_times_55 ly_295 rfl rfl rfl hi_31 x_30_e ?_
    rcases if_e H with ⟨h_32, H⟩ | ⟨h_32, H⟩
    · refine z_icmp_ge_f (M := M_X12_times) (tgt := 188) dX12_times_56 (by decide) rfl rfl h_32 ?_
      refine z_lconst (M := M_X12_times) (m := 0) dX12_times_59 (by decide +kernel) ?_
      refine z_lstore (M := M_X12_times) (lv' := [some (vr 277), some (vi to_0), some (vi a_0), some (vi b_0), some (vi (x_1 + x_3)), some (vi i_21), some (vl 0), none, none, none, none]) dX12_times_60 (Nat.le_of_ble_eq_true rfl) rfl rfl ?_
      refine z_iconst (M := M_X12_times) dX12_times_62 ?_
      refine z_istore (M := M_X12_times) (lv' := [some (vr 277), some (vi to_0), some (vi a_0), some (vi b_0), some (vi (x_1 + x_3)), some (vi i_21), some (vl 0), none, some (vi 0), none, none]) dX12_times_63 (Nat.le_of_ble_eq_true rfl) rfl rfl ?_
      obtain ⟨rl_39, hw_36, hk_37⟩ := bd_e H
      have J_64 : ∀ carry_56 j_57 σ_58, rl_39 = (carry_56, j_57, σ_58) → YY l E M_X12_times 2 0 0 (pS (none) σ') 160 [some (vr 277), some (vi to_0), some (vi a_0), some (vi b_0), some (vi (x_1 + x_3)), some (vi i_21), some (vl carry_56), none, some (vi j_57), none, none] [] σ_58 0 0 := by
        intro carry_56 j_57 σ_58 e
        have H := hk_37
        rw [e] at H
        refine z_aload_n (M := M_X12_times) dX12_times_160 rfl ?_
        refine z_getR (M := M_X12_times) (ci := 15) (C := RX12) (T := TX12) (Nf := 135) (ty := tyX12) cl15 dX12_times_161 ly_277 36 (by decide) t_2427 rfl ?_
        refine z_sipush (M := M_X12_times) dX12_times_164 (by decide +kernel) ?_
        refine z_iload_n (M := M_X12_times) dX12_times_167 rfl ?_
        refine z_imul (M := M_X12_times) dX12_times_168 ?_
        refine z_iload (M := M_X12_times) dX12_times_169 rfl ?_
        refine z_iadd (M := M_X12_times) dX12_times_171 ?_
        refine z_aload_n (M := M_X12_times) dX12_times_172 rfl ?_
        refine z_getR (M := M_X12_times) (ci := 15) (C := RX12) (T := TX12) (Nf := 135) (ty := tyX12) cl15 dX12_times_173 ly_277 37 (by decide) t_2428 rfl ?_
        refine z_iload_n (M := M_X12_times) dX12_times_176 rfl ?_
        obtain ⟨x_59, x_59_e, hi_60, H⟩ := rd_e H
        refine z_iald (M := M_X12_times) dX12_times_177 ly_295 rfl rfl rfl hi_60 x_59_e ?_
        refine z_iadd (M := M_X12_times) dX12_times_178 ?_
        refine z_lload (M := M_X12_times) dX12_times_179 rfl ?_
        obtain ⟨σ_61, σ_61_e, hi_62, H⟩ := wa_e H
        refine z_last (M := M_X12_times) dX12_times_181 ly_294 rfl rfl rfl hi_62 σ_61_e ?_
        refine z_iinc (M := M_X12_times) (lv' := [some (vr 277), some (vi to_0), some (vi a_0), some (vi b_0), some (vi (x_1 + x_3)), some (vi (i_21 + 1)), some (vl carry_56), none, some (vi j_57), none, none]) dX12_times_182 rfl (Nat.le_of_ble_eq_true rfl) rfl rfl ?_
        refine z_goto (M := M_X12_times) (tgt := 48) dX12_times_185 (by decide) ?_
        refine z_le (lv' := [some (vr 277), some (vi to_0), some (vi a_0), some (vi b_0), some (vi (x_1 + x_3)), some (vi (i_21 + 1)), none, none, none, none, none]) ⟨Or.inr rfl, Or.inr rfl, Or.inr rfl, Or.inr rfl, Or.inr rfl, Or.inr rfl, Or.inl rfl, Or.inl rfl, Or.inl rfl, Or.inl rfl, Or.inl rfl, trivial⟩ ?_
        exact K_28 _ (Option.some.inj H).symm
      refine whl_go hw_36 (fun (carry_33, j_34, σ_35) => YY l E M_X12_times 2 0 0 (pS (none) σ') 65 [some (vr 277), some (vi to_0), some (vi a_0), some (vi b_0), some (vi (x_1 + x_3)), some (vi i_21), some (vl carry_33), none, some (vi j_34), none, none] [] σ_35 0 0) ?_
      rintro ⟨carry_33, j_34, σ_35⟩ o_40 H K_41 K_42
      refine z_iload (M := M_X12_times) dX12_times_65 rfl ?_
      refine z_aload_n (M := M_X12_times) dX12_times_67 rfl ?_
      refine z_getR (M := M_X12_times) (ci := 15) (C := RX12) (T := TX12) (Nf := 135) (ty := tyX12) cl15 dX12_times_68 ly_277 37 (by decide) t_2428 rfl ?_
      refine z_iload_n (M := M_X12_times) dX12_times_71 rfl ?_
      obtain ⟨x_43, x_43_e, hi_44, H⟩ := rd_e H
      refine z_iald (M := M_X12_times) dX12_times_72 ly_295 rfl rfl rfl hi_44 x_43_e ?_
      rcases if_e H with ⟨h_45, H⟩ | ⟨h_45, H⟩
      · refine z_icmp_ge_f (M := M_X12_times) (tgt := 160) dX12_times_73 (by decide) rfl rfl h_45 ?_
        refine z_aload_n (M := M_X12_times) dX12_times_76 rfl ?_
        refine z_getR (M := M_X12_times) (ci := 15) (C := RX12) (T := TX12) (Nf := 135) (ty := tyX12) cl15 dX12_times_77 ly_277 36 (by decide) t_2427 rfl ?_
        refine z_sipush (M := M_X12_times) dX12_times_80 (by decide +kernel) ?_
        refine z_iload_n (M := M_X12_times) dX12_times_83 rfl ?_
        refine z_imul (M := M_X12_times) dX12_times_84 ?_
        refine z_iload (M := M_X12_times) dX12_times_85 rfl ?_
        refine z_iadd (M := M_X12_times) dX12_times_87 ?_
        obtain ⟨x_46, x_46_e, hi_47, H⟩ := rd_e H
        refine z_lald (M := M_X12_times) dX12_times_88 ly_294 rfl rfl rfl hi_47 x_46_e ?_
        refine z_aload_n (M := M_X12_times) dX12_times_89 rfl ?_
        refine z_getR (M := M_X12_times) (ci := 15) (C := RX12) (T := TX12) (Nf := 135) (ty := tyX12) cl15 dX12_times_90 ly_277 36 (by decide) t_2427 rfl ?_
        refine z_sipush (M := M_X12_times) dX12_times_93 (by decide +kernel) ?_
        refine z_iload_n (M := M_X12_times) dX12_times_96 rfl ?_
        refine z_imul (M := M_X12_times) dX12_times_97 ?_
        refine z_iload (M := M_X12_times) dX12_times_98 rfl ?_
        refine z_iadd (M := M_X12_times) dX12_times_100 ?_
        obtain ⟨x_48, x_48_e, hi_49, H⟩ := rd_e H
        refine z_lald (M := M_X12_times) dX12_times_101 ly_294 rfl rfl rfl hi_49 x_48_e ?_
        refine z_lmul (M := M_X12_times) dX12_times_102 ?_
        refine z_aload_n (M := M_X12_times) dX12_times_103 rfl ?_
        refine z_getR (M := M_X12_times) (ci := 15) (C := RX12) (T := TX12) (Nf := 135) (ty := tyX12) cl15 dX12_times_104 ly_277 36 (by decide) t_2427 rfl ?_
        refine z_sipush (M := M_X12_times) dX12_times_107 (by decide +kernel) ?_
        refine z_iload_n (M := M_X12_times) dX12_times_110 rfl ?_
        refine z_imul (M := M_X12_times) dX12_times_111 ?_
        refine z_iload (M := M_X12_times) dX12_times_112 rfl ?_
        refine z_iadd (M := M_X12_times) dX12_times_114 ?_
        refine z_iload (M := M_X12_times) dX12_times_115 rfl ?_
        refine z_iadd (M := M_X12_times) dX12_times_117 ?_
        obtain ⟨x_50, x_50_e, hi_51, H⟩ := rd_e H
        refine z_lald (M := M_X12_times) dX12_times_118 ly_294 rfl rfl rfl hi_51 x_50_e ?_
        refine z_ladd (M := M_X12_times) dX12_times_119 ?_
        refine z_lload (M := M_X12_times) dX12_times_120 rfl ?_
        refine z_ladd (M := M_X12_times) dX12_times_122 ?_
        refine z_lstore (M := M_X12_times) (lv' := [some (vr 277), some (vi to_0), some (vi a_0), some (vi b_0), some (vi (x_1 + x_3)), some (vi i_21), some (vl carry_33), none, some (vi j_34), some (vl (((x_46 * x_48) + x_50) + carry_33)), none]) dX12_times_123 (Nat.le_of_ble_eq_true rfl) rfl rfl ?_
        refine z_aload_n (M := M_X12_times) dX12_times_125 rfl ?_
        refine z_getR (M := M_X12_times) (ci := 15) (C := RX12) (T := TX12) (Nf := 135) (ty := tyX12) cl15 dX12_times_126 ly_277 36 (by decide) t_2427 rfl ?_
        refine z_sipush (M := M_X12_times) dX12_times_129 (by decide +kernel) ?_
        refine z_iload_n (M := M_X12_times) dX12_times_132 rfl ?_
        refine z_imul (M := M_X12_times) dX12_times_133 ?_
        refine z_iload (M := M_X12_times) dX12_times_134 rfl ?_
        refine z_iadd (M := M_X12_times) dX12_times_136 ?_
        refine z_iload (M := M_X12_times) dX12_times_137 rfl ?_
        refine z_iadd (M := M_X12_times) dX12_times_139 ?_
        refine z_lload (M := M_X12_times) dX12_times_140 rfl ?_
        refine z_ldc2 (M := M_X12_times) (n := 4294967295) dX12_times_142 t_3169 (by decide +kernel) ?_
        refine z_land (M := M_X12_times) dX12_times_145 ?_
        obtain ⟨σ_52, σ_52_e, hi_53, H⟩ := wa_e H
        refine z_last (M := M_X12_times) dX12_times_146 ly_294 rfl rfl rfl hi_53 σ_52_e ?_
        refine z_lload (M := M_X12_times) dX12_times_147 rfl ?_
        refine z_bipush (M := M_X12_times) dX12_times_149 (by decide +kernel) ?_
        refine z_lushr (M := M_X12_times) dX12_times_151 ?_
        refine z_lstore (M := M_X12_times) (lv' := [some (vr 277), some (vi to_0), some (vi a_0), some (vi b_0), some (vi (x_1 + x_3)), some (vi i_21), some (vl (q_lus (((x_46 * x_48) + x_50) + carry_33) 32)), none, some (vi j_34), some (vl (((x_46 * x_48) + x_50) + carry_33)), none]) dX12_times_152 (Nat.le_of_ble_eq_true rfl) rfl rfl ?_
        refine z_iinc (M := M_X12_times) (lv' := [some (vr 277), some (vi to_0), some (vi a_0), some (vi b_0), some (vi (x_1 + x_3)), some (vi i_21), some (vl (q_lus (((x_46 * x_48) + x_50) + carry_33) 32)), none, some (vi (j_34 + 1)), some (vl (((x_46 * x_48) + x_50) + carry_33)), none]) dX12_times_154 rfl (Nat.le_of_ble_eq_true rfl) rfl rfl ?_
        refine z_goto (M := M_X12_times) (tgt := 65) dX12_times_157 (by decide) ?_
        refine z_le (lv' := [some (vr 277), some (vi to_0), some (vi a_0), some (vi b_0), some (vi (x_1 + x_3)), some (vi i_21), some (vl (q_lus (((x_46 * x_48) + x_50) + carry_33) 32)), none, some (vi (j_34 + 1)), none, none]) ⟨Or.inr rfl, Or.inr rfl, Or.inr rfl, Or.inr rfl, Or.inr rfl, Or.inr rfl, Or.inr rfl, Or.inl rfl, Or.inr rfl, Or.inl rfl, Or.inl rfl, trivial⟩ ?_
        exact K_41 _ (Option.some.inj H).symm
      · refine z_icmp_ge_t (M := M_X12_times) (tgt := 160) dX12_times_73 (by decide) rfl rfl (Int.not_lt.mp h_45) ?_
        exact J_64 _ _ _ (K_42 _ (Option.some.inj H).symm).symm
    · refine z_icmp_ge_t (M := M_X12_times) (tgt := 188) dX12_times_56 (by decide) rfl rfl (Int.not_lt.mp h_32) ?_
      exact J_78 _ _ (K_29 _ (Option.some.inj H).symm).symm
  refine whl_go hw_7 (fun (k_5, σ_6) => YY l E M_X12_times 2 0 0 (pS (none) σ') 18 [some (vr 277), some (vi to_0), some (vi a_0), some (vi b_0), some (vi (x_1 + x_3)), some (vi k_5), none, none, none, none, none] [] σ_6 0 0) ?_
  rintro ⟨k_5, σ_6⟩ o_11 H K_12 K_13
  refine z_iload (M := M_X12_times) dX12_times_18 rfl ?_
  refine z_iload (M := M_X12_times) dX12_times_20 rfl ?_
  rcases if_e H with ⟨h_14, H⟩ | ⟨h_14, H⟩
  · refine z_icmp_ge_f (M := M_X12_times) (tgt := 45) dX12_times_22 (by decide) rfl rfl h_14 ?_
    refine z_aload_n (M := M_X12_times) dX12_times_25 rfl ?_
    refine z_getR (M := M_X12_times) (ci := 15) (C := RX12) (T := TX12) (Nf := 135) (ty := tyX12) cl15 dX12_times_26 ly_277 36 (by decide) t_2427 rfl ?_
    refine z_sipush (M := M_X12_times) dX12_times_29 (by decide +kernel) ?_
    refine z_iload_n (M := M_X12_times) dX12_times_32 rfl ?_
    refine z_imul (M := M_X12_times) dX12_times_33 ?_
    refine z_iload (M := M_X12_times) dX12_times_34 rfl ?_
    refine z_iadd (M := M_X12_times) dX12_times_36 ?_
    refine z_lconst (M := M_X12_times) (m := 0) dX12_times_37 (by decide +kernel) ?_
    obtain ⟨σ_15, σ_15_e, hi_16, H⟩ := wa_e H
    refine z_last (M := M_X12_times) dX12_times_38 ly_294 rfl rfl rfl hi_16 σ_15_e ?_
    refine z_iinc (M := M_X12_times) (lv' := [some (vr 277), some (vi to_0), some (vi a_0), some (vi b_0), some (vi (x_1 + x_3)), some (vi (k_5 + 1)), none, none, none, none, none]) dX12_times_39 rfl (Nat.le_of_ble_eq_true rfl) rfl rfl ?_
    refine z_goto (M := M_X12_times) (tgt := 18) dX12_times_42 (by decide) ?_
    exact K_12 _ (Option.some.inj H).symm
  · refine z_icmp_ge_t (M := M_X12_times) (tgt := 45) dX12_times_22 (by decide) rfl rfl (Int.not_lt.mp h_14) ?_
    exact J_79 _ _ (K_13 _ (Option.some.inj H).symm).symm
theorem c_X12_load (hl : l.stackTraces = false) {σ : SG} {r_0 : Int} {bits_0 : Int} {σ' : SG}  (H : fR_load σ r_0 bits_0 = some σ') : en_S l E M_X12_load 2 0 0 [vr 277, vi r_0, vl bits_0] σ (pS (none) σ') := by
  unfold fR_load at H
  refine z_mk (lv := [some (vr 277), some (vi r_0), some (vl bits_0), none, none, none, none, none, none, none, none, none, none, none]) m_X12_load rfl hl (Nat.le_of_ble_eq_true rfl) rfl ?_
  refine z_lload_n (M := M_X12_load) dX12_load_0 rfl ?_
  refine z_bipush (M := M_X12_load) dX12_load_1 (by decide +kernel) ?_
  refine z_lushr (M := M_X12_load) dX12_load_3 ?_
  refine z_ldc2 (M := M_X12_load) (n := 2047) dX12_load_4 t_2994 (by decide +kernel) ?_
  refine z_land (M := M_X12_load) dX12_load_7 ?_
  refine z_l2i (M := M_X12_load) dX12_load_8 ?_
  refine z_istore (M := M_X12_load) (lv' := [some (vr 277), some (vi r_0), some (vl bits_0), none, some (vi (q_lan (q_lus bits_0 52) 2047)), none, none, none, none, none, none, none, none, none]) dX12_load_9 (Nat.le_of_ble_eq_true rfl) rfl rfl ?_
  refine z_lload_n (M := M_X12_load) dX12_load_11 rfl ?_
  refine z_ldc2 (M := M_X12_load) (n := 4503599627370495) dX12_load_12 t_2995 (by decide +kernel) ?_
  refine z_land (M := M_X12_load) dX12_load_15 ?_
  refine z_lstore (M := M_X12_load) (lv' := [some (vr 277), some (vi r_0), some (vl bits_0), none, some (vi (q_lan (q_lus bits_0 52) 2047)), some (vl (q_lan bits_0 4503599627370495)), none, none, none, none, none, none, none, none]) dX12_load_16 (Nat.le_of_ble_eq_true rfl) rfl rfl ?_
  have J_1 : YY l E M_X12_load 2 0 0 (pS (none) σ') 34 [some (vr 277), some (vi r_0), some (vl bits_0), none, some (vi (q_lan (q_lus bits_0 52) 2047)), some (vl (q_lan bits_0 4503599627370495)), none, none, none, none, none, none, none, none] [vl (if (w32 (q_lan (q_lus bits_0 52) 2047)) = 0 then (q_lan bits_0 4503599627370495) else (q_lor (q_lan bits_0 4503599627370495) 4503599627370496))] σ 0 0 := by
    obtain ⟨x_2, x_2_e, H⟩ := lt_e H
    refine z_st (congrArg (fun z => vl z :: []) x_2_e) ?_
    refine z_lstore (M := M_X12_load) (lv' := [some (vr 277), some (vi r_0), some (vl bits_0), none, some (vi (q_lan (q_lus bits_0 52) 2047)), some (vl x_2), none, none, none, none, none, none, none, none]) dX12_load_34 (Nat.le_of_ble_eq_true rfl) rfl rfl ?_
    have J_3 : YY l E M_X12_load 2 0 0 (pS (none) σ') 49 [some (vr 277), some (vi r_0), some (vl bits_0), none, some (vi (q_lan (q_lus bits_0 52) 2047)), some (vl x_2), none, none, none, none, none, none, none, none] [vi (if (w32 (q_lan (q_lus bits_0 52) 2047)) = 0 then 0 else ((q_lan (q_lus bits_0 52) 2047) - 1))] σ 0 0 := by
      obtain ⟨x_4, x_4_e, H⟩ := lt_e H
      refine z_st (congrArg (fun z => vi z :: []) x_4_e) ?_
      refine z_istore (M := M_X12_load) (lv' := [some (vr 277), some (vi r_0), some (vl bits_0), none, some (vi (q_lan (q_lus bits_0 52) 2047)), some (vl x_2), none, some (vi x_4), none, none, none, none, none, none]) dX12_load_49 (Nat.le_of_ble_eq_true rfl) rfl rfl ?_
      refine z_iload (M := M_X12_load) dX12_load_51 rfl ?_
      refine z_bipush (M := M_X12_load) dX12_load_53 (by decide +kernel) ?_
      refine z_idiv (M := M_X12_load) dX12_load_55 (by decide +kernel) ?_
      refine z_istore (M := M_X12_load) (lv' := [some (vr 277), some (vi r_0), some (vl bits_0), none, some (vi (q_lan (q_lus bits_0 52) 2047)), some (vl x_2), none, some (vi x_4), some (vi (q_idv x_4 32)), none, none, none, none, none]) dX12_load_56 (Nat.le_of_ble_eq_true rfl) rfl rfl ?_
      refine z_iload (M := M_X12_load) dX12_load_58 rfl ?_
      refine z_bipush (M := M_X12_load) dX12_load_60 (by decide +kernel) ?_
      refine z_irem (M := M_X12_load) dX12_load_62 (by decide +kernel) ?_
      refine z_istore (M := M_X12_load) (lv' := [some (vr 277), some (vi r_0), some (vl bits_0), none, some (vi (q_lan (q_lus bits_0 52) 2047)), some (vl x_2), none, some (vi x_4), some (vi (q_idv x_4 32)), some (vi (q_irm x_4 32)), none, none, none, none]) dX12_load_63 (Nat.le_of_ble_eq_true rfl) rfl rfl ?_
      refine z_iconst (M := M_X12_load) dX12_load_65 ?_
      refine z_istore (M := M_X12_load) (lv' := [some (vr 277), some (vi r_0), some (vl bits_0), none, some (vi (q_lan (q_lus bits_0 52) 2047)), some (vl x_2), none, some (vi x_4), some (vi (q_idv x_4 32)), some (vi (q_irm x_4 32)), some (vi 0), none, none, none]) dX12_load_66 (Nat.le_of_ble_eq_true rfl) rfl rfl ?_
      obtain ⟨rl_10, hw_7, hk_8⟩ := bd_e H
      have J_36 : ∀ k_19 σ_20, rl_10 = (k_19, σ_20) → YY l E M_X12_load 2 0 0 (pS (none) σ') 95 [some (vr 277), some (vi r_0), some (vl bits_0), none, some (vi (q_lan (q_lus bits_0 52) 2047)), some (vl x_2), none, some (vi x_4), some (vi (q_idv x_4 32)), some (vi (q_irm x_4 32)), some (vi k_19), none, none, none] [] σ_20 0 0 := by
        intro k_19 σ_20 e
        have H := hk_8
        rw [e] at H
        refine z_lload (M := M_X12_load) dX12_load_95 rfl ?_
        refine z_ldc2 (M := M_X12_load) (n := 4294967295) dX12_load_97 t_3169 (by decide +kernel) ?_
        refine z_land (M := M_X12_load) dX12_load_100 ?_
        refine z_iload (M := M_X12_load) dX12_load_101 rfl ?_
        refine z_lshl (M := M_X12_load) dX12_load_103 ?_
        refine z_lstore (M := M_X12_load) (lv' := [some (vr 277), some (vi r_0), some (vl bits_0), none, some (vi (q_lan (q_lus bits_0 52) 2047)), some (vl x_2), none, some (vi x_4), some (vi (q_idv x_4 32)), some (vi (q_irm x_4 32)), some (vl (q_lsl (q_lan x_2 4294967295) (q_irm x_4 32))), none, none, none]) dX12_load_104 (Nat.le_of_ble_eq_true rfl) rfl rfl ?_
        refine z_lload (M := M_X12_load) dX12_load_106 rfl ?_
        refine z_bipush (M := M_X12_load) dX12_load_108 (by decide +kernel) ?_
        refine z_lushr (M := M_X12_load) dX12_load_110 ?_
        refine z_iload (M := M_X12_load) dX12_load_111 rfl ?_
        refine z_lshl (M := M_X12_load) dX12_load_113 ?_
        refine z_lload (M := M_X12_load) dX12_load_114 rfl ?_
        refine z_bipush (M := M_X12_load) dX12_load_116 (by decide +kernel) ?_
        refine z_lushr (M := M_X12_load) dX12_load_118 ?_
        refine z_ladd (M := M_X12_load) dX12_load_119 ?_
        obtain ⟨x_21, x_21_e, H⟩ := lt_e H
        refine z_st (congrArg (fun z => vl z :: []) x_21_e) ?_
        refine z_lstore (M := M_X12_load) (lv' := [some (vr 277), some (vi r_0), some (vl bits_0), none, some (vi (q_lan (q_lus bits_0 52) 2047)), some (vl x_2), none, some (vi x_4), some (vi (q_idv x_4 32)), some (vi (q_irm x_4 32)), some (vl (q_lsl (q_lan x_2 4294967295) (q_irm x_4 32))), none, some (vl x_21), none]) dX12_load_120 (Nat.le_of_ble_eq_true rfl) rfl rfl ?_
        refine z_aload_n (M := M_X12_load) dX12_load_122 rfl ?_
        refine z_getR (M := M_X12_load) (ci := 15) (C := RX12) (T := TX12) (Nf := 135) (ty := tyX12) cl15 dX12_load_123 ly_277 36 (by decide) t_2427 rfl ?_
        refine z_sipush (M := M_X12_load) dX12_load_126 (by decide +kernel) ?_
        refine z_iload_n (M := M_X12_load) dX12_load_129 rfl ?_
        refine z_imul (M := M_X12_load) dX12_load_130 ?_
        refine z_iload (M := M_X12_load) dX12_load_131 rfl ?_
        refine z_iadd (M := M_X12_load) dX12_load_133 ?_
        refine z_lload (M := M_X12_load) dX12_load_134 rfl ?_
        refine z_ldc2 (M := M_X12_load) (n := 4294967295) dX12_load_136 t_3169 (by decide +kernel) ?_
        refine z_land (M := M_X12_load) dX12_load_139 ?_
        obtain ⟨σ_22, σ_22_e, hi_23, H⟩ := wa_e H
        refine z_last (M := M_X12_load) dX12_load_140 ly_294 rfl rfl rfl hi_23 σ_22_e ?_
        refine z_aload_n (M := M_X12_load) dX12_load_141 rfl ?_
        refine z_getR (M := M_X12_load) (ci := 15) (C := RX12) (T := TX12) (Nf := 135) (ty := tyX12) cl15 dX12_load_142 ly_277 36 (by decide) t_2427 rfl ?_
        refine z_sipush (M := M_X12_load) dX12_load_145 (by decide +kernel) ?_
        refine z_iload_n (M := M_X12_load) dX12_load_148 rfl ?_
        refine z_imul (M := M_X12_load) dX12_load_149 ?_
        refine z_iload (M := M_X12_load) dX12_load_150 rfl ?_
        refine z_iadd (M := M_X12_load) dX12_load_152 ?_
        refine z_iconst (M := M_X12_load) dX12_load_153 ?_
        refine z_iadd (M := M_X12_load) dX12_load_154 ?_
        refine z_lload (M := M_X12_load) dX12_load_155 rfl ?_
        refine z_ldc2 (M := M_X12_load) (n := 4294967295) dX12_load_157 t_3169 (by decide +kernel) ?_
        refine z_land (M := M_X12_load) dX12_load_160 ?_
        obtain ⟨σ_24, σ_24_e, hi_25, H⟩ := wa_e H
        refine z_last (M := M_X12_load) dX12_load_161 ly_294 rfl rfl rfl hi_25 σ_24_e ?_
        refine z_aload_n (M := M_X12_load) dX12_load_162 rfl ?_
        refine z_getR (M := M_X12_load) (ci := 15) (C := RX12) (T := TX12) (Nf := 135) (ty := tyX12) cl15 dX12_load_163 ly_277 36 (by decide) t_2427 rfl ?_
        refine z_sipush (M := M_X12_load) dX12_load_166 (by decide +kernel) ?_
        refine z_iload_n (M := M_X12_load) dX12_load_169 rfl ?_
        refine z_imul (M := M_X12_load) dX12_load_170 ?_
        refine z_iload (M := M_X12_load) dX12_load_171 rfl ?_
        refine z_iadd (M := M_X12_load) dX12_load_173 ?_
        refine z_iconst (M := M_X12_load) dX12_load_174 ?_
        refine z_iadd (M := M_X12_load) dX12_load_175 ?_
        refine z_lload (M := M_X12_load) dX12_load_176 rfl ?_
        refine z_bipush (M := M_X12_load) dX12_load_178 (by decide +kernel) ?_
        refine z_lushr (M := M_X12_load) dX12_load_180 ?_
        obtain ⟨σ_26, σ_26_e, hi_27, H⟩ := wa_e H
        refine z_last (M := M_X12_load) dX12_load_181 ly_294 rfl rfl rfl hi_27 σ_26_e ?_
        refine z_aload_n (M := M_X12_load) dX12_load_182 rfl ?_
        refine z_getR (M := M_X12_load) (ci := 15) (C := RX12) (T := TX12) (Nf := 135) (ty := tyX12) cl15 dX12_load_183 ly_277 37 (by decide) t_2428 rfl ?_
        refine z_iload_n (M := M_X12_load) dX12_load_186 rfl ?_
        refine z_iload (M := M_X12_load) dX12_load_187 rfl ?_
        refine z_iconst (M := M_X12_load) dX12_load_189 ?_
        refine z_iadd (M := M_X12_load) dX12_load_190 ?_
        obtain ⟨σ_28, σ_28_e, hi_29, H⟩ := wa_e H
        refine z_iast (M := M_X12_load) dX12_load_191 ly_295 rfl rfl rfl hi_29 σ_28_e ?_
        refine z_aload_n (M := M_X12_load) dX12_load_192 rfl ?_
        refine z_getR (M := M_X12_load) (ci := 15) (C := RX12) (T := TX12) (Nf := 135) (ty := tyX12) cl15 dX12_load_193 ly_277 38 (by decide) t_2429 rfl ?_
        refine z_iload_n (M := M_X12_load) dX12_load_196 rfl ?_
        have J_30 : YY l E M_X12_load 2 0 0 (pS (none) σ') 208 [some (vr 277), some (vi r_0), some (vl bits_0), none, some (vi (q_lan (q_lus bits_0 52) 2047)), some (vl x_2), none, some (vi x_4), some (vi (q_idv x_4 32)), some (vi (q_irm x_4 32)), some (vl (q_lsl (q_lan x_2 4294967295) (q_irm x_4 32))), none, some (vl x_21), none] [vi (if (w64 bits_0) < 0 then (-1) else 1), vi r_0, vr 296] σ_28 0 0 := by
          obtain ⟨σ_31, σ_31_e, hi_32, H⟩ := wa_e H
          refine z_iast (M := M_X12_load) dX12_load_208 ly_296 rfl rfl rfl hi_32 σ_31_e ?_
          refine z_aload_n (M := M_X12_load) dX12_load_209 rfl ?_
          refine z_iload_n (M := M_X12_load) dX12_load_210 rfl ?_
          obtain ⟨σ_34, hc_33, H⟩ := bd_e H
          refine z_callV (M := M_X12_load) (M' := M_X12_trim) (as := [vi r_0]) (rest := []) rfl rfl dX12_load_211 m_X12_trim t_3170 t_3172 s_213 (c_X12_trim hl  hc_33) rfl rfl ly_277 rfl (Nat.le_of_ble_eq_true rfl) (Nat.le_of_ble_eq_true rfl) (Nat.le_of_ble_eq_true rfl) (Nat.le_of_ble_eq_true rfl) ?_
          refine z_st (st' := []) rfl ?_
          cases H
          exact z_vret (M := M_X12_load) dX12_load_214 rfl (Nat.le_of_ble_eq_true rfl) (Nat.le_of_ble_eq_true rfl) ⟨rfl, rfl⟩
        refine z_lload_n (M := M_X12_load) dX12_load_197 rfl ?_
        refine z_lconst (M := M_X12_load) (m := 0) dX12_load_198 (by decide +kernel) ?_
        refine z_lcmp (M := M_X12_load) dX12_load_199 ?_
        by_cases h_35 : (w64 bits_0) < 0
        · refine z_lif_ge_f (M := M_X12_load) (tgt := 207) dX12_load_200 (by decide) rfl (by decide +kernel) h_35 ?_
          refine z_iconst (M := M_X12_load) dX12_load_203 ?_
          refine z_goto (M := M_X12_load) (tgt := 208) dX12_load_204 (by decide) ?_
          exact z_st (by rw [if_pos (c := (w64 bits_0) < 0) h_35]) J_30
        · refine z_lif_ge_t (M := M_X12_load) (tgt := 207) dX12_load_200 (by decide) rfl (by decide +kernel) (Int.not_lt.mp h_35) ?_
          refine z_iconst (M := M_X12_load) dX12_load_207 ?_
          exact z_st (by rw [if_neg (c := (w64 bits_0) < 0) h_35]) J_30
      refine whl_go hw_7 (fun (k_5, σ_6) => YY l E M_X12_load 2 0 0 (pS (none) σ') 68 [some (vr 277), some (vi r_0), some (vl bits_0), none, some (vi (q_lan (q_lus bits_0 52) 2047)), some (vl x_2), none, some (vi x_4), some (vi (q_idv x_4 32)), some (vi (q_irm x_4 32)), some (vi k_5), none, none, none] [] σ_6 0 0) ?_
      rintro ⟨k_5, σ_6⟩ o_11 H K_12 K_13
      refine z_iload (M := M_X12_load) dX12_load_68 rfl ?_
      refine z_iload (M := M_X12_load) dX12_load_70 rfl ?_
      rcases if_e H with ⟨h_14, H⟩ | ⟨h_14, H⟩
      · refine z_icmp_ge_f (M := M_X12_load) (tgt := 95) dX12_load_72 (by decide) rfl rfl h_14 ?_
        refine z_aload_n (M := M_X12_load) dX12_load_75 rfl ?_
        refine z_getR (M := M_X12_load) (ci := 15) (C := RX12) (T := TX12) (Nf := 135) (ty := tyX12) cl15 dX12_load_76 ly_277 36 (by decide) t_2427 rfl ?_
        refine z_sipush (M := M_X12_load) dX12_load_79 (by decide +kernel) ?_
        refine z_iload_n (M := M_X12_load) dX12_load_82 rfl ?_
        refine z_imul (M := M_X12_load) dX12_load_83 ?_
        refine z_iload (M := M_X12_load) dX12_load_84 rfl ?_
        refine z_iadd (M := M_X12_load) dX12_load_86 ?_
        refine z_lconst (M := M_X12_load) (m := 0) dX12_load_87 (by decide +kernel) ?_
        obtain ⟨σ_15, σ_15_e, hi_16, H⟩ := wa_e H
        refine z_last (M := M_X12_load) dX12_load_88 ly_294 rfl rfl rfl hi_16 σ_15_e ?_
        refine z_iinc (M := M_X12_load) (lv' := [some (vr 277), some (vi r_0), some (vl bits_0), none, some (vi (q_lan (q_lus bits_0 52) 2047)), some (vl x_2), none, some (vi x_4), some (vi (q_idv x_4 32)), some (vi (q_irm x_4 32)), some (vi (k_5 + 1)), none, none, none]) dX12_load_89 rfl (Nat.le_of_ble_eq_true rfl) rfl rfl ?_
        refine z_goto (M := M_X12_load) (tgt := 68) dX12_load_92 (by decide) ?_
        exact K_12 _ (Option.some.inj H).symm
      · refine z_icmp_ge_t (M := M_X12_load) (tgt := 95) dX12_load_72 (by decide) rfl rfl (Int.not_lt.mp h_14) ?_
        exact J_36 _ _ (K_13 _ (Option.some.inj H).symm).symm
    refine z_iload (M := M_X12_load) dX12_load_36 rfl ?_
    by_cases h_37 : (w32 (q_lan (q_lus bits_0 52) 2047)) = 0
    · refine z_if_ne_f (M := M_X12_load) (tgt := 45) dX12_load_38 (by decide) rfl h_37 ?_
      refine z_iconst (M := M_X12_load) dX12_load_41 ?_
      refine z_goto (M := M_X12_load) (tgt := 49) dX12_load_42 (by decide) ?_
      exact z_st (by rw [if_pos (c := (w32 (q_lan (q_lus bits_0 52) 2047)) = 0) h_37]) J_3
    · refine z_if_ne_t (M := M_X12_load) (tgt := 45) dX12_load_38 (by decide) rfl h_37 ?_
      refine z_iload (M := M_X12_load) dX12_load_45 rfl ?_
      refine z_iconst (M := M_X12_load) dX12_load_47 ?_
      refine z_isub (M := M_X12_load) dX12_load_48 ?_
      exact z_st (by rw [if_neg (c := (w32 (q_lan (q_lus bits_0 52) 2047)) = 0) h_37]) J_3
  refine z_iload (M := M_X12_load) dX12_load_18 rfl ?_
  by_cases h_38 : (w32 (q_lan (q_lus bits_0 52) 2047)) = 0
  · refine z_if_ne_f (M := M_X12_load) (tgt := 28) dX12_load_20 (by decide) rfl h_38 ?_
    refine z_lload (M := M_X12_load) dX12_load_23 rfl ?_
    refine z_goto (M := M_X12_load) (tgt := 34) dX12_load_25 (by decide) ?_
    exact z_st (by rw [if_pos (c := (w32 (q_lan (q_lus bits_0 52) 2047)) = 0) h_38]) J_1
  · refine z_if_ne_t (M := M_X12_load) (tgt := 28) dX12_load_20 (by decide) rfl h_38 ?_
    refine z_lload (M := M_X12_load) dX12_load_28 rfl ?_
    refine z_ldc2 (M := M_X12_load) (n := 4503599627370496) dX12_load_30 t_3008 (by decide +kernel) ?_
    refine z_lor (M := M_X12_load) dX12_load_33 ?_
    exact z_st (by rw [if_neg (c := (w32 (q_lan (q_lus bits_0 52) 2047)) = 0) h_38]) J_1
theorem c_X12_between (hl : l.stackTraces = false) {σ : SG} {to_0 : Int} {isX_0 : Bool} {p_0 : Int} {q_0 : Int} {σ' : SG}  (H : fR_between σ to_0 isX_0 p_0 q_0 = some σ') : en_S l E M_X12_between 4 0 0 [vr 277, vi to_0, zv isX_0, vi p_0, vi q_0] σ (pS (none) σ') := by
  unfold fR_between at H
  refine z_mk (lv := [some (vr 277), some (vi to_0), some (zv isX_0), some (vi p_0), some (vi q_0)]) m_X12_between rfl hl (Nat.le_of_ble_eq_true rfl) rfl ?_
  refine z_aload_n (M := M_X12_between) dX12_between_0 rfl ?_
  refine z_bipush (M := M_X12_between) dX12_between_1 (by decide +kernel) ?_
  obtain ⟨v_35, he_36, hk_37⟩ := bd_e H
  have J_38 : ∀ x_12, v_35 = x_12 → YY l E M_X12_between 4 0 0 (pS (none) σ') 22 [some (vr 277), some (vi to_0), some (zv isX_0), some (vi p_0), some (vi q_0)] [vl x_12, vi 18, vr 277] σ 0 0 := by
    intro x_12 e
    have H := hk_37
    rw [e] at H
    obtain ⟨σ_14, hc_13, H⟩ := bd_e H
    refine z_callV (M := M_X12_between) (M' := M_X12_load) (as := [vi 18, vl x_12]) (rest := []) rfl rfl dX12_between_22 m_X12_load t_3165 t_3167 s_212 (c_X12_load hl  hc_13) rfl rfl ly_277 rfl (Nat.le_of_ble_eq_true rfl) (Nat.le_of_ble_eq_true rfl) (Nat.le_of_ble_eq_true rfl) (Nat.le_of_ble_eq_true rfl) ?_
    refine z_st (st' := []) rfl ?_
    refine z_aload_n (M := M_X12_between) dX12_between_25 rfl ?_
    refine z_bipush (M := M_X12_between) dX12_between_26 (by decide +kernel) ?_
    obtain ⟨v_31, he_32, hk_33⟩ := bd_e H
    have J_34 : ∀ x_26, v_31 = x_26 → YY l E M_X12_between 4 0 0 (pS (none) σ') 49 [some (vr 277), some (vi to_0), some (zv isX_0), some (vi p_0), some (vi q_0)] [vl x_26, vi 19, vr 277] σ_14 0 0 := by
      intro x_26 e
      have H := hk_33
      rw [e] at H
      obtain ⟨σ_28, hc_27, H⟩ := bd_e H
      refine z_callV (M := M_X12_between) (M' := M_X12_load) (as := [vi 19, vl x_26]) (rest := []) rfl rfl dX12_between_49 m_X12_load t_3165 t_3167 s_212 (c_X12_load hl  hc_27) rfl rfl ly_277 rfl (Nat.le_of_ble_eq_true rfl) (Nat.le_of_ble_eq_true rfl) (Nat.le_of_ble_eq_true rfl) (Nat.le_of_ble_eq_true rfl) ?_
      refine z_st (st' := []) rfl ?_
      refine z_aload_n (M := M_X12_between) dX12_between_52 rfl ?_
      refine z_iload_n (M := M_X12_between) dX12_between_53 rfl ?_
      refine z_bipush (M := M_X12_between) dX12_between_54 (by decide +kernel) ?_
      refine z_bipush (M := M_X12_between) dX12_between_56 (by decide +kernel) ?_
      refine z_zconst (M := M_X12_between) (b := true) dX12_between_58 rfl ?_
      obtain ⟨σ_30, hc_29, H⟩ := bd_e H
      refine z_callV (M := M_X12_between) (M' := M_X12_add) (as := [vi to_0, vi 18, vi 19, zv true]) (rest := []) rfl rfl dX12_between_59 m_X12_add t_3174 t_3176 s_214 (c_X12_add hl  hc_29) rfl rfl ly_277 rfl (Nat.le_of_ble_eq_true rfl) (Nat.le_of_ble_eq_true rfl) (Nat.le_of_ble_eq_true rfl) (Nat.le_of_ble_eq_true rfl) ?_
      refine z_st (st' := []) rfl ?_
      cases H
      exact z_vret (M := M_X12_between) dX12_between_62 rfl (Nat.le_of_ble_eq_true rfl) (Nat.le_of_ble_eq_true rfl) ⟨rfl, rfl⟩
    have H := he_32
    refine z_zload_n (M := M_X12_between) dX12_between_28 rfl ?_
    rcases if_e H with ⟨h_19, H⟩ | ⟨h_19, H⟩
    · refine z_zeq_f (M := M_X12_between) (tgt := 42) dX12_between_29 (by decide) h_19 ?_
      refine z_aload_n (M := M_X12_between) dX12_between_32 rfl ?_
      refine z_getR (M := M_X12_between) (ci := 15) (C := RX12) (T := TX12) (Nf := 135) (ty := tyX12) cl15 dX12_between_33 ly_277 39 (by decide) t_2430 rfl ?_
      refine z_iload (M := M_X12_between) dX12_between_36 rfl ?_
      obtain ⟨x_20, x_20_e, hi_21, H⟩ := rd_e H
      refine z_lald (M := M_X12_between) dX12_between_38 ly_297 rfl rfl rfl hi_21 x_20_e ?_
      refine z_goto (M := M_X12_between) (tgt := 49) dX12_between_39 (by decide) ?_
      exact J_34 _ (Option.some.inj H).symm
    · refine z_zeq_t (M := M_X12_between) (tgt := 42) dX12_between_29 (by decide) h_19 ?_
      refine z_aload_n (M := M_X12_between) dX12_between_42 rfl ?_
      refine z_getR (M := M_X12_between) (ci := 15) (C := RX12) (T := TX12) (Nf := 135) (ty := tyX12) cl15 dX12_between_43 ly_277 40 (by decide) t_2431 rfl ?_
      refine z_iload (M := M_X12_between) dX12_between_46 rfl ?_
      obtain ⟨x_23, x_23_e, hi_24, H⟩ := rd_e H
      refine z_lald (M := M_X12_between) dX12_between_48 ly_298 rfl rfl rfl hi_24 x_23_e ?_
      exact J_34 _ (Option.some.inj H).symm
  have H := he_36
  refine z_zload_n (M := M_X12_between) dX12_between_3 rfl ?_
  rcases if_e H with ⟨h_5, H⟩ | ⟨h_5, H⟩
  · refine z_zeq_f (M := M_X12_between) (tgt := 16) dX12_between_4 (by decide) h_5 ?_
    refine z_aload_n (M := M_X12_between) dX12_between_7 rfl ?_
    refine z_getR (M := M_X12_between) (ci := 15) (C := RX12) (T := TX12) (Nf := 135) (ty := tyX12) cl15 dX12_between_8 ly_277 39 (by decide) t_2430 rfl ?_
    refine z_iload_n (M := M_X12_between) dX12_between_11 rfl ?_
    obtain ⟨x_6, x_6_e, hi_7, H⟩ := rd_e H
    refine z_lald (M := M_X12_between) dX12_between_12 ly_297 rfl rfl rfl hi_7 x_6_e ?_
    refine z_goto (M := M_X12_between) (tgt := 22) dX12_between_13 (by decide) ?_
    exact J_38 _ (Option.some.inj H).symm
  · refine z_zeq_t (M := M_X12_between) (tgt := 16) dX12_between_4 (by decide) h_5 ?_
    refine z_aload_n (M := M_X12_between) dX12_between_16 rfl ?_
    refine z_getR (M := M_X12_between) (ci := 15) (C := RX12) (T := TX12) (Nf := 135) (ty := tyX12) cl15 dX12_between_17 ly_277 40 (by decide) t_2431 rfl ?_
    refine z_iload_n (M := M_X12_between) dX12_between_20 rfl ?_
    obtain ⟨x_9, x_9_e, hi_10, H⟩ := rd_e H
    refine z_lald (M := M_X12_between) dX12_between_21 ly_298 rfl rfl rfl hi_10 x_9_e ?_
    exact J_38 _ (Option.some.inj H).symm
theorem c_X12_isPoint (hl : l.stackTraces = false) {σ : SG} {i_0 : Int} {r : Bool}  (H : fR_isPoint i_0 = r) : en_S l E M_X12_isPoint 1 0 0 [vi i_0] σ (pS (some (zv r)) σ) := by
  unfold fR_isPoint at H
  refine z_mk (lv := [some (vi i_0)]) m_X12_isPoint rfl hl (Nat.le_of_ble_eq_true rfl) rfl ?_
  have J_1 : YY l E M_X12_isPoint 1 0 0 (pS (some (zv r)) σ) 15 [some (vi i_0)] [zv (decide ((0 ≤ (w32 i_0)) ∧ ((w32 i_0) < 32)))] σ 0 0 := by
    cases H
    exact z_zret (M := M_X12_isPoint) dX12_isPoint_15 rfl (Nat.le_of_ble_eq_true rfl) (Nat.le_of_ble_eq_true rfl) ⟨rfl, rfl⟩
  refine z_iload_n (M := M_X12_isPoint) dX12_isPoint_0 rfl ?_
  by_cases h_2 : 0 ≤ (w32 i_0)
  · refine z_if_lt_f (M := M_X12_isPoint) (tgt := 14) dX12_isPoint_1 (by decide) rfl h_2 ?_
    refine z_iload_n (M := M_X12_isPoint) dX12_isPoint_4 rfl ?_
    refine z_bipush (M := M_X12_isPoint) dX12_isPoint_5 (by decide +kernel) ?_
    by_cases h_3 : (w32 i_0) < 32
    · refine z_icmp_ge_f (M := M_X12_isPoint) (tgt := 14) dX12_isPoint_7 (by decide) rfl (by decide +kernel) h_3 ?_
      refine z_iconst (M := M_X12_isPoint) dX12_isPoint_10 ?_
      refine z_goto (M := M_X12_isPoint) (tgt := 15) dX12_isPoint_11 (by decide) ?_
      exact z_st (by rw [zv_t (p := (0 ≤ (w32 i_0)) ∧ ((w32 i_0) < 32)) ⟨h_2, h_3⟩]) J_1
    · refine z_icmp_ge_t (M := M_X12_isPoint) (tgt := 14) dX12_isPoint_7 (by decide) rfl (by decide +kernel) (Int.not_lt.mp h_3) ?_
      refine z_iconst (M := M_X12_isPoint) dX12_isPoint_14 ?_
      exact z_st (by rw [zv_f (p := (0 ≤ (w32 i_0)) ∧ ((w32 i_0) < 32)) (fun q => h_3 q.2)]) J_1
  · refine z_if_lt_t (M := M_X12_isPoint) (tgt := 14) dX12_isPoint_1 (by decide) rfl (Int.not_le.mp h_2) ?_
    refine z_iconst (M := M_X12_isPoint) dX12_isPoint_14 ?_
    exact z_st (by rw [zv_f (p := (0 ≤ (w32 i_0)) ∧ ((w32 i_0) < 32)) (fun q => h_2 q.1)]) J_1
theorem c_X12_point (hl : l.stackTraces = false) {σ : SG} {i_0 : Int} {x_0 : Int} {y_0 : Int} {σ' : SG}  (H : fR_point σ i_0 x_0 y_0 = some σ') : en_S l E M_X12_point 2 0 0 [vr 277, vi i_0, vl x_0, vl y_0] σ (pS (none) σ') := by
  unfold fR_point at H
  refine z_mk (lv := [some (vr 277), some (vi i_0), some (vl x_0), none, some (vl y_0), none, none]) m_X12_point rfl hl (Nat.le_of_ble_eq_true rfl) rfl ?_
  refine z_aload_n (M := M_X12_point) dX12_point_0 rfl ?_
  refine z_iconst (M := M_X12_point) dX12_point_1 ?_
  obtain ⟨σ_1, σ_1_e, H⟩ := wf_e H
  refine z_putI (M := M_X12_point) (ci := 15) (C := RX12) (T := TX12) (Nf := 135) (ty := tyX12) cl15 dX12_point_2 ly_277 0 (by decide) t_2391 rfl rfl rfl rfl σ_1_e ?_
  have J_2 : YY l E M_X12_point 2 0 0 (pS (none) σ') 41 [some (vr 277), some (vi i_0), some (vl x_0), none, some (vl y_0), none, none] [zv (decide (((w64 (q_lan (q_lus x_0 52) 2047)) = 2047) ∨ ((w64 (q_lan (q_lus y_0 52) 2047)) = 2047)))] σ_1 0 0 := by
    obtain ⟨x_3, x_3_e, H⟩ := lt_e H
    refine z_st (congrArg (fun z => zv z :: []) x_3_e) ?_
    refine z_zstore (M := M_X12_point) (lv' := [some (vr 277), some (vi i_0), some (vl x_0), none, some (vl y_0), none, some (zv x_3)]) dX12_point_41 (Nat.le_of_ble_eq_true rfl) rfl rfl ?_
    refine z_aload_n (M := M_X12_point) dX12_point_43 rfl ?_
    have J_17 : YY l E M_X12_point 2 0 0 (pS (none) σ') 56 [some (vr 277), some (vi i_0), some (vl x_0), none, some (vl y_0), none, some (zv x_3)] [zv (decide (¬ ((fR_isPoint i_0) = true))), vr 277] σ_1 0 0 := by
      refine z_iconst (M := M_X12_point) dX12_point_56 ?_
      obtain ⟨⟨x_20, σ_19⟩, hc_18, H⟩ := bd_e H
      refine z_callV (M := M_X12_point) (M' := M_X12_fails) (as := [zv (decide (¬ ((fR_isPoint i_0) = true))), vi 1]) (rest := []) rfl rfl dX12_point_57 m_X12_fails t_2805 t_2807 s_157 (c_X12_fails hl  hc_18) rfl rfl ly_277 rfl (Nat.le_of_ble_eq_true rfl) (Nat.le_of_ble_eq_true rfl) (Nat.le_of_ble_eq_true rfl) (Nat.le_of_ble_eq_true rfl) ?_
      refine z_st (st' := [zv x_20]) rfl ?_
      rcases if_e H with ⟨h_21, H⟩ | ⟨h_21, H⟩
      · refine z_zne_t (M := M_X12_point) (tgt := 73) dX12_point_60 (by decide) h_21 ?_
        cases H
        exact z_vret (M := M_X12_point) dX12_point_73 rfl (Nat.le_of_ble_eq_true rfl) (Nat.le_of_ble_eq_true rfl) ⟨rfl, rfl⟩
      · refine z_zne_f (M := M_X12_point) (tgt := 73) dX12_point_60 (by decide) h_21 ?_
        refine z_aload_n (M := M_X12_point) dX12_point_63 rfl ?_
        refine z_zload (M := M_X12_point) dX12_point_64 rfl ?_
        refine z_iconst (M := M_X12_point) dX12_point_66 ?_
        obtain ⟨⟨x_24, σ_23⟩, hc_22, H⟩ := bd_e H
        refine z_callV (M := M_X12_point) (M' := M_X12_fails) (as := [zv x_3, vi 2]) (rest := []) rfl rfl dX12_point_67 m_X12_fails t_2805 t_2807 s_157 (c_X12_fails hl  hc_22) rfl rfl ly_277 rfl (Nat.le_of_ble_eq_true rfl) (Nat.le_of_ble_eq_true rfl) (Nat.le_of_ble_eq_true rfl) (Nat.le_of_ble_eq_true rfl) ?_
        refine z_st (st' := [zv x_24]) rfl ?_
        rcases if_e H with ⟨h_25, H⟩ | ⟨h_25, H⟩
        · refine z_zeq_f (M := M_X12_point) (tgt := 74) dX12_point_70 (by decide) h_25 ?_
          cases H
          exact z_vret (M := M_X12_point) dX12_point_73 rfl (Nat.le_of_ble_eq_true rfl) (Nat.le_of_ble_eq_true rfl) ⟨rfl, rfl⟩
        · refine z_zeq_t (M := M_X12_point) (tgt := 74) dX12_point_70 (by decide) h_25 ?_
          refine z_aload_n (M := M_X12_point) dX12_point_74 rfl ?_
          refine z_getR (M := M_X12_point) (ci := 15) (C := RX12) (T := TX12) (Nf := 135) (ty := tyX12) cl15 dX12_point_75 ly_277 39 (by decide) t_2430 rfl ?_
          refine z_iload_n (M := M_X12_point) dX12_point_78 rfl ?_
          refine z_lload_n (M := M_X12_point) dX12_point_79 rfl ?_
          obtain ⟨σ_26, σ_26_e, hi_27, H⟩ := wa_e H
          refine z_last (M := M_X12_point) dX12_point_80 ly_297 rfl rfl rfl hi_27 σ_26_e ?_
          refine z_aload_n (M := M_X12_point) dX12_point_81 rfl ?_
          refine z_getR (M := M_X12_point) (ci := 15) (C := RX12) (T := TX12) (Nf := 135) (ty := tyX12) cl15 dX12_point_82 ly_277 40 (by decide) t_2431 rfl ?_
          refine z_iload_n (M := M_X12_point) dX12_point_85 rfl ?_
          refine z_lload (M := M_X12_point) dX12_point_86 rfl ?_
          obtain ⟨σ_28, σ_28_e, hi_29, H⟩ := wa_e H
          refine z_last (M := M_X12_point) dX12_point_88 ly_298 rfl rfl rfl hi_29 σ_28_e ?_
          cases H
          exact z_vret (M := M_X12_point) dX12_point_89 rfl (Nat.le_of_ble_eq_true rfl) (Nat.le_of_ble_eq_true rfl) ⟨rfl, rfl⟩
    refine z_iload_n (M := M_X12_point) dX12_point_44 rfl ?_
    refine z_callS (M := M_X12_point) (M' := M_X12_isPoint) (as := [vi i_0]) (rest := [vr 277]) rfl rfl dX12_point_45 m_X12_isPoint t_3154 t_3155 (c_X12_isPoint hl  rfl) rfl rfl (Nat.le_of_ble_eq_true rfl) (Nat.le_of_ble_eq_true rfl) (Nat.le_of_ble_eq_true rfl) (Nat.le_of_ble_eq_true rfl) ?_
    refine z_st (st' := [zv (fR_isPoint i_0), vr 277]) rfl ?_
    by_cases h_30 : (fR_isPoint i_0) = true
    · refine z_zne_t (M := M_X12_point) (tgt := 55) dX12_point_48 (by decide) h_30 ?_
      refine z_iconst (M := M_X12_point) dX12_point_55 ?_
      exact z_st (by rw [zv_f (p := ¬ ((fR_isPoint i_0) = true)) (not_not_intro h_30)]) J_17
    · refine z_zne_f (M := M_X12_point) (tgt := 55) dX12_point_48 (by decide) h_30 ?_
      refine z_iconst (M := M_X12_point) dX12_point_51 ?_
      refine z_goto (M := M_X12_point) (tgt := 56) dX12_point_52 (by decide) ?_
      exact z_st (by rw [zv_t (p := ¬ ((fR_isPoint i_0) = true)) h_30]) J_17
  refine z_lload_n (M := M_X12_point) dX12_point_5 rfl ?_
  refine z_bipush (M := M_X12_point) dX12_point_6 (by decide +kernel) ?_
  refine z_lushr (M := M_X12_point) dX12_point_8 ?_
  refine z_ldc2 (M := M_X12_point) (n := 2047) dX12_point_9 t_2994 (by decide +kernel) ?_
  refine z_land (M := M_X12_point) dX12_point_12 ?_
  refine z_ldc2 (M := M_X12_point) (n := 2047) dX12_point_13 t_2994 (by decide +kernel) ?_
  refine z_lcmp (M := M_X12_point) dX12_point_16 ?_
  by_cases h_31 : (w64 (q_lan (q_lus x_0 52) 2047)) = 2047
  · refine z_lif_eq_t (M := M_X12_point) (tgt := 36) dX12_point_17 (by decide) rfl (by decide +kernel) h_31 ?_
    refine z_iconst (M := M_X12_point) dX12_point_36 ?_
    refine z_goto (M := M_X12_point) (tgt := 41) dX12_point_37 (by decide) ?_
    exact z_st (by rw [zv_t (p := ((w64 (q_lan (q_lus x_0 52) 2047)) = 2047) ∨ ((w64 (q_lan (q_lus y_0 52) 2047)) = 2047)) (Or.inl h_31)]) J_2
  · refine z_lif_eq_f (M := M_X12_point) (tgt := 36) dX12_point_17 (by decide) rfl (by decide +kernel) h_31 ?_
    refine z_lload (M := M_X12_point) dX12_point_20 rfl ?_
    refine z_bipush (M := M_X12_point) dX12_point_22 (by decide +kernel) ?_
    refine z_lushr (M := M_X12_point) dX12_point_24 ?_
    refine z_ldc2 (M := M_X12_point) (n := 2047) dX12_point_25 t_2994 (by decide +kernel) ?_
    refine z_land (M := M_X12_point) dX12_point_28 ?_
    refine z_ldc2 (M := M_X12_point) (n := 2047) dX12_point_29 t_2994 (by decide +kernel) ?_
    refine z_lcmp (M := M_X12_point) dX12_point_32 ?_
    by_cases h_32 : (w64 (q_lan (q_lus y_0 52) 2047)) = 2047
    · refine z_lif_ne_f (M := M_X12_point) (tgt := 40) dX12_point_33 (by decide) rfl (by decide +kernel) h_32 ?_
      refine z_iconst (M := M_X12_point) dX12_point_36 ?_
      refine z_goto (M := M_X12_point) (tgt := 41) dX12_point_37 (by decide) ?_
      exact z_st (by rw [zv_t (p := ((w64 (q_lan (q_lus x_0 52) 2047)) = 2047) ∨ ((w64 (q_lan (q_lus y_0 52) 2047)) = 2047)) (Or.inr h_32)]) J_2
    · refine z_lif_ne_t (M := M_X12_point) (tgt := 40) dX12_point_33 (by decide) rfl (by decide +kernel) h_32 ?_
      refine z_iconst (M := M_X12_point) dX12_point_40 ?_
      exact z_st (by rw [zv_f (p := ((w64 (q_lan (q_lus x_0 52) 2047)) = 2047) ∨ ((w64 (q_lan (q_lus y_0 52) 2047)) = 2047)) (fun q => q.elim h_31 h_32)]) J_2
theorem c_X12_side (hl : l.stackTraces = false) {σ : SG} {i_0 : Int} {j_0 : Int} {k_0 : Int} {r : Int} {σ' : SG}  (H : fR_side σ i_0 j_0 k_0 = some (r, σ')) : en_S l E M_X12_side 5 0 0 [vr 277, vi i_0, vi j_0, vi k_0] σ (pS (some (vi r)) σ') := by
  unfold fR_side at H
  refine z_mk (lv := [some (vr 277), some (vi i_0), some (vi j_0), some (vi k_0)]) m_X12_side rfl hl (Nat.le_of_ble_eq_true rfl) rfl ?_
  refine z_aload_n (M := M_X12_side) dX12_side_0 rfl ?_
  refine z_iconst (M := M_X12_side) dX12_side_1 ?_
  obtain ⟨σ_1, σ_1_e, H⟩ := wf_e H
  refine z_putI (M := M_X12_side) (ci := 15) (C := RX12) (T := TX12) (Nf := 135) (ty := tyX12) cl15 dX12_side_2 ly_277 0 (by decide) t_2391 rfl rfl rfl rfl σ_1_e ?_
  refine z_aload_n (M := M_X12_side) dX12_side_5 rfl ?_
  have J_2 : YY l E M_X12_side 5 0 0 (pS (some (vi r)) σ') 32 [some (vr 277), some (vi i_0), some (vi j_0), some (vi k_0)] [zv (decide (((¬ ((fR_isPoint i_0) = true)) ∨ (¬ ((fR_isPoint j_0) = true))) ∨ (¬ ((fR_isPoint k_0) = true)))), vr 277] σ_1 0 0 := by
    refine z_iconst (M := M_X12_side) dX12_side_32 ?_
    obtain ⟨⟨x_5, σ_4⟩, hc_3, H⟩ := bd_e H
    refine z_callV (M := M_X12_side) (M' := M_X12_fails) (as := [zv (decide (((¬ ((fR_isPoint i_0) = true)) ∨ (¬ ((fR_isPoint j_0) = true))) ∨ (¬ ((fR_isPoint k_0) = true)))), vi 1]) (rest := []) rfl rfl dX12_side_33 m_X12_fails t_2805 t_2807 s_157 (c_X12_fails hl  hc_3) rfl rfl ly_277 rfl (Nat.le_of_ble_eq_true rfl) (Nat.le_of_ble_eq_true rfl) (Nat.le_of_ble_eq_true rfl) (Nat.le_of_ble_eq_true rfl) ?_
    refine z_st (st' := [zv x_5]) rfl ?_
    rcases if_e H with ⟨h_6, H⟩ | ⟨h_6, H⟩
    · refine z_zeq_f (M := M_X12_side) (tgt := 41) dX12_side_36 (by decide) h_6 ?_
      refine z_iconst (M := M_X12_side) dX12_side_39 ?_
      cases H
      exact z_iret (M := M_X12_side) dX12_side_40 rfl (Nat.le_of_ble_eq_true rfl) (Nat.le_of_ble_eq_true rfl) ⟨rfl, rfl⟩
    · refine z_zeq_t (M := M_X12_side) (tgt := 41) dX12_side_36 (by decide) h_6 ?_
      refine z_aload_n (M := M_X12_side) dX12_side_41 rfl ?_
      refine z_iconst (M := M_X12_side) dX12_side_42 ?_
      refine z_zconst (M := M_X12_side) (b := true) dX12_side_43 rfl ?_
      refine z_iload_n (M := M_X12_side) dX12_side_44 rfl ?_
      refine z_iload_n (M := M_X12_side) dX12_side_45 rfl ?_
      obtain ⟨σ_8, hc_7, H⟩ := bd_e H
      refine z_callV (M := M_X12_side) (M' := M_X12_between) (as := [vi 0, zv true, vi j_0, vi i_0]) (rest := []) rfl rfl dX12_side_46 m_X12_between t_3161 t_3163 s_211 (c_X12_between hl  hc_7) rfl rfl ly_277 rfl (Nat.le_of_ble_eq_true rfl) (Nat.le_of_ble_eq_true rfl) (Nat.le_of_ble_eq_true rfl) (Nat.le_of_ble_eq_true rfl) ?_
      refine z_st (st' := []) rfl ?_
      refine z_aload_n (M := M_X12_side) dX12_side_49 rfl ?_
      refine z_iconst (M := M_X12_side) dX12_side_50 ?_
      refine z_zconst (M := M_X12_side) (b := false) dX12_side_51 rfl ?_
      refine z_iload_n (M := M_X12_side) dX12_side_52 rfl ?_
      refine z_iload_n (M := M_X12_side) dX12_side_53 rfl ?_
      obtain ⟨σ_10, hc_9, H⟩ := bd_e H
      refine z_callV (M := M_X12_side) (M' := M_X12_between) (as := [vi 1, zv false, vi k_0, vi i_0]) (rest := []) rfl rfl dX12_side_54 m_X12_between t_3161 t_3163 s_211 (c_X12_between hl  hc_9) rfl rfl ly_277 rfl (Nat.le_of_ble_eq_true rfl) (Nat.le_of_ble_eq_true rfl) (Nat.le_of_ble_eq_true rfl) (Nat.le_of_ble_eq_true rfl) ?_
      refine z_st (st' := []) rfl ?_
      refine z_aload_n (M := M_X12_side) dX12_side_57 rfl ?_
      refine z_iconst (M := M_X12_side) dX12_side_58 ?_
      refine z_zconst (M := M_X12_side) (b := false) dX12_side_59 rfl ?_
      refine z_iload_n (M := M_X12_side) dX12_side_60 rfl ?_
      refine z_iload_n (M := M_X12_side) dX12_side_61 rfl ?_
      obtain ⟨σ_12, hc_11, H⟩ := bd_e H
      refine z_callV (M := M_X12_side) (M' := M_X12_between) (as := [vi 2, zv false, vi j_0, vi i_0]) (rest := []) rfl rfl dX12_side_62 m_X12_between t_3161 t_3163 s_211 (c_X12_between hl  hc_11) rfl rfl ly_277 rfl (Nat.le_of_ble_eq_true rfl) (Nat.le_of_ble_eq_true rfl) (Nat.le_of_ble_eq_true rfl) (Nat.le_of_ble_eq_true rfl) ?_
      refine z_st (st' := []) rfl ?_
      refine z_aload_n (M := M_X12_side) dX12_side_65 rfl ?_
      refine z_iconst (M := M_X12_side) dX12_side_66 ?_
      refine z_zconst (M := M_X12_side) (b := true) dX12_side_67 rfl ?_
      refine z_iload_n (M := M_X12_side) dX12_side_68 rfl ?_
      refine z_iload_n (M := M_X12_side) dX12_side_69 rfl ?_
      obtain ⟨σ_14, hc_13, H⟩ := bd_e H
      refine z_callV (M := M_X12_side) (M' := M_X12_between) (as := [vi 3, zv true, vi k_0, vi i_0]) (rest := []) rfl rfl dX12_side_70 m_X12_between t_3161 t_3163 s_211 (c_X12_between hl  hc_13) rfl rfl ly_277 rfl (Nat.le_of_ble_eq_true rfl) (Nat.le_of_ble_eq_true rfl) (Nat.le_of_ble_eq_true rfl) (Nat.le_of_ble_eq_true rfl) ?_
      refine z_st (st' := []) rfl ?_
      refine z_aload_n (M := M_X12_side) dX12_side_73 rfl ?_
      refine z_iconst (M := M_X12_side) dX12_side_74 ?_
      refine z_iconst (M := M_X12_side) dX12_side_75 ?_
      refine z_iconst (M := M_X12_side) dX12_side_76 ?_
      obtain ⟨σ_16, hc_15, H⟩ := bd_e H
      refine z_callV (M := M_X12_side) (M' := M_X12_times) (as := [vi 4, vi 0, vi 1]) (rest := []) rfl rfl dX12_side_77 m_X12_times t_3194 t_3196 s_219 (c_X12_times hl  hc_15) rfl rfl ly_277 rfl (Nat.le_of_ble_eq_true rfl) (Nat.le_of_ble_eq_true rfl) (Nat.le_of_ble_eq_true rfl) (Nat.le_of_ble_eq_true rfl) ?_
      refine z_st (st' := []) rfl ?_
      refine z_aload_n (M := M_X12_side) dX12_side_80 rfl ?_
      refine z_iconst (M := M_X12_side) dX12_side_81 ?_
      refine z_iconst (M := M_X12_side) dX12_side_82 ?_
      refine z_iconst (M := M_X12_side) dX12_side_83 ?_
      obtain ⟨σ_18, hc_17, H⟩ := bd_e H
      refine z_callV (M := M_X12_side) (M' := M_X12_times) (as := [vi 5, vi 2, vi 3]) (rest := []) rfl rfl dX12_side_84 m_X12_times t_3194 t_3196 s_219 (c_X12_times hl  hc_17) rfl rfl ly_277 rfl (Nat.le_of_ble_eq_true rfl) (Nat.le_of_ble_eq_true rfl) (Nat.le_of_ble_eq_true rfl) (Nat.le_of_ble_eq_true rfl) ?_
      refine z_st (st' := []) rfl ?_
      refine z_aload_n (M := M_X12_side) dX12_side_87 rfl ?_
      refine z_bipush (M := M_X12_side) dX12_side_88 (by decide +kernel) ?_
      refine z_iconst (M := M_X12_side) dX12_side_90 ?_
      refine z_iconst (M := M_X12_side) dX12_side_91 ?_
      refine z_zconst (M := M_X12_side) (b := true) dX12_side_92 rfl ?_
      obtain ⟨σ_20, hc_19, H⟩ := bd_e H
      refine z_callV (M := M_X12_side) (M' := M_X12_add) (as := [vi 6, vi 4, vi 5, zv true]) (rest := []) rfl rfl dX12_side_93 m_X12_add t_3174 t_3176 s_214 (c_X12_add hl  hc_19) rfl rfl ly_277 rfl (Nat.le_of_ble_eq_true rfl) (Nat.le_of_ble_eq_true rfl) (Nat.le_of_ble_eq_true rfl) (Nat.le_of_ble_eq_true rfl) ?_
      refine z_st (st' := []) rfl ?_
      refine z_aload_n (M := M_X12_side) dX12_side_96 rfl ?_
      refine z_getR (M := M_X12_side) (ci := 15) (C := RX12) (T := TX12) (Nf := 135) (ty := tyX12) cl15 dX12_side_97 ly_277 38 (by decide) t_2429 rfl ?_
      refine z_bipush (M := M_X12_side) dX12_side_100 (by decide +kernel) ?_
      obtain ⟨x_21, x_21_e, hi_22, H⟩ := rd_e H
      refine z_iald (M := M_X12_side) dX12_side_102 ly_296 rfl (by decide +kernel) rfl hi_22 x_21_e ?_
      cases H
      exact z_iret (M := M_X12_side) dX12_side_103 rfl (Nat.le_of_ble_eq_true rfl) (Nat.le_of_ble_eq_true rfl) ⟨rfl, rfl⟩
  refine z_iload_n (M := M_X12_side) dX12_side_6 rfl ?_
  refine z_callS (M := M_X12_side) (M' := M_X12_isPoint) (as := [vi i_0]) (rest := [vr 277]) rfl rfl dX12_side_7 m_X12_isPoint t_3154 t_3155 (c_X12_isPoint hl  rfl) rfl rfl (Nat.le_of_ble_eq_true rfl) (Nat.le_of_ble_eq_true rfl) (Nat.le_of_ble_eq_true rfl) (Nat.le_of_ble_eq_true rfl) ?_
  refine z_st (st' := [zv (fR_isPoint i_0), vr 277]) rfl ?_
  by_cases h_23 : (fR_isPoint i_0) = true
  · refine z_zeq_f (M := M_X12_side) (tgt := 27) dX12_side_10 (by decide) h_23 ?_
    refine z_iload_n (M := M_X12_side) dX12_side_13 rfl ?_
    refine z_callS (M := M_X12_side) (M' := M_X12_isPoint) (as := [vi j_0]) (rest := [vr 277]) rfl rfl dX12_side_14 m_X12_isPoint t_3154 t_3155 (c_X12_isPoint hl  rfl) rfl rfl (Nat.le_of_ble_eq_true rfl) (Nat.le_of_ble_eq_true rfl) (Nat.le_of_ble_eq_true rfl) (Nat.le_of_ble_eq_true rfl) ?_
    refine z_st (st' := [zv (fR_isPoint j_0), vr 277]) rfl ?_
    by_cases h_24 : (fR_isPoint j_0) = true
    · refine z_zeq_f (M := M_X12_side) (tgt := 27) dX12_side_17 (by decide) h_24 ?_
      refine z_iload_n (M := M_X12_side) dX12_side_20 rfl ?_
      refine z_callS (M := M_X12_side) (M' := M_X12_isPoint) (as := [vi k_0]) (rest := [vr 277]) rfl rfl dX12_side_21 m_X12_isPoint t_3154 t_3155 (c_X12_isPoint hl  rfl) rfl rfl (Nat.le_of_ble_eq_true rfl) (Nat.le_of_ble_eq_true rfl) (Nat.le_of_ble_eq_true rfl) (Nat.le_of_ble_eq_true rfl) ?_
      refine z_st (st' := [zv (fR_isPoint k_0), vr 277]) rfl ?_
      by_cases h_25 : (fR_isPoint k_0) = true
      · refine z_zne_t (M := M_X12_side) (tgt := 31) dX12_side_24 (by decide) h_25 ?_
        refine z_iconst (M := M_X12_side) dX12_side_31 ?_
        exact z_st (by rw [zv_f (p := ((¬ ((fR_isPoint i_0) = true)) ∨ (¬ ((fR_isPoint j_0) = true))) ∨ (¬ ((fR_isPoint k_0) = true))) (fun q => q.elim (fun q => q.elim (not_not_intro h_23) (not_not_intro h_24)) (not_not_intro h_25))]) J_2
      · refine z_zne_f (M := M_X12_side) (tgt := 31) dX12_side_24 (by decide) h_25 ?_
        refine z_iconst (M := M_X12_side) dX12_side_27 ?_
        refine z_goto (M := M_X12_side) (tgt := 32) dX12_side_28 (by decide) ?_
        exact z_st (by rw [zv_t (p := ((¬ ((fR_isPoint i_0) = true)) ∨ (¬ ((fR_isPoint j_0) = true))) ∨ (¬ ((fR_isPoint k_0) = true))) (Or.inr h_25)]) J_2
    · refine z_zeq_t (M := M_X12_side) (tgt := 27) dX12_side_17 (by decide) h_24 ?_
      refine z_iconst (M := M_X12_side) dX12_side_27 ?_
      refine z_goto (M := M_X12_side) (tgt := 32) dX12_side_28 (by decide) ?_
      exact z_st (by rw [zv_t (p := ((¬ ((fR_isPoint i_0) = true)) ∨ (¬ ((fR_isPoint j_0) = true))) ∨ (¬ ((fR_isPoint k_0) = true))) (Or.inl (Or.inr h_24))]) J_2
  · refine z_zeq_t (M := M_X12_side) (tgt := 27) dX12_side_10 (by decide) h_23 ?_
    refine z_iconst (M := M_X12_side) dX12_side_27 ?_
    refine z_goto (M := M_X12_side) (tgt := 32) dX12_side_28 (by decide) ?_
    exact z_st (by rw [zv_t (p := ((¬ ((fR_isPoint i_0) = true)) ∨ (¬ ((fR_isPoint j_0) = true))) ∨ (¬ ((fR_isPoint k_0) = true))) (Or.inl (Or.inl h_23))]) J_2
theorem c_X12_squares (hl : l.stackTraces = false) {σ : SG} {row_0 : Int} {σ' : SG}  (H : fR_squares σ row_0 = some σ') : en_S l E M_X12_squares 4 0 0 [vr 277, vi row_0] σ (pS (none) σ') := by
  unfold fR_squares at H
  refine z_mk (lv := [some (vr 277), some (vi row_0)]) m_X12_squares rfl hl (Nat.le_of_ble_eq_true rfl) rfl ?_
  refine z_aload_n (M := M_X12_squares) dX12_squares_0 rfl ?_
  refine z_bipush (M := M_X12_squares) dX12_squares_1 (by decide +kernel) ?_
  refine z_iconst (M := M_X12_squares) dX12_squares_3 ?_
  refine z_iload_n (M := M_X12_squares) dX12_squares_4 rfl ?_
  refine z_imul (M := M_X12_squares) dX12_squares_5 ?_
  refine z_iconst (M := M_X12_squares) dX12_squares_6 ?_
  refine z_iload_n (M := M_X12_squares) dX12_squares_7 rfl ?_
  refine z_imul (M := M_X12_squares) dX12_squares_8 ?_
  obtain ⟨σ_2, hc_1, H⟩ := bd_e H
  refine z_callV (M := M_X12_squares) (M' := M_X12_times) (as := [vi 9, vi (3 * row_0), vi (3 * row_0)]) (rest := []) rfl rfl dX12_squares_9 m_X12_times t_3194 t_3196 s_219 (c_X12_times hl  hc_1) rfl rfl ly_277 rfl (Nat.le_of_ble_eq_true rfl) (Nat.le_of_ble_eq_true rfl) (Nat.le_of_ble_eq_true rfl) (Nat.le_of_ble_eq_true rfl) ?_
  refine z_st (st' := []) rfl ?_
  refine z_aload_n (M := M_X12_squares) dX12_squares_12 rfl ?_
  refine z_bipush (M := M_X12_squares) dX12_squares_13 (by decide +kernel) ?_
  refine z_iconst (M := M_X12_squares) dX12_squares_15 ?_
  refine z_iload_n (M := M_X12_squares) dX12_squares_16 rfl ?_
  refine z_imul (M := M_X12_squares) dX12_squares_17 ?_
  refine z_iconst (M := M_X12_squares) dX12_squares_18 ?_
  refine z_iadd (M := M_X12_squares) dX12_squares_19 ?_
  refine z_iconst (M := M_X12_squares) dX12_squares_20 ?_
  refine z_iload_n (M := M_X12_squares) dX12_squares_21 rfl ?_
  refine z_imul (M := M_X12_squares) dX12_squares_22 ?_
  refine z_iconst (M := M_X12_squares) dX12_squares_23 ?_
  refine z_iadd (M := M_X12_squares) dX12_squares_24 ?_
  obtain ⟨σ_4, hc_3, H⟩ := bd_e H
  refine z_callV (M := M_X12_squares) (M' := M_X12_times) (as := [vi 10, vi ((3 * row_0) + 1), vi ((3 * row_0) + 1)]) (rest := []) rfl rfl dX12_squares_25 m_X12_times t_3194 t_3196 s_219 (c_X12_times hl  hc_3) rfl rfl ly_277 rfl (Nat.le_of_ble_eq_true rfl) (Nat.le_of_ble_eq_true rfl) (Nat.le_of_ble_eq_true rfl) (Nat.le_of_ble_eq_true rfl) ?_
  refine z_st (st' := []) rfl ?_
  refine z_aload_n (M := M_X12_squares) dX12_squares_28 rfl ?_
  refine z_iconst (M := M_X12_squares) dX12_squares_29 ?_
  refine z_iload_n (M := M_X12_squares) dX12_squares_30 rfl ?_
  refine z_imul (M := M_X12_squares) dX12_squares_31 ?_
  refine z_iconst (M := M_X12_squares) dX12_squares_32 ?_
  refine z_iadd (M := M_X12_squares) dX12_squares_33 ?_
  refine z_bipush (M := M_X12_squares) dX12_squares_34 (by decide +kernel) ?_
  refine z_bipush (M := M_X12_squares) dX12_squares_36 (by decide +kernel) ?_
  refine z_zconst (M := M_X12_squares) (b := false) dX12_squares_38 rfl ?_
  obtain ⟨σ_6, hc_5, H⟩ := bd_e H
  refine z_callV (M := M_X12_squares) (M' := M_X12_add) (as := [vi ((3 * row_0) + 2), vi 9, vi 10, zv false]) (rest := []) rfl rfl dX12_squares_39 m_X12_add t_3174 t_3176 s_214 (c_X12_add hl  hc_5) rfl rfl ly_277 rfl (Nat.le_of_ble_eq_true rfl) (Nat.le_of_ble_eq_true rfl) (Nat.le_of_ble_eq_true rfl) (Nat.le_of_ble_eq_true rfl) ?_
  refine z_st (st' := []) rfl ?_
  cases H
  exact z_vret (M := M_X12_squares) dX12_squares_42 rfl (Nat.le_of_ble_eq_true rfl) (Nat.le_of_ble_eq_true rfl) ⟨rfl, rfl⟩
theorem c_X12_determinant (hl : l.stackTraces = false) {σ : SG} {r : Int} {σ' : SG}  (H : fR_determinant σ = some (r, σ')) : en_S l E M_X12_determinant 4 0 0 [vr 277] σ (pS (some (vi r)) σ') := by
  unfold fR_determinant at H
  refine z_mk (lv := [some (vr 277), none, none, none]) m_X12_determinant rfl hl (Nat.le_of_ble_eq_true rfl) rfl ?_
  refine z_aload_n (M := M_X12_determinant) dX12_determinant_0 rfl ?_
  refine z_bipush (M := M_X12_determinant) dX12_determinant_1 (by decide +kernel) ?_
  refine z_lconst (M := M_X12_determinant) (m := 0) dX12_determinant_3 (by decide +kernel) ?_
  obtain ⟨σ_2, hc_1, H⟩ := bd_e H
  refine z_callV (M := M_X12_determinant) (M' := M_X12_set) (as := [vi 15, vl 0]) (rest := []) rfl rfl dX12_determinant_4 m_X12_set t_3210 t_3212 s_222 (c_X12_set hl  hc_1) rfl rfl ly_277 rfl (Nat.le_of_ble_eq_true rfl) (Nat.le_of_ble_eq_true rfl) (Nat.le_of_ble_eq_true rfl) (Nat.le_of_ble_eq_true rfl) ?_
  refine z_st (st' := []) rfl ?_
  refine z_iconst (M := M_X12_determinant) dX12_determinant_7 ?_
  refine z_istore_n (M := M_X12_determinant) (lv' := [some (vr 277), some (vi 0), none, none]) dX12_determinant_8 (Nat.le_of_ble_eq_true rfl) rfl rfl ?_
  obtain ⟨rl_8, hw_5, hk_6⟩ := bd_e H
  have J_29 : ∀ row_25 σ_26, rl_8 = (row_25, σ_26) → YY l E M_X12_determinant 4 0 0 (pS (some (vi r)) σ') 93 [some (vr 277), some (vi row_25), none, none] [] σ_26 0 0 := by
    intro row_25 σ_26 e
    have H := hk_6
    rw [e] at H
    refine z_aload_n (M := M_X12_determinant) dX12_determinant_93 rfl ?_
    refine z_getR (M := M_X12_determinant) (ci := 15) (C := RX12) (T := TX12) (Nf := 135) (ty := tyX12) cl15 dX12_determinant_94 ly_277 38 (by decide) t_2429 rfl ?_
    refine z_bipush (M := M_X12_determinant) dX12_determinant_97 (by decide +kernel) ?_
    obtain ⟨x_27, x_27_e, hi_28, H⟩ := rd_e H
    refine z_iald (M := M_X12_determinant) dX12_determinant_99 ly_296 rfl (by decide +kernel) rfl hi_28 x_27_e ?_
    cases H
    exact z_iret (M := M_X12_determinant) dX12_determinant_100 rfl (Nat.le_of_ble_eq_true rfl) (Nat.le_of_ble_eq_true rfl) ⟨rfl, rfl⟩
  refine whl_go hw_5 (fun (row_3, σ_4) => YY l E M_X12_determinant 4 0 0 (pS (some (vi r)) σ') 9 [some (vr 277), some (vi row_3), none, none] [] σ_4 0 0) ?_
  rintro ⟨row_3, σ_4⟩ o_9 H K_10 K_11
  refine z_iload_n (M := M_X12_determinant) dX12_determinant_9 rfl ?_
  refine z_iconst (M := M_X12_determinant) dX12_determinant_10 ?_
  rcases if_e H with ⟨h_12, H⟩ | ⟨h_12, H⟩
  · refine z_icmp_ge_f (M := M_X12_determinant) (tgt := 93) dX12_determinant_11 (by decide) rfl (by decide +kernel) h_12 ?_
    refine z_iconst (M := M_X12_determinant) dX12_determinant_14 ?_
    refine z_iload_n (M := M_X12_determinant) dX12_determinant_15 rfl ?_
    refine z_iconst (M := M_X12_determinant) dX12_determinant_16 ?_
    refine z_iadd (M := M_X12_determinant) dX12_determinant_17 ?_
    refine z_iconst (M := M_X12_determinant) dX12_determinant_18 ?_
    refine z_irem (M := M_X12_determinant) dX12_determinant_19 (by decide +kernel) ?_
    refine z_imul (M := M_X12_determinant) dX12_determinant_20 ?_
    refine z_istore_n (M := M_X12_determinant) (lv' := [some (vr 277), some (vi row_3), some (vi (3 * (q_irm (row_3 + 1) 3))), none]) dX12_determinant_21 (Nat.le_of_ble_eq_true rfl) rfl rfl ?_
    refine z_iconst (M := M_X12_determinant) dX12_determinant_22 ?_
    refine z_iload_n (M := M_X12_determinant) dX12_determinant_23 rfl ?_
    refine z_iconst (M := M_X12_determinant) dX12_determinant_24 ?_
    refine z_iadd (M := M_X12_determinant) dX12_determinant_25 ?_
    refine z_iconst (M := M_X12_determinant) dX12_determinant_26 ?_
    refine z_irem (M := M_X12_determinant) dX12_determinant_27 (by decide +kernel) ?_
    refine z_imul (M := M_X12_determinant) dX12_determinant_28 ?_
    refine z_istore_n (M := M_X12_determinant) (lv' := [some (vr 277), some (vi row_3), some (vi (3 * (q_irm (row_3 + 1) 3))), some (vi (3 * (q_irm (row_3 + 2) 3)))]) dX12_determinant_29 (Nat.le_of_ble_eq_true rfl) rfl rfl ?_
    refine z_aload_n (M := M_X12_determinant) dX12_determinant_30 rfl ?_
    refine z_bipush (M := M_X12_determinant) dX12_determinant_31 (by decide +kernel) ?_
    refine z_iload_n (M := M_X12_determinant) dX12_determinant_33 rfl ?_
    refine z_iconst (M := M_X12_determinant) dX12_determinant_34 ?_
    refine z_iadd (M := M_X12_determinant) dX12_determinant_35 ?_
    refine z_iload_n (M := M_X12_determinant) dX12_determinant_36 rfl ?_
    refine z_iconst (M := M_X12_determinant) dX12_determinant_37 ?_
    refine z_iadd (M := M_X12_determinant) dX12_determinant_38 ?_
    obtain ⟨σ_14, hc_13, H⟩ := bd_e H
    refine z_callV (M := M_X12_determinant) (M' := M_X12_times) (as := [vi 9, vi ((3 * (q_irm (row_3 + 1) 3)) + 1), vi ((3 * (q_irm (row_3 + 2) 3)) + 2)]) (rest := []) rfl rfl dX12_determinant_39 m_X12_times t_3194 t_3196 s_219 (c_X12_times hl  hc_13) rfl rfl ly_277 rfl (Nat.le_of_ble_eq_true rfl) (Nat.le_of_ble_eq_true rfl) (Nat.le_of_ble_eq_true rfl) (Nat.le_of_ble_eq_true rfl) ?_
    refine z_st (st' := []) rfl ?_
    refine z_aload_n (M := M_X12_determinant) dX12_determinant_42 rfl ?_
    refine z_bipush (M := M_X12_determinant) dX12_determinant_43 (by decide +kernel) ?_
    refine z_iload_n (M := M_X12_determinant) dX12_determinant_45 rfl ?_
    refine z_iconst (M := M_X12_determinant) dX12_determinant_46 ?_
    refine z_iadd (M := M_X12_determinant) dX12_determinant_47 ?_
    refine z_iload_n (M := M_X12_determinant) dX12_determinant_48 rfl ?_
    refine z_iconst (M := M_X12_determinant) dX12_determinant_49 ?_
    refine z_iadd (M := M_X12_determinant) dX12_determinant_50 ?_
    obtain ⟨σ_16, hc_15, H⟩ := bd_e H
    refine z_callV (M := M_X12_determinant) (M' := M_X12_times) (as := [vi 10, vi ((3 * (q_irm (row_3 + 1) 3)) + 2), vi ((3 * (q_irm (row_3 + 2) 3)) + 1)]) (rest := []) rfl rfl dX12_determinant_51 m_X12_times t_3194 t_3196 s_219 (c_X12_times hl  hc_15) rfl rfl ly_277 rfl (Nat.le_of_ble_eq_true rfl) (Nat.le_of_ble_eq_true rfl) (Nat.le_of_ble_eq_true rfl) (Nat.le_of_ble_eq_true rfl) ?_
    refine z_st (st' := []) rfl ?_
    refine z_aload_n (M := M_X12_determinant) dX12_determinant_54 rfl ?_
    refine z_bipush (M := M_X12_determinant) dX12_determinant_55 (by decide +kernel) ?_
    refine z_bipush (M := M_X12_determinant) dX12_determinant_57 (by decide +kernel) ?_
    refine z_bipush (M := M_X12_determinant) dX12_determinant_59 (by decide +kernel) ?_
    refine z_zconst (M := M_X12_determinant) (b := true) dX12_determinant_61 rfl ?_
    obtain ⟨σ_18, hc_17, H⟩ := bd_e H
    refine z_callV (M := M_X12_determinant) (M' := M_X12_add) (as := [vi 11, vi 9, vi 10, zv true]) (rest := []) rfl rfl dX12_determinant_62 m_X12_add t_3174 t_3176 s_214 (c_X12_add hl  hc_17) rfl rfl ly_277 rfl (Nat.le_of_ble_eq_true rfl) (Nat.le_of_ble_eq_true rfl) (Nat.le_of_ble_eq_true rfl) (Nat.le_of_ble_eq_true rfl) ?_
    refine z_st (st' := []) rfl ?_
    refine z_aload_n (M := M_X12_determinant) dX12_determinant_65 rfl ?_
    refine z_bipush (M := M_X12_determinant) dX12_determinant_66 (by decide +kernel) ?_
    refine z_iconst (M := M_X12_determinant) dX12_determinant_68 ?_
    refine z_iload_n (M := M_X12_determinant) dX12_determinant_69 rfl ?_
    refine z_imul (M := M_X12_determinant) dX12_determinant_70 ?_
    refine z_bipush (M := M_X12_determinant) dX12_determinant_71 (by decide +kernel) ?_
    obtain ⟨σ_20, hc_19, H⟩ := bd_e H
    refine z_callV (M := M_X12_determinant) (M' := M_X12_times) (as := [vi 12, vi (3 * row_3), vi 11]) (rest := []) rfl rfl dX12_determinant_73 m_X12_times t_3194 t_3196 s_219 (c_X12_times hl  hc_19) rfl rfl ly_277 rfl (Nat.le_of_ble_eq_true rfl) (Nat.le_of_ble_eq_true rfl) (Nat.le_of_ble_eq_true rfl) (Nat.le_of_ble_eq_true rfl) ?_
    refine z_st (st' := []) rfl ?_
    refine z_aload_n (M := M_X12_determinant) dX12_determinant_76 rfl ?_
    refine z_bipush (M := M_X12_determinant) dX12_determinant_77 (by decide +kernel) ?_
    refine z_bipush (M := M_X12_determinant) dX12_determinant_79 (by decide +kernel) ?_
    refine z_bipush (M := M_X12_determinant) dX12_determinant_81 (by decide +kernel) ?_
    refine z_zconst (M := M_X12_determinant) (b := false) dX12_determinant_83 rfl ?_
    obtain ⟨σ_22, hc_21, H⟩ := bd_e H
    refine z_callV (M := M_X12_determinant) (M' := M_X12_add) (as := [vi 15, vi 15, vi 12, zv false]) (rest := []) rfl rfl dX12_determinant_84 m_X12_add t_3174 t_3176 s_214 (c_X12_add hl  hc_21) rfl rfl ly_277 rfl (Nat.le_of_ble_eq_true rfl) (Nat.le_of_ble_eq_true rfl) (Nat.le_of_ble_eq_true rfl) (Nat.le_of_ble_eq_true rfl) ?_
    refine z_st (st' := []) rfl ?_
    refine z_iinc (M := M_X12_determinant) (lv' := [some (vr 277), some (vi (row_3 + 1)), some (vi (3 * (q_irm (row_3 + 1) 3))), some (vi (3 * (q_irm (row_3 + 2) 3)))]) dX12_determinant_87 rfl (Nat.le_of_ble_eq_true rfl) rfl rfl ?_
    refine z_goto (M := M_X12_determinant) (tgt := 9) dX12_determinant_90 (by decide) ?_
    refine z_le (lv' := [some (vr 277), some (vi (row_3 + 1)), none, none]) ⟨Or.inr rfl, Or.inr rfl, Or.inl rfl, Or.inl rfl, trivial⟩ ?_
    exact K_10 _ (Option.some.inj H).symm
  · refine z_icmp_ge_t (M := M_X12_determinant) (tgt := 93) dX12_determinant_11 (by decide) rfl (by decide +kernel) (Int.not_lt.mp h_12) ?_
    exact J_29 _ _ (K_11 _ (Option.some.inj H).symm).symm
theorem c_X12_circle (hl : l.stackTraces = false) {σ : SG} {i_0 : Int} {j_0 : Int} {k_0 : Int} {l_0 : Int} {r : Int} {σ' : SG}  (H : fR_circle σ i_0 j_0 k_0 l_0 = some (r, σ')) : en_S l E M_X12_circle 5 0 0 [vr 277, vi i_0, vi j_0, vi k_0, vi l_0] σ (pS (some (vi r)) σ') := by
  unfold fR_circle at H
  refine z_mk (lv := [some (vr 277), some (vi i_0), some (vi j_0), some (vi k_0), some (vi l_0), none]) m_X12_circle rfl hl (Nat.le_of_ble_eq_true rfl) rfl ?_
  refine z_aload_n (M := M_X12_circle) dX12_circle_0 rfl ?_
  refine z_iconst (M := M_X12_circle) dX12_circle_1 ?_
  obtain ⟨σ_1, σ_1_e, H⟩ := wf_e H
  refine z_putI (M := M_X12_circle) (ci := 15) (C := RX12) (T := TX12) (Nf := 135) (ty := tyX12) cl15 dX12_circle_2 ly_277 0 (by decide) t_2391 rfl rfl rfl rfl σ_1_e ?_
  refine z_aload_n (M := M_X12_circle) dX12_circle_5 rfl ?_
  have J_2 : YY l E M_X12_circle 5 0 0 (pS (some (vi r)) σ') 40 [some (vr 277), some (vi i_0), some (vi j_0), some (vi k_0), some (vi l_0), none] [zv (decide ((((¬ ((fR_isPoint i_0) = true)) ∨ (¬ ((fR_isPoint j_0) = true))) ∨ (¬ ((fR_isPoint k_0) = true))) ∨ (¬ ((fR_isPoint l_0) = true)))), vr 277] σ_1 0 0 := by
    refine z_iconst (M := M_X12_circle) dX12_circle_40 ?_
    obtain ⟨⟨x_5, σ_4⟩, hc_3, H⟩ := bd_e H
    refine z_callV (M := M_X12_circle) (M' := M_X12_fails) (as := [zv (decide ((((¬ ((fR_isPoint i_0) = true)) ∨ (¬ ((fR_isPoint j_0) = true))) ∨ (¬ ((fR_isPoint k_0) = true))) ∨ (¬ ((fR_isPoint l_0) = true)))), vi 1]) (rest := []) rfl rfl dX12_circle_41 m_X12_fails t_2805 t_2807 s_157 (c_X12_fails hl  hc_3) rfl rfl ly_277 rfl (Nat.le_of_ble_eq_true rfl) (Nat.le_of_ble_eq_true rfl) (Nat.le_of_ble_eq_true rfl) (Nat.le_of_ble_eq_true rfl) ?_
    refine z_st (st' := [zv x_5]) rfl ?_
    rcases if_e H with ⟨h_6, H⟩ | ⟨h_6, H⟩
    · refine z_zeq_f (M := M_X12_circle) (tgt := 49) dX12_circle_44 (by decide) h_6 ?_
      refine z_iconst (M := M_X12_circle) dX12_circle_47 ?_
      cases H
      exact z_iret (M := M_X12_circle) dX12_circle_48 rfl (Nat.le_of_ble_eq_true rfl) (Nat.le_of_ble_eq_true rfl) ⟨rfl, rfl⟩
    · refine z_zeq_t (M := M_X12_circle) (tgt := 49) dX12_circle_44 (by decide) h_6 ?_
      refine z_aload_n (M := M_X12_circle) dX12_circle_49 rfl ?_
      refine z_iconst (M := M_X12_circle) dX12_circle_50 ?_
      refine z_zconst (M := M_X12_circle) (b := true) dX12_circle_51 rfl ?_
      refine z_iload_n (M := M_X12_circle) dX12_circle_52 rfl ?_
      refine z_iload (M := M_X12_circle) dX12_circle_53 rfl ?_
      obtain ⟨σ_8, hc_7, H⟩ := bd_e H
      refine z_callV (M := M_X12_circle) (M' := M_X12_between) (as := [vi 0, zv true, vi i_0, vi l_0]) (rest := []) rfl rfl dX12_circle_55 m_X12_between t_3161 t_3163 s_211 (c_X12_between hl  hc_7) rfl rfl ly_277 rfl (Nat.le_of_ble_eq_true rfl) (Nat.le_of_ble_eq_true rfl) (Nat.le_of_ble_eq_true rfl) (Nat.le_of_ble_eq_true rfl) ?_
      refine z_st (st' := []) rfl ?_
      refine z_aload_n (M := M_X12_circle) dX12_circle_58 rfl ?_
      refine z_iconst (M := M_X12_circle) dX12_circle_59 ?_
      refine z_zconst (M := M_X12_circle) (b := false) dX12_circle_60 rfl ?_
      refine z_iload_n (M := M_X12_circle) dX12_circle_61 rfl ?_
      refine z_iload (M := M_X12_circle) dX12_circle_62 rfl ?_
      obtain ⟨σ_10, hc_9, H⟩ := bd_e H
      refine z_callV (M := M_X12_circle) (M' := M_X12_between) (as := [vi 1, zv false, vi i_0, vi l_0]) (rest := []) rfl rfl dX12_circle_64 m_X12_between t_3161 t_3163 s_211 (c_X12_between hl  hc_9) rfl rfl ly_277 rfl (Nat.le_of_ble_eq_true rfl) (Nat.le_of_ble_eq_true rfl) (Nat.le_of_ble_eq_true rfl) (Nat.le_of_ble_eq_true rfl) ?_
      refine z_st (st' := []) rfl ?_
      refine z_aload_n (M := M_X12_circle) dX12_circle_67 rfl ?_
      refine z_iconst (M := M_X12_circle) dX12_circle_68 ?_
      refine z_zconst (M := M_X12_circle) (b := true) dX12_circle_69 rfl ?_
      refine z_iload_n (M := M_X12_circle) dX12_circle_70 rfl ?_
      refine z_iload (M := M_X12_circle) dX12_circle_71 rfl ?_
      obtain ⟨σ_12, hc_11, H⟩ := bd_e H
      refine z_callV (M := M_X12_circle) (M' := M_X12_between) (as := [vi 3, zv true, vi j_0, vi l_0]) (rest := []) rfl rfl dX12_circle_73 m_X12_between t_3161 t_3163 s_211 (c_X12_between hl  hc_11) rfl rfl ly_277 rfl (Nat.le_of_ble_eq_true rfl) (Nat.le_of_ble_eq_true rfl) (Nat.le_of_ble_eq_true rfl) (Nat.le_of_ble_eq_true rfl) ?_
      refine z_st (st' := []) rfl ?_
      refine z_aload_n (M := M_X12_circle) dX12_circle_76 rfl ?_
      refine z_iconst (M := M_X12_circle) dX12_circle_77 ?_
      refine z_zconst (M := M_X12_circle) (b := false) dX12_circle_78 rfl ?_
      refine z_iload_n (M := M_X12_circle) dX12_circle_79 rfl ?_
      refine z_iload (M := M_X12_circle) dX12_circle_80 rfl ?_
      obtain ⟨σ_14, hc_13, H⟩ := bd_e H
      refine z_callV (M := M_X12_circle) (M' := M_X12_between) (as := [vi 4, zv false, vi j_0, vi l_0]) (rest := []) rfl rfl dX12_circle_82 m_X12_between t_3161 t_3163 s_211 (c_X12_between hl  hc_13) rfl rfl ly_277 rfl (Nat.le_of_ble_eq_true rfl) (Nat.le_of_ble_eq_true rfl) (Nat.le_of_ble_eq_true rfl) (Nat.le_of_ble_eq_true rfl) ?_
      refine z_st (st' := []) rfl ?_
      refine z_aload_n (M := M_X12_circle) dX12_circle_85 rfl ?_
      refine z_bipush (M := M_X12_circle) dX12_circle_86 (by decide +kernel) ?_
      refine z_zconst (M := M_X12_circle) (b := true) dX12_circle_88 rfl ?_
      refine z_iload_n (M := M_X12_circle) dX12_circle_89 rfl ?_
      refine z_iload (M := M_X12_circle) dX12_circle_90 rfl ?_
      obtain ⟨σ_16, hc_15, H⟩ := bd_e H
      refine z_callV (M := M_X12_circle) (M' := M_X12_between) (as := [vi 6, zv true, vi k_0, vi l_0]) (rest := []) rfl rfl dX12_circle_92 m_X12_between t_3161 t_3163 s_211 (c_X12_between hl  hc_15) rfl rfl ly_277 rfl (Nat.le_of_ble_eq_true rfl) (Nat.le_of_ble_eq_true rfl) (Nat.le_of_ble_eq_true rfl) (Nat.le_of_ble_eq_true rfl) ?_
      refine z_st (st' := []) rfl ?_
      refine z_aload_n (M := M_X12_circle) dX12_circle_95 rfl ?_
      refine z_bipush (M := M_X12_circle) dX12_circle_96 (by decide +kernel) ?_
      refine z_zconst (M := M_X12_circle) (b := false) dX12_circle_98 rfl ?_
      refine z_iload_n (M := M_X12_circle) dX12_circle_99 rfl ?_
      refine z_iload (M := M_X12_circle) dX12_circle_100 rfl ?_
      obtain ⟨σ_18, hc_17, H⟩ := bd_e H
      refine z_callV (M := M_X12_circle) (M' := M_X12_between) (as := [vi 7, zv false, vi k_0, vi l_0]) (rest := []) rfl rfl dX12_circle_102 m_X12_between t_3161 t_3163 s_211 (c_X12_between hl  hc_17) rfl rfl ly_277 rfl (Nat.le_of_ble_eq_true rfl) (Nat.le_of_ble_eq_true rfl) (Nat.le_of_ble_eq_true rfl) (Nat.le_of_ble_eq_true rfl) ?_
      refine z_st (st' := []) rfl ?_
      refine z_iconst (M := M_X12_circle) dX12_circle_105 ?_
      refine z_istore (M := M_X12_circle) (lv' := [some (vr 277), some (vi i_0), some (vi j_0), some (vi k_0), some (vi l_0), some (vi 0)]) dX12_circle_106 (Nat.le_of_ble_eq_true rfl) rfl rfl ?_
      obtain ⟨rl_24, hw_21, hk_22⟩ := bd_e H
      have J_38 : ∀ row_33 σ_34, rl_24 = (row_33, σ_34) → YY l E M_X12_circle 5 0 0 (pS (some (vi r)) σ') 126 [some (vr 277), some (vi i_0), some (vi j_0), some (vi k_0), some (vi l_0), some (vi row_33)] [] σ_34 0 0 := by
        intro row_33 σ_34 e
        have H := hk_22
        rw [e] at H
        refine z_aload_n (M := M_X12_circle) dX12_circle_126 rfl ?_
        obtain ⟨⟨x_37, σ_36⟩, hc_35, H⟩ := bd_e H
        refine z_callV (M := M_X12_circle) (M' := M_X12_determinant) (as := []) (rest := []) rfl rfl dX12_circle_127 m_X12_determinant t_3206 t_3208 s_221 (c_X12_determinant hl  hc_35) rfl rfl ly_277 rfl (Nat.le_of_ble_eq_true rfl) (Nat.le_of_ble_eq_true rfl) (Nat.le_of_ble_eq_true rfl) (Nat.le_of_ble_eq_true rfl) ?_
        refine z_st (st' := [vi x_37]) rfl ?_
        cases H
        exact z_iret (M := M_X12_circle) dX12_circle_130 rfl (Nat.le_of_ble_eq_true rfl) (Nat.le_of_ble_eq_true rfl) ⟨rfl, rfl⟩
      refine whl_go hw_21 (fun (row_19, σ_20) => YY l E M_X12_circle 5 0 0 (pS (some (vi r)) σ') 108 [some (vr 277), some (vi i_0), some (vi j_0), some (vi k_0), some (vi l_0), some (vi row_19)] [] σ_20 0 0) ?_
      rintro ⟨row_19, σ_20⟩ o_25 H K_26 K_27
      refine z_iload (M := M_X12_circle) dX12_circle_108 rfl ?_
      refine z_iconst (M := M_X12_circle) dX12_circle_110 ?_
      rcases if_e H with ⟨h_28, H⟩ | ⟨h_28, H⟩
      · refine z_icmp_ge_f (M := M_X12_circle) (tgt := 126) dX12_circle_111 (by decide) rfl (by decide +kernel) h_28 ?_
        refine z_aload_n (M := M_X12_circle) dX12_circle_114 rfl ?_
        refine z_iload (M := M_X12_circle) dX12_circle_115 rfl ?_
        obtain ⟨σ_30, hc_29, H⟩ := bd_e H
        refine z_callV (M := M_X12_circle) (M' := M_X12_squares) (as := [vi row_19]) (rest := []) rfl rfl dX12_circle_117 m_X12_squares t_3202 t_3204 s_220 (c_X12_squares hl  hc_29) rfl rfl ly_277 rfl (Nat.le_of_ble_eq_true rfl) (Nat.le_of_ble_eq_true rfl) (Nat.le_of_ble_eq_true rfl) (Nat.le_of_ble_eq_true rfl) ?_
        refine z_st (st' := []) rfl ?_
        refine z_iinc (M := M_X12_circle) (lv' := [some (vr 277), some (vi i_0), some (vi j_0), some (vi k_0), some (vi l_0), some (vi (row_19 + 1))]) dX12_circle_120 rfl (Nat.le_of_ble_eq_true rfl) rfl rfl ?_
        refine z_goto (M := M_X12_circle) (tgt := 108) dX12_circle_123 (by decide) ?_
        exact K_26 _ (Option.some.inj H).symm
      · refine z_icmp_ge_t (M := M_X12_circle) (tgt := 126) dX12_circle_111 (by decide) rfl (by decide +kernel) (Int.not_lt.mp h_28) ?_
        exact J_38 _ _ (K_27 _ (Option.some.inj H).symm).symm
  refine z_iload_n (M := M_X12_circle) dX12_circle_6 rfl ?_
  refine z_callS (M := M_X12_circle) (M' := M_X12_isPoint) (as := [vi i_0]) (rest := [vr 277]) rfl rfl dX12_circle_7 m_X12_isPoint t_3154 t_3155 (c_X12_isPoint hl  rfl) rfl rfl (Nat.le_of_ble_eq_true rfl) (Nat.le_of_ble_eq_true rfl) (Nat.le_of_ble_eq_true rfl) (Nat.le_of_ble_eq_true rfl) ?_
  refine z_st (st' := [zv (fR_isPoint i_0), vr 277]) rfl ?_
  by_cases h_39 : (fR_isPoint i_0) = true
  · refine z_zeq_f (M := M_X12_circle) (tgt := 35) dX12_circle_10 (by decide) h_39 ?_
    refine z_iload_n (M := M_X12_circle) dX12_circle_13 rfl ?_
    refine z_callS (M := M_X12_circle) (M' := M_X12_isPoint) (as := [vi j_0]) (rest := [vr 277]) rfl rfl dX12_circle_14 m_X12_isPoint t_3154 t_3155 (c_X12_isPoint hl  rfl) rfl rfl (Nat.le_of_ble_eq_true rfl) (Nat.le_of_ble_eq_true rfl) (Nat.le_of_ble_eq_true rfl) (Nat.le_of_ble_eq_true rfl) ?_
    refine z_st (st' := [zv (fR_isPoint j_0), vr 277]) rfl ?_
    by_cases h_40 : (fR_isPoint j_0) = true
    · refine z_zeq_f (M := M_X12_circle) (tgt := 35) dX12_circle_17 (by decide) h_40 ?_
      refine z_iload_n (M := M_X12_circle) dX12_circle_20 rfl ?_
      refine z_callS (M := M_X12_circle) (M' := M_X12_isPoint) (as := [vi k_0]) (rest := [vr 277]) rfl rfl dX12_circle_21 m_X12_isPoint t_3154 t_3155 (c_X12_isPoint hl  rfl) rfl rfl (Nat.le_of_ble_eq_true rfl) (Nat.le_of_ble_eq_true rfl) (Nat.le_of_ble_eq_true rfl) (Nat.le_of_ble_eq_true rfl) ?_
      refine z_st (st' := [zv (fR_isPoint k_0), vr 277]) rfl ?_
      by_cases h_41 : (fR_isPoint k_0) = true
      · refine z_zeq_f (M := M_X12_circle) (tgt := 35) dX12_circle_24 (by decide) h_41 ?_
        refine z_iload (M := M_X12_circle) dX12_circle_27 rfl ?_
        refine z_callS (M := M_X12_circle) (M' := M_X12_isPoint) (as := [vi l_0]) (rest := [vr 277]) rfl rfl dX12_circle_29 m_X12_isPoint t_3154 t_3155 (c_X12_isPoint hl  rfl) rfl rfl (Nat.le_of_ble_eq_true rfl) (Nat.le_of_ble_eq_true rfl) (Nat.le_of_ble_eq_true rfl) (Nat.le_of_ble_eq_true rfl) ?_
        refine z_st (st' := [zv (fR_isPoint l_0), vr 277]) rfl ?_
        by_cases h_42 : (fR_isPoint l_0) = true
        · refine z_zne_t (M := M_X12_circle) (tgt := 39) dX12_circle_32 (by decide) h_42 ?_
          refine z_iconst (M := M_X12_circle) dX12_circle_39 ?_
          exact z_st (by rw [zv_f (p := (((¬ ((fR_isPoint i_0) = true)) ∨ (¬ ((fR_isPoint j_0) = true))) ∨ (¬ ((fR_isPoint k_0) = true))) ∨ (¬ ((fR_isPoint l_0) = true))) (fun q => q.elim (fun q => q.elim (fun q => q.elim (not_not_intro h_39) (not_not_intro h_40)) (not_not_intro h_41)) (not_not_intro h_42))]) J_2
        · refine z_zne_f (M := M_X12_circle) (tgt := 39) dX12_circle_32 (by decide) h_42 ?_
          refine z_iconst (M := M_X12_circle) dX12_circle_35 ?_
          refine z_goto (M := M_X12_circle) (tgt := 40) dX12_circle_36 (by decide) ?_
          exact z_st (by rw [zv_t (p := (((¬ ((fR_isPoint i_0) = true)) ∨ (¬ ((fR_isPoint j_0) = true))) ∨ (¬ ((fR_isPoint k_0) = true))) ∨ (¬ ((fR_isPoint l_0) = true))) (Or.inr h_42)]) J_2
      · refine z_zeq_t (M := M_X12_circle) (tgt := 35) dX12_circle_24 (by decide) h_41 ?_
        refine z_iconst (M := M_X12_circle) dX12_circle_35 ?_
        refine z_goto (M := M_X12_circle) (tgt := 40) dX12_circle_36 (by decide) ?_
        exact z_st (by rw [zv_t (p := (((¬ ((fR_isPoint i_0) = true)) ∨ (¬ ((fR_isPoint j_0) = true))) ∨ (¬ ((fR_isPoint k_0) = true))) ∨ (¬ ((fR_isPoint l_0) = true))) (Or.inl (Or.inr h_41))]) J_2
    · refine z_zeq_t (M := M_X12_circle) (tgt := 35) dX12_circle_17 (by decide) h_40 ?_
      refine z_iconst (M := M_X12_circle) dX12_circle_35 ?_
      refine z_goto (M := M_X12_circle) (tgt := 40) dX12_circle_36 (by decide) ?_
      exact z_st (by rw [zv_t (p := (((¬ ((fR_isPoint i_0) = true)) ∨ (¬ ((fR_isPoint j_0) = true))) ∨ (¬ ((fR_isPoint k_0) = true))) ∨ (¬ ((fR_isPoint l_0) = true))) (Or.inl (Or.inl (Or.inr h_40)))]) J_2
  · refine z_zeq_t (M := M_X12_circle) (tgt := 35) dX12_circle_10 (by decide) h_39 ?_
    refine z_iconst (M := M_X12_circle) dX12_circle_35 ?_
    refine z_goto (M := M_X12_circle) (tgt := 40) dX12_circle_36 (by decide) ?_
    exact z_st (by rw [zv_t (p := (((¬ ((fR_isPoint i_0) = true)) ∨ (¬ ((fR_isPoint j_0) = true))) ∨ (¬ ((fR_isPoint k_0) = true))) ∨ (¬ ((fR_isPoint l_0) = true))) (Or.inl (Or.inl (Or.inl h_39)))]) J_2
theorem c_X12_cross (hl : l.stackTraces = false) {σ : SG} {ax_0 : Int} {ay_0 : Int} {bx_0 : Int} {by_0 : Int} {r : Int}  (H : fR_cross ax_0 ay_0 bx_0 by_0 = r) : en_S l E M_X12_cross 1 0 0 [vl ax_0, vl ay_0, vl bx_0, vl by_0] σ (pS (some (vl r)) σ) := by
  unfold fR_cross at H
  refine z_mk (lv := [some (vl ax_0), none, some (vl ay_0), none, some (vl bx_0), none, some (vl by_0), none]) m_X12_cross rfl hl (Nat.le_of_ble_eq_true rfl) rfl ?_
  refine z_lload_n (M := M_X12_cross) dX12_cross_0 rfl ?_
  refine z_lload (M := M_X12_cross) dX12_cross_1 rfl ?_
  refine z_lmul (M := M_X12_cross) dX12_cross_3 ?_
  refine z_lload_n (M := M_X12_cross) dX12_cross_4 rfl ?_
  refine z_lload (M := M_X12_cross) dX12_cross_5 rfl ?_
  refine z_lmul (M := M_X12_cross) dX12_cross_7 ?_
  refine z_lsub (M := M_X12_cross) dX12_cross_8 ?_
  cases H
  exact z_lret (M := M_X12_cross) dX12_cross_9 rfl (Nat.le_of_ble_eq_true rfl) (Nat.le_of_ble_eq_true rfl) ⟨rfl, rfl⟩
theorem c_X12_signOf (hl : l.stackTraces = false) {σ : SG} {v_0 : Int} {r : Int}  (H : fR_signOf v_0 = r) : en_S l E M_X12_signOf 1 0 0 [vl v_0] σ (pS (some (vi r)) σ) := by
  unfold fR_signOf at H
  refine z_mk (lv := [some (vl v_0), none]) m_X12_signOf rfl hl (Nat.le_of_ble_eq_true rfl) rfl ?_
  have J_3 : YY l E M_X12_signOf 1 0 0 (pS (some (vi r)) σ) 21 [some (vl v_0), none] [vi (if (w64 v_0) < 0 then (-1) else (if 0 < (w64 v_0) then 1 else 0))] σ 0 0 := by
    cases H
    exact z_iret (M := M_X12_signOf) dX12_signOf_21 rfl (Nat.le_of_ble_eq_true rfl) (Nat.le_of_ble_eq_true rfl) ⟨rfl, rfl⟩
  refine z_lload_n (M := M_X12_signOf) dX12_signOf_0 rfl ?_
  refine z_lconst (M := M_X12_signOf) (m := 0) dX12_signOf_1 (by decide +kernel) ?_
  refine z_lcmp (M := M_X12_signOf) dX12_signOf_2 ?_
  by_cases h_4 : (w64 v_0) < 0
  · refine z_lif_ge_f (M := M_X12_signOf) (tgt := 10) dX12_signOf_3 (by decide) rfl (by decide +kernel) h_4 ?_
    refine z_iconst (M := M_X12_signOf) dX12_signOf_6 ?_
    refine z_goto (M := M_X12_signOf) (tgt := 21) dX12_signOf_7 (by decide) ?_
    exact z_st (by rw [if_pos (c := (w64 v_0) < 0) h_4]) J_3
  · refine z_lif_ge_t (M := M_X12_signOf) (tgt := 10) dX12_signOf_3 (by decide) rfl (by decide +kernel) (Int.not_lt.mp h_4) ?_
    have J_5 : YY l E M_X12_signOf 1 0 0 (pS (some (vi r)) σ) 21 [some (vl v_0), none] [vi (if 0 < (w64 v_0) then 1 else 0)] σ 0 0 := by
      exact z_st (by rw [if_neg (c := (w64 v_0) < 0) h_4]) J_3
    refine z_lload_n (M := M_X12_signOf) dX12_signOf_10 rfl ?_
    refine z_lconst (M := M_X12_signOf) (m := 0) dX12_signOf_11 (by decide +kernel) ?_
    refine z_lcmp (M := M_X12_signOf) dX12_signOf_12 ?_
    by_cases h_6 : 0 < (w64 v_0)
    · refine z_lif_le_f (M := M_X12_signOf) (tgt := 20) dX12_signOf_13 (by decide) rfl (by decide +kernel) h_6 ?_
      refine z_iconst (M := M_X12_signOf) dX12_signOf_16 ?_
      refine z_goto (M := M_X12_signOf) (tgt := 21) dX12_signOf_17 (by decide) ?_
      exact z_st (by rw [if_pos (c := 0 < (w64 v_0)) h_6]) J_5
    · refine z_lif_le_t (M := M_X12_signOf) (tgt := 20) dX12_signOf_13 (by decide) rfl (by decide +kernel) (Int.not_lt.mp h_6) ?_
      refine z_iconst (M := M_X12_signOf) dX12_signOf_20 ?_
      exact z_st (by rw [if_neg (c := 0 < (w64 v_0)) h_6]) J_5
theorem c_X12_turn (hl : l.stackTraces = false) {σ : SG} {ax_0 : Int} {ay_0 : Int} {bx_0 : Int} {by_0 : Int} {cx_0 : Int} {cy_0 : Int} {r : Int}  (H : fR_turn ax_0 ay_0 bx_0 by_0 cx_0 cy_0 = r) : en_S l E M_X12_turn 2 0 0 [vl ax_0, vl ay_0, vl bx_0, vl by_0, vl cx_0, vl cy_0] σ (pS (some (vi r)) σ) := by
  unfold fR_turn at H
  refine z_mk (lv := [some (vl ax_0), none, some (vl ay_0), none, some (vl bx_0), none, some (vl by_0), none, some (vl cx_0), none, some (vl cy_0), none]) m_X12_turn rfl hl (Nat.le_of_ble_eq_true rfl) rfl ?_
  refine z_lload (M := M_X12_turn) dX12_turn_0 rfl ?_
  refine z_lload_n (M := M_X12_turn) dX12_turn_2 rfl ?_
  refine z_lsub (M := M_X12_turn) dX12_turn_3 ?_
  refine z_lload (M := M_X12_turn) dX12_turn_4 rfl ?_
  refine z_lload_n (M := M_X12_turn) dX12_turn_6 rfl ?_
  refine z_lsub (M := M_X12_turn) dX12_turn_7 ?_
  refine z_lload (M := M_X12_turn) dX12_turn_8 rfl ?_
  refine z_lload_n (M := M_X12_turn) dX12_turn_10 rfl ?_
  refine z_lsub (M := M_X12_turn) dX12_turn_11 ?_
  refine z_lload (M := M_X12_turn) dX12_turn_12 rfl ?_
  refine z_lload_n (M := M_X12_turn) dX12_turn_14 rfl ?_
  refine z_lsub (M := M_X12_turn) dX12_turn_15 ?_
  refine z_callS (M := M_X12_turn) (M' := M_X12_cross) (as := [vl (bx_0 - ax_0), vl (by_0 - ay_0), vl (cx_0 - ax_0), vl (cy_0 - ay_0)]) (rest := []) rfl rfl dX12_turn_16 m_X12_cross t_3265 t_3266 (c_X12_cross hl  rfl) rfl rfl (Nat.le_of_ble_eq_true rfl) (Nat.le_of_ble_eq_true rfl) (Nat.le_of_ble_eq_true rfl) (Nat.le_of_ble_eq_true rfl) ?_
  refine z_st (st' := [vl (fR_cross (bx_0 - ax_0) (by_0 - ay_0) (cx_0 - ax_0) (cy_0 - ay_0))]) rfl ?_
  refine z_callS (M := M_X12_turn) (M' := M_X12_signOf) (as := [vl (fR_cross (bx_0 - ax_0) (by_0 - ay_0) (cx_0 - ax_0) (cy_0 - ay_0))]) (rest := []) rfl rfl dX12_turn_19 m_X12_signOf t_3268 t_3269 (c_X12_signOf hl  rfl) rfl rfl (Nat.le_of_ble_eq_true rfl) (Nat.le_of_ble_eq_true rfl) (Nat.le_of_ble_eq_true rfl) (Nat.le_of_ble_eq_true rfl) ?_
  refine z_st (st' := [vi (fR_signOf (fR_cross (bx_0 - ax_0) (by_0 - ay_0) (cx_0 - ax_0) (cy_0 - ay_0)))]) rfl ?_
  cases H
  exact z_iret (M := M_X12_turn) dX12_turn_22 rfl (Nat.le_of_ble_eq_true rfl) (Nat.le_of_ble_eq_true rfl) ⟨rfl, rfl⟩
theorem c_X12_segment (hl : l.stackTraces = false) {σ : SG} {from_0 : Int} {to_0 : Int} {ring_0 : Int} {number_0 : Int} {shape_0 : Int} {σ' : SG}  (H : fR_segment σ from_0 to_0 ring_0 number_0 shape_0 = some σ') : en_S l E M_X12_segment 1 0 0 [vr 277, vi from_0, vi to_0, vi ring_0, vi number_0, vi shape_0] σ (pS (none) σ') := by
  unfold fR_segment at H
  refine z_mk (lv := [some (vr 277), some (vi from_0), some (vi to_0), some (vi ring_0), some (vi number_0), some (vi shape_0)]) m_X12_segment rfl hl (Nat.le_of_ble_eq_true rfl) rfl ?_
  refine z_aload_n (M := M_X12_segment) dX12_segment_0 rfl ?_
  refine z_getR (M := M_X12_segment) (ci := 15) (C := RX12) (T := TX12) (Nf := 135) (ty := tyX12) cl15 dX12_segment_1 ly_277 41 (by decide) t_2432 rfl ?_
  refine z_aload_n (M := M_X12_segment) dX12_segment_4 rfl ?_
  refine z_getI (M := M_X12_segment) (ci := 15) (C := RX12) (T := TX12) (Nf := 135) (ty := tyX12) cl15 dX12_segment_5 ly_277 48 (by decide) t_2439 rfl rfl ?_
  refine z_aload_n (M := M_X12_segment) dX12_segment_8 rfl ?_
  refine z_getR (M := M_X12_segment) (ci := 15) (C := RX12) (T := TX12) (Nf := 135) (ty := tyX12) cl15 dX12_segment_9 ly_277 12 (by decide) t_2403 rfl ?_
  refine z_iload_n (M := M_X12_segment) dX12_segment_12 rfl ?_
  obtain ⟨x_1, x_1_e, hi_2, H⟩ := rd_e H
  refine z_iald (M := M_X12_segment) dX12_segment_13 ly_283 rfl rfl rfl hi_2 x_1_e ?_
  refine z_i2l (M := M_X12_segment) dX12_segment_14 ?_
  obtain ⟨σ_3, σ_3_e, hi_4, H⟩ := wa_e H
  refine z_last (M := M_X12_segment) dX12_segment_15 ly_299 rfl rfl rfl hi_4 σ_3_e ?_
  refine z_aload_n (M := M_X12_segment) dX12_segment_16 rfl ?_
  refine z_getR (M := M_X12_segment) (ci := 15) (C := RX12) (T := TX12) (Nf := 135) (ty := tyX12) cl15 dX12_segment_17 ly_277 42 (by decide) t_2433 rfl ?_
  refine z_aload_n (M := M_X12_segment) dX12_segment_20 rfl ?_
  refine z_getI (M := M_X12_segment) (ci := 15) (C := RX12) (T := TX12) (Nf := 135) (ty := tyX12) cl15 dX12_segment_21 ly_277 48 (by decide) t_2439 rfl rfl ?_
  refine z_aload_n (M := M_X12_segment) dX12_segment_24 rfl ?_
  refine z_getR (M := M_X12_segment) (ci := 15) (C := RX12) (T := TX12) (Nf := 135) (ty := tyX12) cl15 dX12_segment_25 ly_277 13 (by decide) t_2404 rfl ?_
  refine z_iload_n (M := M_X12_segment) dX12_segment_28 rfl ?_
  obtain ⟨x_5, x_5_e, hi_6, H⟩ := rd_e H
  refine z_iald (M := M_X12_segment) dX12_segment_29 ly_284 rfl rfl rfl hi_6 x_5_e ?_
  refine z_i2l (M := M_X12_segment) dX12_segment_30 ?_
  obtain ⟨σ_7, σ_7_e, hi_8, H⟩ := wa_e H
  refine z_last (M := M_X12_segment) dX12_segment_31 ly_300 rfl rfl rfl hi_8 σ_7_e ?_
  refine z_aload_n (M := M_X12_segment) dX12_segment_32 rfl ?_
  refine z_getR (M := M_X12_segment) (ci := 15) (C := RX12) (T := TX12) (Nf := 135) (ty := tyX12) cl15 dX12_segment_33 ly_277 43 (by decide) t_2434 rfl ?_
  refine z_aload_n (M := M_X12_segment) dX12_segment_36 rfl ?_
  refine z_getI (M := M_X12_segment) (ci := 15) (C := RX12) (T := TX12) (Nf := 135) (ty := tyX12) cl15 dX12_segment_37 ly_277 48 (by decide) t_2439 rfl rfl ?_
  refine z_aload_n (M := M_X12_segment) dX12_segment_40 rfl ?_
  refine z_getR (M := M_X12_segment) (ci := 15) (C := RX12) (T := TX12) (Nf := 135) (ty := tyX12) cl15 dX12_segment_41 ly_277 12 (by decide) t_2403 rfl ?_
  refine z_iload_n (M := M_X12_segment) dX12_segment_44 rfl ?_
  obtain ⟨x_9, x_9_e, hi_10, H⟩ := rd_e H
  refine z_iald (M := M_X12_segment) dX12_segment_45 ly_283 rfl rfl rfl hi_10 x_9_e ?_
  refine z_i2l (M := M_X12_segment) dX12_segment_46 ?_
  obtain ⟨σ_11, σ_11_e, hi_12, H⟩ := wa_e H
  refine z_last (M := M_X12_segment) dX12_segment_47 ly_301 rfl rfl rfl hi_12 σ_11_e ?_
  refine z_aload_n (M := M_X12_segment) dX12_segment_48 rfl ?_
  refine z_getR (M := M_X12_segment) (ci := 15) (C := RX12) (T := TX12) (Nf := 135) (ty := tyX12) cl15 dX12_segment_49 ly_277 44 (by decide) t_2435 rfl ?_
  refine z_aload_n (M := M_X12_segment) dX12_segment_52 rfl ?_
  refine z_getI (M := M_X12_segment) (ci := 15) (C := RX12) (T := TX12) (Nf := 135) (ty := tyX12) cl15 dX12_segment_53 ly_277 48 (by decide) t_2439 rfl rfl ?_
  refine z_aload_n (M := M_X12_segment) dX12_segment_56 rfl ?_
  refine z_getR (M := M_X12_segment) (ci := 15) (C := RX12) (T := TX12) (Nf := 135) (ty := tyX12) cl15 dX12_segment_57 ly_277 13 (by decide) t_2404 rfl ?_
  refine z_iload_n (M := M_X12_segment) dX12_segment_60 rfl ?_
  obtain ⟨x_13, x_13_e, hi_14, H⟩ := rd_e H
  refine z_iald (M := M_X12_segment) dX12_segment_61 ly_284 rfl rfl rfl hi_14 x_13_e ?_
  refine z_i2l (M := M_X12_segment) dX12_segment_62 ?_
  obtain ⟨σ_15, σ_15_e, hi_16, H⟩ := wa_e H
  refine z_last (M := M_X12_segment) dX12_segment_63 ly_302 rfl rfl rfl hi_16 σ_15_e ?_
  refine z_aload_n (M := M_X12_segment) dX12_segment_64 rfl ?_
  refine z_getR (M := M_X12_segment) (ci := 15) (C := RX12) (T := TX12) (Nf := 135) (ty := tyX12) cl15 dX12_segment_65 ly_277 45 (by decide) t_2436 rfl ?_
  refine z_aload_n (M := M_X12_segment) dX12_segment_68 rfl ?_
  refine z_getI (M := M_X12_segment) (ci := 15) (C := RX12) (T := TX12) (Nf := 135) (ty := tyX12) cl15 dX12_segment_69 ly_277 48 (by decide) t_2439 rfl rfl ?_
  refine z_iload_n (M := M_X12_segment) dX12_segment_72 rfl ?_
  obtain ⟨σ_17, σ_17_e, hi_18, H⟩ := wa_e H
  refine z_iast (M := M_X12_segment) dX12_segment_73 ly_303 rfl rfl rfl hi_18 σ_17_e ?_
  refine z_aload_n (M := M_X12_segment) dX12_segment_74 rfl ?_
  refine z_getR (M := M_X12_segment) (ci := 15) (C := RX12) (T := TX12) (Nf := 135) (ty := tyX12) cl15 dX12_segment_75 ly_277 46 (by decide) t_2437 rfl ?_
  refine z_aload_n (M := M_X12_segment) dX12_segment_78 rfl ?_
  refine z_getI (M := M_X12_segment) (ci := 15) (C := RX12) (T := TX12) (Nf := 135) (ty := tyX12) cl15 dX12_segment_79 ly_277 48 (by decide) t_2439 rfl rfl ?_
  refine z_iload (M := M_X12_segment) dX12_segment_82 rfl ?_
  obtain ⟨σ_19, σ_19_e, hi_20, H⟩ := wa_e H
  refine z_iast (M := M_X12_segment) dX12_segment_84 ly_304 rfl rfl rfl hi_20 σ_19_e ?_
  refine z_aload_n (M := M_X12_segment) dX12_segment_85 rfl ?_
  refine z_getR (M := M_X12_segment) (ci := 15) (C := RX12) (T := TX12) (Nf := 135) (ty := tyX12) cl15 dX12_segment_86 ly_277 47 (by decide) t_2438 rfl ?_
  refine z_aload_n (M := M_X12_segment) dX12_segment_89 rfl ?_
  refine z_getI (M := M_X12_segment) (ci := 15) (C := RX12) (T := TX12) (Nf := 135) (ty := tyX12) cl15 dX12_segment_90 ly_277 48 (by decide) t_2439 rfl rfl ?_
  refine z_iload (M := M_X12_segment) dX12_segment_93 rfl ?_
  obtain ⟨σ_21, σ_21_e, hi_22, H⟩ := wa_e H
  refine z_iast (M := M_X12_segment) dX12_segment_95 ly_305 rfl rfl rfl hi_22 σ_21_e ?_
  refine z_aload_n (M := M_X12_segment) dX12_segment_96 rfl ?_
  refine z_dup (M := M_X12_segment) dX12_segment_97 rfl ?_
  refine z_getI (M := M_X12_segment) (ci := 15) (C := RX12) (T := TX12) (Nf := 135) (ty := tyX12) cl15 dX12_segment_98 ly_277 48 (by decide) t_2439 rfl rfl ?_
  refine z_iconst (M := M_X12_segment) dX12_segment_101 ?_
  refine z_iadd (M := M_X12_segment) dX12_segment_102 ?_
  obtain ⟨σ_23, σ_23_e, H⟩ := wf_e H
  refine z_putI (M := M_X12_segment) (ci := 15) (C := RX12) (T := TX12) (Nf := 135) (ty := tyX12) cl15 dX12_segment_103 ly_277 48 (by decide) t_2439 rfl rfl rfl rfl σ_23_e ?_
  cases H
  exact z_vret (M := M_X12_segment) dX12_segment_106 rfl (Nat.le_of_ble_eq_true rfl) (Nat.le_of_ble_eq_true rfl) ⟨rfl, rfl⟩
theorem c_X12_isAlike (hl : l.stackTraces = false) {σ : SG} {i_0 : Int} {r : Bool}  (H : fR_isAlike σ i_0 = some r) : en_S l E M_X12_isAlike 1 0 0 [vr 277, vi i_0] σ (pS (some (zv r)) σ) := by
  unfold fR_isAlike at H
  refine z_mk (lv := [some (vr 277), some (vi i_0)]) m_X12_isAlike rfl hl (Nat.le_of_ble_eq_true rfl) rfl ?_
  obtain ⟨v_15, he_16, hk_17⟩ := bd_e H
  have J_18 : ∀ x_14, v_15 = x_14 → YY l E M_X12_isAlike 1 0 0 (pS (some (zv r)) σ) 37 [some (vr 277), some (vi i_0)] [zv x_14] σ 0 0 := by
    intro x_14 e
    have H := hk_17
    rw [e] at H
    cases H
    exact z_zret (M := M_X12_isAlike) dX12_isAlike_37 rfl (Nat.le_of_ble_eq_true rfl) (Nat.le_of_ble_eq_true rfl) ⟨rfl, rfl⟩
  have H := he_16
  refine z_aload_n (M := M_X12_isAlike) dX12_isAlike_0 rfl ?_
  refine z_getR (M := M_X12_isAlike) (ci := 15) (C := RX12) (T := TX12) (Nf := 135) (ty := tyX12) cl15 dX12_isAlike_1 ly_277 41 (by decide) t_2432 rfl ?_
  refine z_iload_n (M := M_X12_isAlike) dX12_isAlike_4 rfl ?_
  obtain ⟨x_1, x_1_e, hi_2, H⟩ := rd_e H
  refine z_lald (M := M_X12_isAlike) dX12_isAlike_5 ly_299 rfl rfl rfl hi_2 x_1_e ?_
  refine z_aload_n (M := M_X12_isAlike) dX12_isAlike_6 rfl ?_
  refine z_getR (M := M_X12_isAlike) (ci := 15) (C := RX12) (T := TX12) (Nf := 135) (ty := tyX12) cl15 dX12_isAlike_7 ly_277 43 (by decide) t_2434 rfl ?_
  refine z_iload_n (M := M_X12_isAlike) dX12_isAlike_10 rfl ?_
  obtain ⟨x_3, x_3_e, hi_4, H⟩ := rd_e H
  refine z_lald (M := M_X12_isAlike) dX12_isAlike_11 ly_301 rfl rfl rfl hi_4 x_3_e ?_
  refine z_lcmp (M := M_X12_isAlike) dX12_isAlike_12 ?_
  rcases if_e H with ⟨h_5, H⟩ | ⟨h_5, H⟩
  · refine z_lif_ne_f (M := M_X12_isAlike) (tgt := 36) dX12_isAlike_13 (by decide) rfl rfl h_5 ?_
    refine z_aload_n (M := M_X12_isAlike) dX12_isAlike_16 rfl ?_
    refine z_getR (M := M_X12_isAlike) (ci := 15) (C := RX12) (T := TX12) (Nf := 135) (ty := tyX12) cl15 dX12_isAlike_17 ly_277 42 (by decide) t_2433 rfl ?_
    refine z_iload_n (M := M_X12_isAlike) dX12_isAlike_20 rfl ?_
    obtain ⟨x_6, x_6_e, hi_7, H⟩ := rd_e H
    refine z_lald (M := M_X12_isAlike) dX12_isAlike_21 ly_300 rfl rfl rfl hi_7 x_6_e ?_
    refine z_aload_n (M := M_X12_isAlike) dX12_isAlike_22 rfl ?_
    refine z_getR (M := M_X12_isAlike) (ci := 15) (C := RX12) (T := TX12) (Nf := 135) (ty := tyX12) cl15 dX12_isAlike_23 ly_277 44 (by decide) t_2435 rfl ?_
    refine z_iload_n (M := M_X12_isAlike) dX12_isAlike_26 rfl ?_
    obtain ⟨x_8, x_8_e, hi_9, H⟩ := rd_e H
    refine z_lald (M := M_X12_isAlike) dX12_isAlike_27 ly_302 rfl rfl rfl hi_9 x_8_e ?_
    refine z_lcmp (M := M_X12_isAlike) dX12_isAlike_28 ?_
    rcases if_e H with ⟨h_10, H⟩ | ⟨h_10, H⟩
    · refine z_lif_ne_f (M := M_X12_isAlike) (tgt := 36) dX12_isAlike_29 (by decide) rfl rfl h_10 ?_
      refine z_zconst (M := M_X12_isAlike) (b := true) dX12_isAlike_32 rfl ?_
      refine z_goto (M := M_X12_isAlike) (tgt := 37) dX12_isAlike_33 (by decide) ?_
      exact J_18 _ (Option.some.inj H).symm
    · refine z_lif_ne_t (M := M_X12_isAlike) (tgt := 36) dX12_isAlike_29 (by decide) rfl rfl h_10 ?_
      refine z_zconst (M := M_X12_isAlike) (b := false) dX12_isAlike_36 rfl ?_
      exact J_18 _ (Option.some.inj H).symm
  · refine z_lif_ne_t (M := M_X12_isAlike) (tgt := 36) dX12_isAlike_13 (by decide) rfl rfl h_5 ?_
    refine z_zconst (M := M_X12_isAlike) (b := false) dX12_isAlike_36 rfl ?_
    exact J_18 _ (Option.some.inj H).symm
theorem c_X12_meetsAt (hl : l.stackTraces = false) {σ : SG} {x_0 : Int} {y_0 : Int} {σ' : SG}  (H : fR_meetsAt σ x_0 y_0 = some σ') : en_S l E M_X12_meetsAt 1 0 0 [vr 277, vl x_0, vl y_0] σ (pS (none) σ') := by
  unfold fR_meetsAt at H
  refine z_mk (lv := [some (vr 277), some (vl x_0), none, some (vl y_0), none]) m_X12_meetsAt rfl hl (Nat.le_of_ble_eq_true rfl) rfl ?_
  refine z_aload_n (M := M_X12_meetsAt) dX12_meetsAt_0 rfl ?_
  refine z_zconst (M := M_X12_meetsAt) (b := false) dX12_meetsAt_1 rfl ?_
  obtain ⟨σ_1, σ_1_e, H⟩ := wf_e H
  refine z_putZ (M := M_X12_meetsAt) (ci := 15) (C := RX12) (T := TX12) (Nf := 135) (ty := tyX12) cl15 dX12_meetsAt_2 ly_277 49 (by decide) t_2440 rfl rfl rfl rfl σ_1_e ?_
  refine z_aload_n (M := M_X12_meetsAt) dX12_meetsAt_5 rfl ?_
  refine z_lload_n (M := M_X12_meetsAt) dX12_meetsAt_6 rfl ?_
  obtain ⟨σ_2, σ_2_e, H⟩ := wf_e H
  refine z_putL (M := M_X12_meetsAt) (ci := 15) (C := RX12) (T := TX12) (Nf := 135) (ty := tyX12) cl15 dX12_meetsAt_7 ly_277 50 (by decide) t_2441 rfl rfl rfl rfl σ_2_e ?_
  refine z_aload_n (M := M_X12_meetsAt) dX12_meetsAt_10 rfl ?_
  refine z_lload_n (M := M_X12_meetsAt) dX12_meetsAt_11 rfl ?_
  obtain ⟨σ_3, σ_3_e, H⟩ := wf_e H
  refine z_putL (M := M_X12_meetsAt) (ci := 15) (C := RX12) (T := TX12) (Nf := 135) (ty := tyX12) cl15 dX12_meetsAt_12 ly_277 51 (by decide) t_2442 rfl rfl rfl rfl σ_3_e ?_
  cases H
  exact z_vret (M := M_X12_meetsAt) dX12_meetsAt_15 rfl (Nat.le_of_ble_eq_true rfl) (Nat.le_of_ble_eq_true rfl) ⟨rfl, rfl⟩
theorem c_X12_isBefore (hl : l.stackTraces = false) {σ : SG} {ax_0 : Int} {ay_0 : Int} {bx_0 : Int} {by_0 : Int} {r : Bool}  (H : fR_isBefore ax_0 ay_0 bx_0 by_0 = r) : en_S l E M_X12_isBefore 1 0 0 [vl ax_0, vl ay_0, vl bx_0, vl by_0] σ (pS (some (zv r)) σ) := by
  unfold fR_isBefore at H
  refine z_mk (lv := [some (vl ax_0), none, some (vl ay_0), none, some (vl bx_0), none, some (vl by_0), none]) m_X12_isBefore rfl hl (Nat.le_of_ble_eq_true rfl) rfl ?_
  have J_1 : YY l E M_X12_isBefore 1 0 0 (pS (some (zv r)) σ) 26 [some (vl ax_0), none, some (vl ay_0), none, some (vl bx_0), none, some (vl by_0), none] [zv (decide (((w64 ax_0) < (w64 bx_0)) ∨ (((w64 ax_0) = (w64 bx_0)) ∧ ((w64 ay_0) < (w64 by_0)))))] σ 0 0 := by
    cases H
    exact z_zret (M := M_X12_isBefore) dX12_isBefore_26 rfl (Nat.le_of_ble_eq_true rfl) (Nat.le_of_ble_eq_true rfl) ⟨rfl, rfl⟩
  refine z_lload_n (M := M_X12_isBefore) dX12_isBefore_0 rfl ?_
  refine z_lload (M := M_X12_isBefore) dX12_isBefore_1 rfl ?_
  refine z_lcmp (M := M_X12_isBefore) dX12_isBefore_3 ?_
  by_cases h_2 : (w64 ax_0) < (w64 bx_0)
  · refine z_lif_lt_t (M := M_X12_isBefore) (tgt := 21) dX12_isBefore_4 (by decide) rfl rfl h_2 ?_
    refine z_iconst (M := M_X12_isBefore) dX12_isBefore_21 ?_
    refine z_goto (M := M_X12_isBefore) (tgt := 26) dX12_isBefore_22 (by decide) ?_
    exact z_st (by rw [zv_t (p := ((w64 ax_0) < (w64 bx_0)) ∨ (((w64 ax_0) = (w64 bx_0)) ∧ ((w64 ay_0) < (w64 by_0)))) (Or.inl h_2)]) J_1
  · refine z_lif_lt_f (M := M_X12_isBefore) (tgt := 21) dX12_isBefore_4 (by decide) rfl rfl (Int.not_lt.mp h_2) ?_
    refine z_lload_n (M := M_X12_isBefore) dX12_isBefore_7 rfl ?_
    refine z_lload (M := M_X12_isBefore) dX12_isBefore_8 rfl ?_
    refine z_lcmp (M := M_X12_isBefore) dX12_isBefore_10 ?_
    by_cases h_3 : (w64 ax_0) = (w64 bx_0)
    · refine z_lif_ne_f (M := M_X12_isBefore) (tgt := 25) dX12_isBefore_11 (by decide) rfl rfl h_3 ?_
      refine z_lload_n (M := M_X12_isBefore) dX12_isBefore_14 rfl ?_
      refine z_lload (M := M_X12_isBefore) dX12_isBefore_15 rfl ?_
      refine z_lcmp (M := M_X12_isBefore) dX12_isBefore_17 ?_
      by_cases h_4 : (w64 ay_0) < (w64 by_0)
      · refine z_lif_ge_f (M := M_X12_isBefore) (tgt := 25) dX12_isBefore_18 (by decide) rfl rfl h_4 ?_
        refine z_iconst (M := M_X12_isBefore) dX12_isBefore_21 ?_
        refine z_goto (M := M_X12_isBefore) (tgt := 26) dX12_isBefore_22 (by decide) ?_
        exact z_st (by rw [zv_t (p := ((w64 ax_0) < (w64 bx_0)) ∨ (((w64 ax_0) = (w64 bx_0)) ∧ ((w64 ay_0) < (w64 by_0)))) (Or.inr ⟨h_3, h_4⟩)]) J_1
      · refine z_lif_ge_t (M := M_X12_isBefore) (tgt := 25) dX12_isBefore_18 (by decide) rfl rfl (Int.not_lt.mp h_4) ?_
        refine z_iconst (M := M_X12_isBefore) dX12_isBefore_25 ?_
        exact z_st (by rw [zv_f (p := ((w64 ax_0) < (w64 bx_0)) ∨ (((w64 ax_0) = (w64 bx_0)) ∧ ((w64 ay_0) < (w64 by_0)))) (fun q => q.elim h_2 (fun q => h_4 q.2))]) J_1
    · refine z_lif_ne_t (M := M_X12_isBefore) (tgt := 25) dX12_isBefore_11 (by decide) rfl rfl h_3 ?_
      refine z_iconst (M := M_X12_isBefore) dX12_isBefore_25 ?_
      exact z_st (by rw [zv_f (p := ((w64 ax_0) < (w64 bx_0)) ∨ (((w64 ax_0) = (w64 bx_0)) ∧ ((w64 ay_0) < (w64 by_0)))) (fun q => q.elim h_2 (fun q => h_3 q.1))]) J_1
end LFAT
