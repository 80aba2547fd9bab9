section LFAL
variable {l : Launch} {E : EE}
theorem c_X3_lieAcross (hl : l.stackTraces = false) {σ : SG} {first_0 : Int} {second_0 : Int} {r : Bool}  (H : fT_lieAcross σ first_0 second_0 = some r) : en_S l E M_X3_lieAcross 2 0 0 [vr 222, vi first_0, vi second_0] σ (pS (some (zv r)) σ) := by
  unfold fT_lieAcross at H
  refine z_mk (lv := [some (vr 222), some (vi first_0), some (vi second_0)]) m_X3_lieAcross rfl hl (Nat.le_of_ble_eq_true rfl) rfl ?_
  refine z_iload_n (M := M_X3_lieAcross) dX3_lieAcross_0 rfl ?_
  refine z_iload_n (M := M_X3_lieAcross) dX3_lieAcross_1 rfl ?_
  rcases if_e H with ⟨h_1, H⟩ | ⟨h_1, H⟩
  · refine z_icmp_ge_f (M := M_X3_lieAcross) (tgt := 29) dX3_lieAcross_2 (by decide) rfl rfl h_1 ?_
    obtain ⟨v_12, he_13, hk_14⟩ := bd_e H
    have J_15 : ∀ x_11, v_12 = x_11 → YY l E M_X3_lieAcross 2 0 0 (pS (some (zv r)) σ) 28 [some (vr 222), some (vi first_0), some (vi second_0)] [zv x_11] σ 0 0 := by
      intro x_11 e
      have H := hk_14
      rw [e] at H
      cases H
      exact z_zret (M := M_X3_lieAcross) dX3_lieAcross_28 rfl (Nat.le_of_ble_eq_true rfl) (Nat.le_of_ble_eq_true rfl) ⟨rfl, rfl⟩
    have H := he_13
    refine z_aload_n (M := M_X3_lieAcross) dX3_lieAcross_5 rfl ?_
    refine z_iconst (M := M_X3_lieAcross) dX3_lieAcross_6 ?_
    refine z_iconst (M := M_X3_lieAcross) dX3_lieAcross_7 ?_
    obtain ⟨x_3, hc_2, H⟩ := bd_e H
    refine z_callV (M := M_X3_lieAcross) (M' := M_X3_has) (as := [vi 0, vi 0]) (rest := []) rfl rfl dX3_lieAcross_8 m_X3_has t_2046 t_2048 s_123 (c_X3_has hl  hc_2) rfl rfl ly_222 rfl (Nat.le_of_ble_eq_true rfl) (Nat.le_of_ble_eq_true rfl) (Nat.le_of_ble_eq_true rfl) (Nat.le_of_ble_eq_true rfl) ?_
    refine z_st (st' := [zv x_3]) rfl ?_
    rcases if_e H with ⟨h_4, H⟩ | ⟨h_4, H⟩
    · refine z_zeq_f (M := M_X3_lieAcross) (tgt := 27) dX3_lieAcross_11 (by decide) h_4 ?_
      refine z_aload_n (M := M_X3_lieAcross) dX3_lieAcross_14 rfl ?_
      refine z_iconst (M := M_X3_lieAcross) dX3_lieAcross_15 ?_
      refine z_iconst (M := M_X3_lieAcross) dX3_lieAcross_16 ?_
      obtain ⟨x_6, hc_5, H⟩ := bd_e H
      refine z_callV (M := M_X3_lieAcross) (M' := M_X3_has) (as := [vi 0, vi 2]) (rest := []) rfl rfl dX3_lieAcross_17 m_X3_has t_2046 t_2048 s_123 (c_X3_has hl  hc_5) rfl rfl ly_222 rfl (Nat.le_of_ble_eq_true rfl) (Nat.le_of_ble_eq_true rfl) (Nat.le_of_ble_eq_true rfl) (Nat.le_of_ble_eq_true rfl) ?_
      refine z_st (st' := [zv x_6]) rfl ?_
      rcases if_e H with ⟨h_7, H⟩ | ⟨h_7, H⟩
      · refine z_zeq_f (M := M_X3_lieAcross) (tgt := 27) dX3_lieAcross_20 (by decide) h_7 ?_
        refine z_zconst (M := M_X3_lieAcross) (b := true) dX3_lieAcross_23 rfl ?_
        refine z_goto (M := M_X3_lieAcross) (tgt := 28) dX3_lieAcross_24 (by decide) ?_
        exact J_15 _ (Option.some.inj H).symm
      · refine z_zeq_t (M := M_X3_lieAcross) (tgt := 27) dX3_lieAcross_20 (by decide) h_7 ?_
        refine z_zconst (M := M_X3_lieAcross) (b := false) dX3_lieAcross_27 rfl ?_
        exact J_15 _ (Option.some.inj H).symm
    · refine z_zeq_t (M := M_X3_lieAcross) (tgt := 27) dX3_lieAcross_11 (by decide) h_4 ?_
      refine z_zconst (M := M_X3_lieAcross) (b := false) dX3_lieAcross_27 rfl ?_
      exact J_15 _ (Option.some.inj H).symm
  · refine z_icmp_ge_t (M := M_X3_lieAcross) (tgt := 29) dX3_lieAcross_2 (by decide) rfl rfl (Int.not_lt.mp h_1) ?_
    refine z_iload_n (M := M_X3_lieAcross) dX3_lieAcross_29 rfl ?_
    refine z_iload_n (M := M_X3_lieAcross) dX3_lieAcross_30 rfl ?_
    rcases if_e H with ⟨h_16, H⟩ | ⟨h_16, H⟩
    · refine z_icmp_le_f (M := M_X3_lieAcross) (tgt := 58) dX3_lieAcross_31 (by decide) rfl rfl h_16 ?_
      obtain ⟨v_27, he_28, hk_29⟩ := bd_e H
      have J_30 : ∀ x_26, v_27 = x_26 → YY l E M_X3_lieAcross 2 0 0 (pS (some (zv r)) σ) 57 [some (vr 222), some (vi first_0), some (vi second_0)] [zv x_26] σ 0 0 := by
        intro x_26 e
        have H := hk_29
        rw [e] at H
        cases H
        exact z_zret (M := M_X3_lieAcross) dX3_lieAcross_57 rfl (Nat.le_of_ble_eq_true rfl) (Nat.le_of_ble_eq_true rfl) ⟨rfl, rfl⟩
      have H := he_28
      refine z_aload_n (M := M_X3_lieAcross) dX3_lieAcross_34 rfl ?_
      refine z_iconst (M := M_X3_lieAcross) dX3_lieAcross_35 ?_
      refine z_iconst (M := M_X3_lieAcross) dX3_lieAcross_36 ?_
      obtain ⟨x_18, hc_17, H⟩ := bd_e H
      refine z_callV (M := M_X3_lieAcross) (M' := M_X3_has) (as := [vi 0, vi 0]) (rest := []) rfl rfl dX3_lieAcross_37 m_X3_has t_2046 t_2048 s_123 (c_X3_has hl  hc_17) rfl rfl ly_222 rfl (Nat.le_of_ble_eq_true rfl) (Nat.le_of_ble_eq_true rfl) (Nat.le_of_ble_eq_true rfl) (Nat.le_of_ble_eq_true rfl) ?_
      refine z_st (st' := [zv x_18]) rfl ?_
      rcases if_e H with ⟨h_19, H⟩ | ⟨h_19, H⟩
      · refine z_zeq_f (M := M_X3_lieAcross) (tgt := 56) dX3_lieAcross_40 (by decide) h_19 ?_
        refine z_aload_n (M := M_X3_lieAcross) dX3_lieAcross_43 rfl ?_
        refine z_iconst (M := M_X3_lieAcross) dX3_lieAcross_44 ?_
        refine z_iconst (M := M_X3_lieAcross) dX3_lieAcross_45 ?_
        obtain ⟨x_21, hc_20, H⟩ := bd_e H
        refine z_callV (M := M_X3_lieAcross) (M' := M_X3_has) (as := [vi 2, vi 0]) (rest := []) rfl rfl dX3_lieAcross_46 m_X3_has t_2046 t_2048 s_123 (c_X3_has hl  hc_20) rfl rfl ly_222 rfl (Nat.le_of_ble_eq_true rfl) (Nat.le_of_ble_eq_true rfl) (Nat.le_of_ble_eq_true rfl) (Nat.le_of_ble_eq_true rfl) ?_
        refine z_st (st' := [zv x_21]) rfl ?_
        rcases if_e H with ⟨h_22, H⟩ | ⟨h_22, H⟩
        · refine z_zeq_f (M := M_X3_lieAcross) (tgt := 56) dX3_lieAcross_49 (by decide) h_22 ?_
          refine z_zconst (M := M_X3_lieAcross) (b := true) dX3_lieAcross_52 rfl ?_
          refine z_goto (M := M_X3_lieAcross) (tgt := 57) dX3_lieAcross_53 (by decide) ?_
          exact J_30 _ (Option.some.inj H).symm
        · refine z_zeq_t (M := M_X3_lieAcross) (tgt := 56) dX3_lieAcross_49 (by decide) h_22 ?_
          refine z_zconst (M := M_X3_lieAcross) (b := false) dX3_lieAcross_56 rfl ?_
          exact J_30 _ (Option.some.inj H).symm
      · refine z_zeq_t (M := M_X3_lieAcross) (tgt := 56) dX3_lieAcross_40 (by decide) h_19 ?_
        refine z_zconst (M := M_X3_lieAcross) (b := false) dX3_lieAcross_56 rfl ?_
        exact J_30 _ (Option.some.inj H).symm
    · refine z_icmp_le_t (M := M_X3_lieAcross) (tgt := 58) dX3_lieAcross_31 (by decide) rfl rfl (Int.not_lt.mp h_16) ?_
      obtain ⟨v_39, he_40, hk_41⟩ := bd_e H
      have J_42 : ∀ x_38, v_39 = x_38 → YY l E M_X3_lieAcross 2 0 0 (pS (some (zv r)) σ) 77 [some (vr 222), some (vi first_0), some (vi second_0)] [zv x_38] σ 0 0 := by
        intro x_38 e
        have H := hk_41
        rw [e] at H
        cases H
        exact z_zret (M := M_X3_lieAcross) dX3_lieAcross_77 rfl (Nat.le_of_ble_eq_true rfl) (Nat.le_of_ble_eq_true rfl) ⟨rfl, rfl⟩
      have H := he_40
      refine z_iload_n (M := M_X3_lieAcross) dX3_lieAcross_58 rfl ?_
      refine z_iconst (M := M_X3_lieAcross) dX3_lieAcross_59 ?_
      rcases if_e H with ⟨h_31, H⟩ | ⟨h_31, H⟩
      · refine z_icmp_ne_f (M := M_X3_lieAcross) (tgt := 76) dX3_lieAcross_60 (by decide) rfl (by decide +kernel) h_31 ?_
        refine z_aload_n (M := M_X3_lieAcross) dX3_lieAcross_63 rfl ?_
        refine z_getR (M := M_X3_lieAcross) (ci := 6) (C := RX3) (T := TX3) (Nf := 12) (ty := tyX3) cl6 dX3_lieAcross_64 ly_222 1 (by decide) t_443 rfl ?_
        refine z_iconst (M := M_X3_lieAcross) dX3_lieAcross_67 ?_
        obtain ⟨x_32, x_32_e, hi_33, H⟩ := rd_e H
        refine z_iald (M := M_X3_lieAcross) dX3_lieAcross_68 ly_229 rfl (by decide +kernel) rfl hi_33 x_32_e ?_
        rcases if_e H with ⟨h_34, H⟩ | ⟨h_34, H⟩
        · refine z_if_ne_f (M := M_X3_lieAcross) (tgt := 76) dX3_lieAcross_69 (by decide) rfl h_34 ?_
          refine z_zconst (M := M_X3_lieAcross) (b := true) dX3_lieAcross_72 rfl ?_
          refine z_goto (M := M_X3_lieAcross) (tgt := 77) dX3_lieAcross_73 (by decide) ?_
          exact J_42 _ (Option.some.inj H).symm
        · refine z_if_ne_t (M := M_X3_lieAcross) (tgt := 76) dX3_lieAcross_69 (by decide) rfl h_34 ?_
          refine z_zconst (M := M_X3_lieAcross) (b := false) dX3_lieAcross_76 rfl ?_
          exact J_42 _ (Option.some.inj H).symm
      · refine z_icmp_ne_t (M := M_X3_lieAcross) (tgt := 76) dX3_lieAcross_60 (by decide) rfl (by decide +kernel) h_31 ?_
        refine z_zconst (M := M_X3_lieAcross) (b := false) dX3_lieAcross_76 rfl ?_
        exact J_42 _ (Option.some.inj H).symm
theorem c_X3_lieSo (hl : l.stackTraces = false) {σ : SG} {what_0 : Int} {r : Bool}  (H : fT_lieSo σ what_0 = some r) : en_S l E M_X3_lieSo 3 0 0 [vr 222, vi what_0] σ (pS (some (zv r)) σ) := by
  unfold fT_lieSo at H
  refine z_mk (lv := [some (vr 222), some (vi what_0), none, none]) m_X3_lieSo rfl hl (Nat.le_of_ble_eq_true rfl) rfl ?_
  refine z_aload_n (M := M_X3_lieSo) dX3_lieSo_0 rfl ?_
  refine z_getR (M := M_X3_lieSo) (ci := 6) (C := RX3) (T := TX3) (Nf := 12) (ty := tyX3) cl6 dX3_lieSo_1 ly_222 1 (by decide) t_443 rfl ?_
  refine z_iconst (M := M_X3_lieSo) dX3_lieSo_4 ?_
  obtain ⟨x_1, x_1_e, hi_2, H⟩ := rd_e H
  refine z_iald (M := M_X3_lieSo) dX3_lieSo_5 ly_229 rfl (by decide +kernel) rfl hi_2 x_1_e ?_
  refine z_aload_n (M := M_X3_lieSo) dX3_lieSo_6 rfl ?_
  refine z_getR (M := M_X3_lieSo) (ci := 6) (C := RX3) (T := TX3) (Nf := 12) (ty := tyX3) cl6 dX3_lieSo_7 ly_222 1 (by decide) t_443 rfl ?_
  refine z_iconst (M := M_X3_lieSo) dX3_lieSo_10 ?_
  obtain ⟨x_3, x_3_e, hi_4, H⟩ := rd_e H
  refine z_iald (M := M_X3_lieSo) dX3_lieSo_11 ly_229 rfl (by decide +kernel) rfl hi_4 x_3_e ?_
  refine z_aload_n (M := M_X3_lieSo) dX3_lieSo_12 rfl ?_
  refine z_getR (M := M_X3_lieSo) (ci := 6) (C := RX3) (T := TX3) (Nf := 12) (ty := tyX3) cl6 dX3_lieSo_13 ly_222 1 (by decide) t_443 rfl ?_
  refine z_iconst (M := M_X3_lieSo) dX3_lieSo_16 ?_
  obtain ⟨x_5, x_5_e, hi_6, H⟩ := rd_e H
  refine z_iald (M := M_X3_lieSo) dX3_lieSo_17 ly_229 rfl (by decide +kernel) rfl hi_6 x_5_e ?_
  refine z_mmax (M := M_X3_lieSo) dX3_lieSo_18 t_2002 t_1013 t_20 t_1014 (Nat.le_of_ble_eq_true rfl) (Nat.le_of_ble_eq_true rfl) (Nat.le_of_ble_eq_true rfl) (Nat.le_of_ble_eq_true rfl) ?_
  refine z_mmax (M := M_X3_lieSo) dX3_lieSo_21 t_2002 t_1013 t_20 t_1014 (Nat.le_of_ble_eq_true rfl) (Nat.le_of_ble_eq_true rfl) (Nat.le_of_ble_eq_true rfl) (Nat.le_of_ble_eq_true rfl) ?_
  refine z_istore_n (M := M_X3_lieSo) (lv' := [some (vr 222), some (vi what_0), some (vi (q_mxi x_1 (q_mxi x_3 x_5))), none]) dX3_lieSo_24 (Nat.le_of_ble_eq_true rfl) rfl rfl ?_
  refine z_aload_n (M := M_X3_lieSo) dX3_lieSo_25 rfl ?_
  refine z_getR (M := M_X3_lieSo) (ci := 6) (C := RX3) (T := TX3) (Nf := 12) (ty := tyX3) cl6 dX3_lieSo_26 ly_222 1 (by decide) t_443 rfl ?_
  refine z_iconst (M := M_X3_lieSo) dX3_lieSo_29 ?_
  obtain ⟨x_7, x_7_e, hi_8, H⟩ := rd_e H
  refine z_iald (M := M_X3_lieSo) dX3_lieSo_30 ly_229 rfl (by decide +kernel) rfl hi_8 x_7_e ?_
  refine z_aload_n (M := M_X3_lieSo) dX3_lieSo_31 rfl ?_
  refine z_getR (M := M_X3_lieSo) (ci := 6) (C := RX3) (T := TX3) (Nf := 12) (ty := tyX3) cl6 dX3_lieSo_32 ly_222 1 (by decide) t_443 rfl ?_
  refine z_iconst (M := M_X3_lieSo) dX3_lieSo_35 ?_
  obtain ⟨x_9, x_9_e, hi_10, H⟩ := rd_e H
  refine z_iald (M := M_X3_lieSo) dX3_lieSo_36 ly_229 rfl (by decide +kernel) rfl hi_10 x_9_e ?_
  refine z_aload_n (M := M_X3_lieSo) dX3_lieSo_37 rfl ?_
  refine z_getR (M := M_X3_lieSo) (ci := 6) (C := RX3) (T := TX3) (Nf := 12) (ty := tyX3) cl6 dX3_lieSo_38 ly_222 1 (by decide) t_443 rfl ?_
  refine z_bipush (M := M_X3_lieSo) dX3_lieSo_41 (by decide +kernel) ?_
  obtain ⟨x_11, x_11_e, hi_12, H⟩ := rd_e H
  refine z_iald (M := M_X3_lieSo) dX3_lieSo_43 ly_229 rfl (by decide +kernel) rfl hi_12 x_11_e ?_
  refine z_mmax (M := M_X3_lieSo) dX3_lieSo_44 t_2002 t_1013 t_20 t_1014 (Nat.le_of_ble_eq_true rfl) (Nat.le_of_ble_eq_true rfl) (Nat.le_of_ble_eq_true rfl) (Nat.le_of_ble_eq_true rfl) ?_
  refine z_mmax (M := M_X3_lieSo) dX3_lieSo_47 t_2002 t_1013 t_20 t_1014 (Nat.le_of_ble_eq_true rfl) (Nat.le_of_ble_eq_true rfl) (Nat.le_of_ble_eq_true rfl) (Nat.le_of_ble_eq_true rfl) ?_
  refine z_istore_n (M := M_X3_lieSo) (lv' := [some (vr 222), some (vi what_0), some (vi (q_mxi x_1 (q_mxi x_3 x_5))), some (vi (q_mxi x_7 (q_mxi x_9 x_11)))]) dX3_lieSo_50 (Nat.le_of_ble_eq_true rfl) rfl rfl ?_
  refine z_iload_n (M := M_X3_lieSo) dX3_lieSo_51 rfl ?_
  rcases if_e H with ⟨h_13, H⟩ | ⟨h_13, H⟩
  · refine z_tabIn (M := M_X3_lieSo) (tgt := 100) (off := 48) dX3_lieSo_52 h_13 (by decide) (by decide) rfl (by decide) ?_
    obtain ⟨v_44, he_45, hk_46⟩ := bd_e H
    have J_47 : ∀ x_43, v_44 = x_43 → YY l E M_X3_lieSo 3 0 0 (pS (some (zv r)) σ) 136 [some (vr 222), some (vi what_0), some (vi (q_mxi x_1 (q_mxi x_3 x_5))), some (vi (q_mxi x_7 (q_mxi x_9 x_11)))] [zv x_43] σ 0 0 := by
      intro x_43 e
      have H := hk_46
      rw [e] at H
      cases H
      exact z_zret (M := M_X3_lieSo) dX3_lieSo_136 rfl (Nat.le_of_ble_eq_true rfl) (Nat.le_of_ble_eq_true rfl) ⟨rfl, rfl⟩
    have H := he_45
    refine z_iload_n (M := M_X3_lieSo) dX3_lieSo_100 rfl ?_
    rcases if_e H with ⟨h_14, H⟩ | ⟨h_14, H⟩
    · refine z_if_ge_f (M := M_X3_lieSo) (tgt := 108) dX3_lieSo_101 (by decide) rfl h_14 ?_
      refine z_iload_n (M := M_X3_lieSo) dX3_lieSo_104 rfl ?_
      rcases if_e H with ⟨h_15, H⟩ | ⟨h_15, H⟩
      · refine z_if_lt_t (M := M_X3_lieSo) (tgt := 131) dX3_lieSo_105 (by decide) rfl h_15 ?_
        refine z_zconst (M := M_X3_lieSo) (b := true) dX3_lieSo_131 rfl ?_
        refine z_goto (M := M_X3_lieSo) (tgt := 136) dX3_lieSo_132 (by decide) ?_
        exact J_47 _ (Option.some.inj H).symm
      · refine z_if_lt_f (M := M_X3_lieSo) (tgt := 131) dX3_lieSo_105 (by decide) rfl (Int.not_lt.mp h_15) ?_
        refine z_aload_n (M := M_X3_lieSo) dX3_lieSo_108 rfl ?_
        refine z_iconst (M := M_X3_lieSo) dX3_lieSo_109 ?_
        refine z_iconst (M := M_X3_lieSo) dX3_lieSo_110 ?_
        obtain ⟨x_18, hc_17, H⟩ := bd_e H
        refine z_callV (M := M_X3_lieSo) (M' := M_X3_has) (as := [vi 0, vi 0]) (rest := []) rfl rfl dX3_lieSo_111 m_X3_has t_2046 t_2048 s_123 (c_X3_has hl  hc_17) rfl rfl ly_222 rfl (Nat.le_of_ble_eq_true rfl) (Nat.le_of_ble_eq_true rfl) (Nat.le_of_ble_eq_true rfl) (Nat.le_of_ble_eq_true rfl) ?_
        refine z_st (st' := [zv x_18]) rfl ?_
        rcases if_e H with ⟨h_19, H⟩ | ⟨h_19, H⟩
        · refine z_zeq_f (M := M_X3_lieSo) (tgt := 135) dX3_lieSo_114 (by decide) h_19 ?_
          refine z_aload_n (M := M_X3_lieSo) dX3_lieSo_117 rfl ?_
          obtain ⟨x_21, hc_20, H⟩ := bd_e H
          refine z_callV (M := M_X3_lieSo) (M' := M_X3_isFirstOutside) (as := []) (rest := []) rfl rfl dX3_lieSo_118 m_X3_isFirstOutside t_2050 t_2052 s_124 (c_X3_isFirstOutside hl  hc_20) rfl rfl ly_222 rfl (Nat.le_of_ble_eq_true rfl) (Nat.le_of_ble_eq_true rfl) (Nat.le_of_ble_eq_true rfl) (Nat.le_of_ble_eq_true rfl) ?_
          refine z_st (st' := [zv x_21]) rfl ?_
          rcases if_e H with ⟨h_22, H⟩ | ⟨h_22, H⟩
          · refine z_zne_t (M := M_X3_lieSo) (tgt := 135) dX3_lieSo_121 (by decide) h_22 ?_
            refine z_zconst (M := M_X3_lieSo) (b := false) dX3_lieSo_135 rfl ?_
            exact J_47 _ (Option.some.inj H).symm
          · refine z_zne_f (M := M_X3_lieSo) (tgt := 135) dX3_lieSo_121 (by decide) h_22 ?_
            refine z_aload_n (M := M_X3_lieSo) dX3_lieSo_124 rfl ?_
            obtain ⟨x_25, hc_24, H⟩ := bd_e H
            refine z_callV (M := M_X3_lieSo) (M' := M_X3_isSecondOutside) (as := []) (rest := []) rfl rfl dX3_lieSo_125 m_X3_isSecondOutside t_2054 t_2056 s_125 (c_X3_isSecondOutside hl  hc_24) rfl rfl ly_222 rfl (Nat.le_of_ble_eq_true rfl) (Nat.le_of_ble_eq_true rfl) (Nat.le_of_ble_eq_true rfl) (Nat.le_of_ble_eq_true rfl) ?_
            refine z_st (st' := [zv x_25]) rfl ?_
            rcases if_e H with ⟨h_26, H⟩ | ⟨h_26, H⟩
            · refine z_zne_t (M := M_X3_lieSo) (tgt := 135) dX3_lieSo_128 (by decide) h_26 ?_
              refine z_zconst (M := M_X3_lieSo) (b := false) dX3_lieSo_135 rfl ?_
              exact J_47 _ (Option.some.inj H).symm
            · refine z_zne_f (M := M_X3_lieSo) (tgt := 135) dX3_lieSo_128 (by decide) h_26 ?_
              refine z_zconst (M := M_X3_lieSo) (b := true) dX3_lieSo_131 rfl ?_
              refine z_goto (M := M_X3_lieSo) (tgt := 136) dX3_lieSo_132 (by decide) ?_
              exact J_47 _ (Option.some.inj H).symm
        · refine z_zeq_t (M := M_X3_lieSo) (tgt := 135) dX3_lieSo_114 (by decide) h_19 ?_
          refine z_zconst (M := M_X3_lieSo) (b := false) dX3_lieSo_135 rfl ?_
          exact J_47 _ (Option.some.inj H).symm
    · refine z_if_ge_t (M := M_X3_lieSo) (tgt := 108) dX3_lieSo_101 (by decide) rfl (Int.not_lt.mp h_14) ?_
      refine z_aload_n (M := M_X3_lieSo) dX3_lieSo_108 rfl ?_
      refine z_iconst (M := M_X3_lieSo) dX3_lieSo_109 ?_
      refine z_iconst (M := M_X3_lieSo) dX3_lieSo_110 ?_
      obtain ⟨x_31, hc_30, H⟩ := bd_e H
      refine z_callV (M := M_X3_lieSo) (M' := M_X3_has) (as := [vi 0, vi 0]) (rest := []) rfl rfl dX3_lieSo_111 m_X3_has t_2046 t_2048 s_123 (c_X3_has hl  hc_30) rfl rfl ly_222 rfl (Nat.le_of_ble_eq_true rfl) (Nat.le_of_ble_eq_true rfl) (Nat.le_of_ble_eq_true rfl) (Nat.le_of_ble_eq_true rfl) ?_
      refine z_st (st' := [zv x_31]) rfl ?_
      rcases if_e H with ⟨h_32, H⟩ | ⟨h_32, H⟩
      · refine z_zeq_f (M := M_X3_lieSo) (tgt := 135) dX3_lieSo_114 (by decide) h_32 ?_
        refine z_aload_n (M := M_X3_lieSo) dX3_lieSo_117 rfl ?_
        obtain ⟨x_34, hc_33, H⟩ := bd_e H
        refine z_callV (M := M_X3_lieSo) (M' := M_X3_isFirstOutside) (as := []) (rest := []) rfl rfl dX3_lieSo_118 m_X3_isFirstOutside t_2050 t_2052 s_124 (c_X3_isFirstOutside hl  hc_33) rfl rfl ly_222 rfl (Nat.le_of_ble_eq_true rfl) (Nat.le_of_ble_eq_true rfl) (Nat.le_of_ble_eq_true rfl) (Nat.le_of_ble_eq_true rfl) ?_
        refine z_st (st' := [zv x_34]) rfl ?_
        rcases if_e H with ⟨h_35, H⟩ | ⟨h_35, H⟩
        · refine z_zne_t (M := M_X3_lieSo) (tgt := 135) dX3_lieSo_121 (by decide) h_35 ?_
          refine z_zconst (M := M_X3_lieSo) (b := false) dX3_lieSo_135 rfl ?_
          exact J_47 _ (Option.some.inj H).symm
        · refine z_zne_f (M := M_X3_lieSo) (tgt := 135) dX3_lieSo_121 (by decide) h_35 ?_
          refine z_aload_n (M := M_X3_lieSo) dX3_lieSo_124 rfl ?_
          obtain ⟨x_38, hc_37, H⟩ := bd_e H
          refine z_callV (M := M_X3_lieSo) (M' := M_X3_isSecondOutside) (as := []) (rest := []) rfl rfl dX3_lieSo_125 m_X3_isSecondOutside t_2054 t_2056 s_125 (c_X3_isSecondOutside hl  hc_37) rfl rfl ly_222 rfl (Nat.le_of_ble_eq_true rfl) (Nat.le_of_ble_eq_true rfl) (Nat.le_of_ble_eq_true rfl) (Nat.le_of_ble_eq_true rfl) ?_
          refine z_st (st' := [zv x_38]) rfl ?_
          rcases if_e H with ⟨h_39, H⟩ | ⟨h_39, H⟩
          · refine z_zne_t (M := M_X3_lieSo) (tgt := 135) dX3_lieSo_128 (by decide) h_39 ?_
            refine z_zconst (M := M_X3_lieSo) (b := false) dX3_lieSo_135 rfl ?_
            exact J_47 _ (Option.some.inj H).symm
          · refine z_zne_f (M := M_X3_lieSo) (tgt := 135) dX3_lieSo_128 (by decide) h_39 ?_
            refine z_zconst (M := M_X3_lieSo) (b := true) dX3_lieSo_131 rfl ?_
            refine z_goto (M := M_X3_lieSo) (tgt := 136) dX3_lieSo_132 (by decide) ?_
            exact J_47 _ (Option.some.inj H).symm
      · refine z_zeq_t (M := M_X3_lieSo) (tgt := 135) dX3_lieSo_114 (by decide) h_32 ?_
        refine z_zconst (M := M_X3_lieSo) (b := false) dX3_lieSo_135 rfl ?_
        exact J_47 _ (Option.some.inj H).symm
  · rcases if_e H with ⟨h_48, H⟩ | ⟨h_48, H⟩
    · refine z_tabIn (M := M_X3_lieSo) (tgt := 137) (off := 85) dX3_lieSo_52 h_48 (by decide) (by decide) rfl (by decide) ?_
      obtain ⟨v_55, he_56, hk_57⟩ := bd_e H
      have J_58 : ∀ x_54, v_55 = x_54 → YY l E M_X3_lieSo 3 0 0 (pS (some (zv r)) σ) 149 [some (vr 222), some (vi what_0), some (vi (q_mxi x_1 (q_mxi x_3 x_5))), some (vi (q_mxi x_7 (q_mxi x_9 x_11)))] [zv x_54] σ 0 0 := by
        intro x_54 e
        have H := hk_57
        rw [e] at H
        cases H
        exact z_zret (M := M_X3_lieSo) dX3_lieSo_149 rfl (Nat.le_of_ble_eq_true rfl) (Nat.le_of_ble_eq_true rfl) ⟨rfl, rfl⟩
      have H := he_56
      refine z_aload_n (M := M_X3_lieSo) dX3_lieSo_137 rfl ?_
      obtain ⟨x_50, hc_49, H⟩ := bd_e H
      refine z_callV (M := M_X3_lieSo) (M' := M_X3_haveCommonPlace) (as := []) (rest := []) rfl rfl dX3_lieSo_138 m_X3_haveCommonPlace t_2058 t_2060 s_126 (c_X3_haveCommonPlace hl  hc_49) rfl rfl ly_222 rfl (Nat.le_of_ble_eq_true rfl) (Nat.le_of_ble_eq_true rfl) (Nat.le_of_ble_eq_true rfl) (Nat.le_of_ble_eq_true rfl) ?_
      refine z_st (st' := [zv x_50]) rfl ?_
      rcases if_e H with ⟨h_51, H⟩ | ⟨h_51, H⟩
      · refine z_zne_t (M := M_X3_lieSo) (tgt := 148) dX3_lieSo_141 (by decide) h_51 ?_
        refine z_zconst (M := M_X3_lieSo) (b := false) dX3_lieSo_148 rfl ?_
        exact J_58 _ (Option.some.inj H).symm
      · refine z_zne_f (M := M_X3_lieSo) (tgt := 148) dX3_lieSo_141 (by decide) h_51 ?_
        refine z_zconst (M := M_X3_lieSo) (b := true) dX3_lieSo_144 rfl ?_
        refine z_goto (M := M_X3_lieSo) (tgt := 149) dX3_lieSo_145 (by decide) ?_
        exact J_58 _ (Option.some.inj H).symm
    · rcases if_e H with ⟨h_59, H⟩ | ⟨h_59, H⟩
      · refine z_tabIn (M := M_X3_lieSo) (tgt := 150) (off := 98) dX3_lieSo_52 h_59 (by decide) (by decide) rfl (by decide) ?_
        obtain ⟨v_70, he_71, hk_72⟩ := bd_e H
        have J_73 : ∀ x_69, v_70 = x_69 → YY l E M_X3_lieSo 3 0 0 (pS (some (zv r)) σ) 171 [some (vr 222), some (vi what_0), some (vi (q_mxi x_1 (q_mxi x_3 x_5))), some (vi (q_mxi x_7 (q_mxi x_9 x_11)))] [zv x_69] σ 0 0 := by
          intro x_69 e
          have H := hk_72
          rw [e] at H
          cases H
          exact z_zret (M := M_X3_lieSo) dX3_lieSo_171 rfl (Nat.le_of_ble_eq_true rfl) (Nat.le_of_ble_eq_true rfl) ⟨rfl, rfl⟩
        have H := he_71
        refine z_aload_n (M := M_X3_lieSo) dX3_lieSo_150 rfl ?_
        refine z_iconst (M := M_X3_lieSo) dX3_lieSo_151 ?_
        refine z_iconst (M := M_X3_lieSo) dX3_lieSo_152 ?_
        obtain ⟨x_61, hc_60, H⟩ := bd_e H
        refine z_callV (M := M_X3_lieSo) (M' := M_X3_has) (as := [vi 0, vi 0]) (rest := []) rfl rfl dX3_lieSo_153 m_X3_has t_2046 t_2048 s_123 (c_X3_has hl  hc_60) rfl rfl ly_222 rfl (Nat.le_of_ble_eq_true rfl) (Nat.le_of_ble_eq_true rfl) (Nat.le_of_ble_eq_true rfl) (Nat.le_of_ble_eq_true rfl) ?_
        refine z_st (st' := [zv x_61]) rfl ?_
        rcases if_e H with ⟨h_62, H⟩ | ⟨h_62, H⟩
        · refine z_zne_t (M := M_X3_lieSo) (tgt := 170) dX3_lieSo_156 (by decide) h_62 ?_
          refine z_zconst (M := M_X3_lieSo) (b := false) dX3_lieSo_170 rfl ?_
          exact J_73 _ (Option.some.inj H).symm
        · refine z_zne_f (M := M_X3_lieSo) (tgt := 170) dX3_lieSo_156 (by decide) h_62 ?_
          refine z_aload_n (M := M_X3_lieSo) dX3_lieSo_159 rfl ?_
          obtain ⟨x_65, hc_64, H⟩ := bd_e H
          refine z_callV (M := M_X3_lieSo) (M' := M_X3_haveCommonPlace) (as := []) (rest := []) rfl rfl dX3_lieSo_160 m_X3_haveCommonPlace t_2058 t_2060 s_126 (c_X3_haveCommonPlace hl  hc_64) rfl rfl ly_222 rfl (Nat.le_of_ble_eq_true rfl) (Nat.le_of_ble_eq_true rfl) (Nat.le_of_ble_eq_true rfl) (Nat.le_of_ble_eq_true rfl) ?_
          refine z_st (st' := [zv x_65]) rfl ?_
          rcases if_e H with ⟨h_66, H⟩ | ⟨h_66, H⟩
          · refine z_zeq_f (M := M_X3_lieSo) (tgt := 170) dX3_lieSo_163 (by decide) h_66 ?_
            refine z_zconst (M := M_X3_lieSo) (b := true) dX3_lieSo_166 rfl ?_
            refine z_goto (M := M_X3_lieSo) (tgt := 171) dX3_lieSo_167 (by decide) ?_
            exact J_73 _ (Option.some.inj H).symm
          · refine z_zeq_t (M := M_X3_lieSo) (tgt := 170) dX3_lieSo_163 (by decide) h_66 ?_
            refine z_zconst (M := M_X3_lieSo) (b := false) dX3_lieSo_170 rfl ?_
            exact J_73 _ (Option.some.inj H).symm
      · rcases if_e H with ⟨h_74, H⟩ | ⟨h_74, H⟩
        · refine z_tabIn (M := M_X3_lieSo) (tgt := 172) (off := 120) dX3_lieSo_52 h_74 (by decide) (by decide) rfl (by decide) ?_
          refine z_aload_n (M := M_X3_lieSo) dX3_lieSo_172 rfl ?_
          refine z_iload_n (M := M_X3_lieSo) dX3_lieSo_173 rfl ?_
          refine z_iload_n (M := M_X3_lieSo) dX3_lieSo_174 rfl ?_
          obtain ⟨x_76, hc_75, H⟩ := bd_e H
          refine z_callV (M := M_X3_lieSo) (M' := M_X3_lieAcross) (as := [vi (q_mxi x_1 (q_mxi x_3 x_5)), vi (q_mxi x_7 (q_mxi x_9 x_11))]) (rest := []) rfl rfl dX3_lieSo_175 m_X3_lieAcross t_2062 t_2064 s_127 (c_X3_lieAcross hl  hc_75) rfl rfl ly_222 rfl (Nat.le_of_ble_eq_true rfl) (Nat.le_of_ble_eq_true rfl) (Nat.le_of_ble_eq_true rfl) (Nat.le_of_ble_eq_true rfl) ?_
          refine z_st (st' := [zv x_76]) rfl ?_
          cases H
          exact z_zret (M := M_X3_lieSo) dX3_lieSo_178 rfl (Nat.le_of_ble_eq_true rfl) (Nat.le_of_ble_eq_true rfl) ⟨rfl, rfl⟩
        · rcases if_e H with ⟨h_77, H⟩ | ⟨h_77, H⟩
          · refine z_tabIn (M := M_X3_lieSo) (tgt := 179) (off := 127) dX3_lieSo_52 h_77 (by decide) (by decide) rfl (by decide) ?_
            obtain ⟨v_88, he_89, hk_90⟩ := bd_e H
            have J_91 : ∀ x_87, v_88 = x_87 → YY l E M_X3_lieSo 3 0 0 (pS (some (zv r)) σ) 200 [some (vr 222), some (vi what_0), some (vi (q_mxi x_1 (q_mxi x_3 x_5))), some (vi (q_mxi x_7 (q_mxi x_9 x_11)))] [zv x_87] σ 0 0 := by
              intro x_87 e
              have H := hk_90
              rw [e] at H
              cases H
              exact z_zret (M := M_X3_lieSo) dX3_lieSo_200 rfl (Nat.le_of_ble_eq_true rfl) (Nat.le_of_ble_eq_true rfl) ⟨rfl, rfl⟩
            have H := he_89
            refine z_aload_n (M := M_X3_lieSo) dX3_lieSo_179 rfl ?_
            refine z_iconst (M := M_X3_lieSo) dX3_lieSo_180 ?_
            refine z_iconst (M := M_X3_lieSo) dX3_lieSo_181 ?_
            obtain ⟨x_79, hc_78, H⟩ := bd_e H
            refine z_callV (M := M_X3_lieSo) (M' := M_X3_has) (as := [vi 0, vi 0]) (rest := []) rfl rfl dX3_lieSo_182 m_X3_has t_2046 t_2048 s_123 (c_X3_has hl  hc_78) rfl rfl ly_222 rfl (Nat.le_of_ble_eq_true rfl) (Nat.le_of_ble_eq_true rfl) (Nat.le_of_ble_eq_true rfl) (Nat.le_of_ble_eq_true rfl) ?_
            refine z_st (st' := [zv x_79]) rfl ?_
            rcases if_e H with ⟨h_80, H⟩ | ⟨h_80, H⟩
            · refine z_zeq_f (M := M_X3_lieSo) (tgt := 199) dX3_lieSo_185 (by decide) h_80 ?_
              refine z_aload_n (M := M_X3_lieSo) dX3_lieSo_188 rfl ?_
              obtain ⟨x_82, hc_81, H⟩ := bd_e H
              refine z_callV (M := M_X3_lieSo) (M' := M_X3_isFirstOutside) (as := []) (rest := []) rfl rfl dX3_lieSo_189 m_X3_isFirstOutside t_2050 t_2052 s_124 (c_X3_isFirstOutside hl  hc_81) rfl rfl ly_222 rfl (Nat.le_of_ble_eq_true rfl) (Nat.le_of_ble_eq_true rfl) (Nat.le_of_ble_eq_true rfl) (Nat.le_of_ble_eq_true rfl) ?_
              refine z_st (st' := [zv x_82]) rfl ?_
              rcases if_e H with ⟨h_83, H⟩ | ⟨h_83, H⟩
              · refine z_zne_t (M := M_X3_lieSo) (tgt := 199) dX3_lieSo_192 (by decide) h_83 ?_
                refine z_zconst (M := M_X3_lieSo) (b := false) dX3_lieSo_199 rfl ?_
                exact J_91 _ (Option.some.inj H).symm
              · refine z_zne_f (M := M_X3_lieSo) (tgt := 199) dX3_lieSo_192 (by decide) h_83 ?_
                refine z_zconst (M := M_X3_lieSo) (b := true) dX3_lieSo_195 rfl ?_
                refine z_goto (M := M_X3_lieSo) (tgt := 200) dX3_lieSo_196 (by decide) ?_
                exact J_91 _ (Option.some.inj H).symm
            · refine z_zeq_t (M := M_X3_lieSo) (tgt := 199) dX3_lieSo_185 (by decide) h_80 ?_
              refine z_zconst (M := M_X3_lieSo) (b := false) dX3_lieSo_199 rfl ?_
              exact J_91 _ (Option.some.inj H).symm
          · rcases if_e H with ⟨h_92, H⟩ | ⟨h_92, H⟩
            · refine z_tabIn (M := M_X3_lieSo) (tgt := 201) (off := 149) dX3_lieSo_52 h_92 (by decide) (by decide) rfl (by decide) ?_
              obtain ⟨v_103, he_104, hk_105⟩ := bd_e H
              have J_106 : ∀ x_102, v_103 = x_102 → YY l E M_X3_lieSo 3 0 0 (pS (some (zv r)) σ) 222 [some (vr 222), some (vi what_0), some (vi (q_mxi x_1 (q_mxi x_3 x_5))), some (vi (q_mxi x_7 (q_mxi x_9 x_11)))] [zv x_102] σ 0 0 := by
                intro x_102 e
                have H := hk_105
                rw [e] at H
                cases H
                exact z_zret (M := M_X3_lieSo) dX3_lieSo_222 rfl (Nat.le_of_ble_eq_true rfl) (Nat.le_of_ble_eq_true rfl) ⟨rfl, rfl⟩
              have H := he_104
              refine z_aload_n (M := M_X3_lieSo) dX3_lieSo_201 rfl ?_
              refine z_iconst (M := M_X3_lieSo) dX3_lieSo_202 ?_
              refine z_iconst (M := M_X3_lieSo) dX3_lieSo_203 ?_
              obtain ⟨x_94, hc_93, H⟩ := bd_e H
              refine z_callV (M := M_X3_lieSo) (M' := M_X3_has) (as := [vi 0, vi 0]) (rest := []) rfl rfl dX3_lieSo_204 m_X3_has t_2046 t_2048 s_123 (c_X3_has hl  hc_93) rfl rfl ly_222 rfl (Nat.le_of_ble_eq_true rfl) (Nat.le_of_ble_eq_true rfl) (Nat.le_of_ble_eq_true rfl) (Nat.le_of_ble_eq_true rfl) ?_
              refine z_st (st' := [zv x_94]) rfl ?_
              rcases if_e H with ⟨h_95, H⟩ | ⟨h_95, H⟩
              · refine z_zeq_f (M := M_X3_lieSo) (tgt := 221) dX3_lieSo_207 (by decide) h_95 ?_
                refine z_aload_n (M := M_X3_lieSo) dX3_lieSo_210 rfl ?_
                obtain ⟨x_97, hc_96, H⟩ := bd_e H
                refine z_callV (M := M_X3_lieSo) (M' := M_X3_isSecondOutside) (as := []) (rest := []) rfl rfl dX3_lieSo_211 m_X3_isSecondOutside t_2054 t_2056 s_125 (c_X3_isSecondOutside hl  hc_96) rfl rfl ly_222 rfl (Nat.le_of_ble_eq_true rfl) (Nat.le_of_ble_eq_true rfl) (Nat.le_of_ble_eq_true rfl) (Nat.le_of_ble_eq_true rfl) ?_
                refine z_st (st' := [zv x_97]) rfl ?_
                rcases if_e H with ⟨h_98, H⟩ | ⟨h_98, H⟩
                · refine z_zne_t (M := M_X3_lieSo) (tgt := 221) dX3_lieSo_214 (by decide) h_98 ?_
                  refine z_zconst (M := M_X3_lieSo) (b := false) dX3_lieSo_221 rfl ?_
                  exact J_106 _ (Option.some.inj H).symm
                · refine z_zne_f (M := M_X3_lieSo) (tgt := 221) dX3_lieSo_214 (by decide) h_98 ?_
                  refine z_zconst (M := M_X3_lieSo) (b := true) dX3_lieSo_217 rfl ?_
                  refine z_goto (M := M_X3_lieSo) (tgt := 222) dX3_lieSo_218 (by decide) ?_
                  exact J_106 _ (Option.some.inj H).symm
              · refine z_zeq_t (M := M_X3_lieSo) (tgt := 221) dX3_lieSo_207 (by decide) h_95 ?_
                refine z_zconst (M := M_X3_lieSo) (b := false) dX3_lieSo_221 rfl ?_
                exact J_106 _ (Option.some.inj H).symm
            · rcases if_e H with ⟨h_107, H⟩ | ⟨h_107, H⟩
              · refine z_tabIn (M := M_X3_lieSo) (tgt := 223) (off := 171) dX3_lieSo_52 h_107 (by decide) (by decide) rfl (by decide) ?_
                obtain ⟨v_126, he_127, hk_128⟩ := bd_e H
                have J_129 : ∀ x_125, v_126 = x_125 → YY l E M_X3_lieSo 3 0 0 (pS (some (zv r)) σ) 265 [some (vr 222), some (vi what_0), some (vi (q_mxi x_1 (q_mxi x_3 x_5))), some (vi (q_mxi x_7 (q_mxi x_9 x_11)))] [zv x_125] σ 0 0 := by
                  intro x_125 e
                  have H := hk_128
                  rw [e] at H
                  cases H
                  exact z_zret (M := M_X3_lieSo) dX3_lieSo_265 rfl (Nat.le_of_ble_eq_true rfl) (Nat.le_of_ble_eq_true rfl) ⟨rfl, rfl⟩
                have H := he_127
                refine z_iload_n (M := M_X3_lieSo) dX3_lieSo_223 rfl ?_
                refine z_iload_n (M := M_X3_lieSo) dX3_lieSo_224 rfl ?_
                rcases if_e H with ⟨h_108, H⟩ | ⟨h_108, H⟩
                · refine z_icmp_ne_f (M := M_X3_lieSo) (tgt := 264) dX3_lieSo_225 (by decide) rfl rfl h_108 ?_
                  refine z_iload_n (M := M_X3_lieSo) dX3_lieSo_228 rfl ?_
                  rcases if_e H with ⟨h_109, H⟩ | ⟨h_109, H⟩
                  · refine z_if_lt_f (M := M_X3_lieSo) (tgt := 264) dX3_lieSo_229 (by decide) rfl h_109 ?_
                    refine z_aload_n (M := M_X3_lieSo) dX3_lieSo_232 rfl ?_
                    refine z_getR (M := M_X3_lieSo) (ci := 6) (C := RX3) (T := TX3) (Nf := 12) (ty := tyX3) cl6 dX3_lieSo_233 ly_222 1 (by decide) t_443 rfl ?_
                    refine z_iconst (M := M_X3_lieSo) dX3_lieSo_236 ?_
                    obtain ⟨x_110, x_110_e, hi_111, H⟩ := rd_e H
                    refine z_iald (M := M_X3_lieSo) dX3_lieSo_237 ly_229 rfl (by decide +kernel) rfl hi_111 x_110_e ?_
                    refine z_iload_n (M := M_X3_lieSo) dX3_lieSo_238 rfl ?_
                    rcases if_e H with ⟨h_112, H⟩ | ⟨h_112, H⟩
                    · refine z_icmp_ne_f (M := M_X3_lieSo) (tgt := 264) dX3_lieSo_239 (by decide) rfl rfl h_112 ?_
                      refine z_aload_n (M := M_X3_lieSo) dX3_lieSo_242 rfl ?_
                      refine z_iconst (M := M_X3_lieSo) dX3_lieSo_243 ?_
                      refine z_iconst (M := M_X3_lieSo) dX3_lieSo_244 ?_
                      obtain ⟨x_114, hc_113, H⟩ := bd_e H
                      refine z_callV (M := M_X3_lieSo) (M' := M_X3_has) (as := [vi 0, vi 2]) (rest := []) rfl rfl dX3_lieSo_245 m_X3_has t_2046 t_2048 s_123 (c_X3_has hl  hc_113) rfl rfl ly_222 rfl (Nat.le_of_ble_eq_true rfl) (Nat.le_of_ble_eq_true rfl) (Nat.le_of_ble_eq_true rfl) (Nat.le_of_ble_eq_true rfl) ?_
                      refine z_st (st' := [zv x_114]) rfl ?_
                      rcases if_e H with ⟨h_115, H⟩ | ⟨h_115, H⟩
                      · refine z_zeq_f (M := M_X3_lieSo) (tgt := 264) dX3_lieSo_248 (by decide) h_115 ?_
                        refine z_aload_n (M := M_X3_lieSo) dX3_lieSo_251 rfl ?_
                        refine z_iconst (M := M_X3_lieSo) dX3_lieSo_252 ?_
                        refine z_iconst (M := M_X3_lieSo) dX3_lieSo_253 ?_
                        obtain ⟨x_117, hc_116, H⟩ := bd_e H
                        refine z_callV (M := M_X3_lieSo) (M' := M_X3_has) (as := [vi 2, vi 0]) (rest := []) rfl rfl dX3_lieSo_254 m_X3_has t_2046 t_2048 s_123 (c_X3_has hl  hc_116) rfl rfl ly_222 rfl (Nat.le_of_ble_eq_true rfl) (Nat.le_of_ble_eq_true rfl) (Nat.le_of_ble_eq_true rfl) (Nat.le_of_ble_eq_true rfl) ?_
                        refine z_st (st' := [zv x_117]) rfl ?_
                        rcases if_e H with ⟨h_118, H⟩ | ⟨h_118, H⟩
                        · refine z_zeq_f (M := M_X3_lieSo) (tgt := 264) dX3_lieSo_257 (by decide) h_118 ?_
                          refine z_zconst (M := M_X3_lieSo) (b := true) dX3_lieSo_260 rfl ?_
                          refine z_goto (M := M_X3_lieSo) (tgt := 265) dX3_lieSo_261 (by decide) ?_
                          exact J_129 _ (Option.some.inj H).symm
                        · refine z_zeq_t (M := M_X3_lieSo) (tgt := 264) dX3_lieSo_257 (by decide) h_118 ?_
                          refine z_zconst (M := M_X3_lieSo) (b := false) dX3_lieSo_264 rfl ?_
                          exact J_129 _ (Option.some.inj H).symm
                      · refine z_zeq_t (M := M_X3_lieSo) (tgt := 264) dX3_lieSo_248 (by decide) h_115 ?_
                        refine z_zconst (M := M_X3_lieSo) (b := false) dX3_lieSo_264 rfl ?_
                        exact J_129 _ (Option.some.inj H).symm
                    · refine z_icmp_ne_t (M := M_X3_lieSo) (tgt := 264) dX3_lieSo_239 (by decide) rfl rfl h_112 ?_
                      refine z_zconst (M := M_X3_lieSo) (b := false) dX3_lieSo_264 rfl ?_
                      exact J_129 _ (Option.some.inj H).symm
                  · refine z_if_lt_t (M := M_X3_lieSo) (tgt := 264) dX3_lieSo_229 (by decide) rfl (Int.not_le.mp h_109) ?_
                    refine z_zconst (M := M_X3_lieSo) (b := false) dX3_lieSo_264 rfl ?_
                    exact J_129 _ (Option.some.inj H).symm
                · refine z_icmp_ne_t (M := M_X3_lieSo) (tgt := 264) dX3_lieSo_225 (by decide) rfl rfl h_108 ?_
                  refine z_zconst (M := M_X3_lieSo) (b := false) dX3_lieSo_264 rfl ?_
                  exact J_129 _ (Option.some.inj H).symm
              · rcases if_e H with ⟨h_130, H⟩ | ⟨h_130, H⟩
                · refine z_tabIn (M := M_X3_lieSo) (tgt := 266) (off := 214) dX3_lieSo_52 h_130 (by decide) (by decide) rfl (by decide) ?_
                  obtain ⟨v_141, he_142, hk_143⟩ := bd_e H
                  have J_144 : ∀ x_140, v_141 = x_140 → YY l E M_X3_lieSo 3 0 0 (pS (some (zv r)) σ) 285 [some (vr 222), some (vi what_0), some (vi (q_mxi x_1 (q_mxi x_3 x_5))), some (vi (q_mxi x_7 (q_mxi x_9 x_11)))] [zv x_140] σ 0 0 := by
                    intro x_140 e
                    have H := hk_143
                    rw [e] at H
                    cases H
                    exact z_zret (M := M_X3_lieSo) dX3_lieSo_285 rfl (Nat.le_of_ble_eq_true rfl) (Nat.le_of_ble_eq_true rfl) ⟨rfl, rfl⟩
                  have H := he_142
                  refine z_aload_n (M := M_X3_lieSo) dX3_lieSo_266 rfl ?_
                  obtain ⟨x_132, hc_131, H⟩ := bd_e H
                  refine z_callV (M := M_X3_lieSo) (M' := M_X3_haveCommonPlace) (as := []) (rest := []) rfl rfl dX3_lieSo_267 m_X3_haveCommonPlace t_2058 t_2060 s_126 (c_X3_haveCommonPlace hl  hc_131) rfl rfl ly_222 rfl (Nat.le_of_ble_eq_true rfl) (Nat.le_of_ble_eq_true rfl) (Nat.le_of_ble_eq_true rfl) (Nat.le_of_ble_eq_true rfl) ?_
                  refine z_st (st' := [zv x_132]) rfl ?_
                  rcases if_e H with ⟨h_133, H⟩ | ⟨h_133, H⟩
                  · refine z_zeq_f (M := M_X3_lieSo) (tgt := 284) dX3_lieSo_270 (by decide) h_133 ?_
                    refine z_aload_n (M := M_X3_lieSo) dX3_lieSo_273 rfl ?_
                    obtain ⟨x_135, hc_134, H⟩ := bd_e H
                    refine z_callV (M := M_X3_lieSo) (M' := M_X3_isFirstOutside) (as := []) (rest := []) rfl rfl dX3_lieSo_274 m_X3_isFirstOutside t_2050 t_2052 s_124 (c_X3_isFirstOutside hl  hc_134) rfl rfl ly_222 rfl (Nat.le_of_ble_eq_true rfl) (Nat.le_of_ble_eq_true rfl) (Nat.le_of_ble_eq_true rfl) (Nat.le_of_ble_eq_true rfl) ?_
                    refine z_st (st' := [zv x_135]) rfl ?_
                    rcases if_e H with ⟨h_136, H⟩ | ⟨h_136, H⟩
                    · refine z_zne_t (M := M_X3_lieSo) (tgt := 284) dX3_lieSo_277 (by decide) h_136 ?_
                      refine z_zconst (M := M_X3_lieSo) (b := false) dX3_lieSo_284 rfl ?_
                      exact J_144 _ (Option.some.inj H).symm
                    · refine z_zne_f (M := M_X3_lieSo) (tgt := 284) dX3_lieSo_277 (by decide) h_136 ?_
                      refine z_zconst (M := M_X3_lieSo) (b := true) dX3_lieSo_280 rfl ?_
                      refine z_goto (M := M_X3_lieSo) (tgt := 285) dX3_lieSo_281 (by decide) ?_
                      exact J_144 _ (Option.some.inj H).symm
                  · refine z_zeq_t (M := M_X3_lieSo) (tgt := 284) dX3_lieSo_270 (by decide) h_133 ?_
                    refine z_zconst (M := M_X3_lieSo) (b := false) dX3_lieSo_284 rfl ?_
                    exact J_144 _ (Option.some.inj H).symm
                · refine z_tabOut (M := M_X3_lieSo) (tgt := 286) dX3_lieSo_52 rfl (by omega) (by decide) ?_
                  obtain ⟨v_155, he_156, hk_157⟩ := bd_e H
                  have J_158 : ∀ x_154, v_155 = x_154 → YY l E M_X3_lieSo 3 0 0 (pS (some (zv r)) σ) 305 [some (vr 222), some (vi what_0), some (vi (q_mxi x_1 (q_mxi x_3 x_5))), some (vi (q_mxi x_7 (q_mxi x_9 x_11)))] [zv x_154] σ 0 0 := by
                    intro x_154 e
                    have H := hk_157
                    rw [e] at H
                    cases H
                    exact z_zret (M := M_X3_lieSo) dX3_lieSo_305 rfl (Nat.le_of_ble_eq_true rfl) (Nat.le_of_ble_eq_true rfl) ⟨rfl, rfl⟩
                  have H := he_156
                  refine z_aload_n (M := M_X3_lieSo) dX3_lieSo_286 rfl ?_
                  obtain ⟨x_146, hc_145, H⟩ := bd_e H
                  refine z_callV (M := M_X3_lieSo) (M' := M_X3_haveCommonPlace) (as := []) (rest := []) rfl rfl dX3_lieSo_287 m_X3_haveCommonPlace t_2058 t_2060 s_126 (c_X3_haveCommonPlace hl  hc_145) rfl rfl ly_222 rfl (Nat.le_of_ble_eq_true rfl) (Nat.le_of_ble_eq_true rfl) (Nat.le_of_ble_eq_true rfl) (Nat.le_of_ble_eq_true rfl) ?_
                  refine z_st (st' := [zv x_146]) rfl ?_
                  rcases if_e H with ⟨h_147, H⟩ | ⟨h_147, H⟩
                  · refine z_zeq_f (M := M_X3_lieSo) (tgt := 304) dX3_lieSo_290 (by decide) h_147 ?_
                    refine z_aload_n (M := M_X3_lieSo) dX3_lieSo_293 rfl ?_
                    obtain ⟨x_149, hc_148, H⟩ := bd_e H
                    refine z_callV (M := M_X3_lieSo) (M' := M_X3_isSecondOutside) (as := []) (rest := []) rfl rfl dX3_lieSo_294 m_X3_isSecondOutside t_2054 t_2056 s_125 (c_X3_isSecondOutside hl  hc_148) rfl rfl ly_222 rfl (Nat.le_of_ble_eq_true rfl) (Nat.le_of_ble_eq_true rfl) (Nat.le_of_ble_eq_true rfl) (Nat.le_of_ble_eq_true rfl) ?_
                    refine z_st (st' := [zv x_149]) rfl ?_
                    rcases if_e H with ⟨h_150, H⟩ | ⟨h_150, H⟩
                    · refine z_zne_t (M := M_X3_lieSo) (tgt := 304) dX3_lieSo_297 (by decide) h_150 ?_
                      refine z_zconst (M := M_X3_lieSo) (b := false) dX3_lieSo_304 rfl ?_
                      exact J_158 _ (Option.some.inj H).symm
                    · refine z_zne_f (M := M_X3_lieSo) (tgt := 304) dX3_lieSo_297 (by decide) h_150 ?_
                      refine z_zconst (M := M_X3_lieSo) (b := true) dX3_lieSo_300 rfl ?_
                      refine z_goto (M := M_X3_lieSo) (tgt := 305) dX3_lieSo_301 (by decide) ?_
                      exact J_158 _ (Option.some.inj H).symm
                  · refine z_zeq_t (M := M_X3_lieSo) (tgt := 304) dX3_lieSo_290 (by decide) h_147 ?_
                    refine z_zconst (M := M_X3_lieSo) (b := false) dX3_lieSo_304 rfl ?_
                    exact J_158 _ (Option.some.inj H).symm
theorem c_X11_is (hl : l.stackTraces = false) {σ : SG} {what_0 : Int} {slot_0 : Int} {other_0 : Int} {r : Bool ⊕ Nat} {σ' : SG}  (H : fQ_is σ what_0 slot_0 other_0 = some (r, σ')) : en_S l E M_X11_is 9 8 48 [vr 32, vi what_0, vi slot_0, vi other_0] σ (pT (rzT r) σ') := by
  unfold fQ_is at H
  refine z_mk (lv := [some (vr 32), some (vi what_0), some (vi slot_0), some (vi other_0)]) m_X11_is rfl hl (Nat.le_of_ble_eq_true rfl) rfl ?_
  refine z_aload_n (M := M_X11_is) dX11_is_0 rfl ?_
  refine z_iload_n (M := M_X11_is) dX11_is_1 rfl ?_
  refine z_iload_n (M := M_X11_is) dX11_is_2 rfl ?_
  refine z_iload_n (M := M_X11_is) dX11_is_3 rfl ?_
  obtain ⟨z_26, σ_2, hc_1, K_4, K_5⟩ := bt_e H
  rcases z_26 with x_3 | z_26
  · have H := K_4 _ rfl
    refine z_callV (M := M_X11_is) (M' := M_X11_mustBeRelatable) (as := [vi what_0, vi slot_0, vi other_0]) (rest := []) rfl rfl dX11_is_4 m_X11_mustBeRelatable t_1879 t_1881 s_104 (v := none) (c_X11_mustBeRelatable hl  hc_1) rfl rfl ly_32 rfl (Nat.le_of_ble_eq_true rfl) (Nat.le_of_ble_eq_true rfl) (Nat.le_of_ble_eq_true rfl) (Nat.le_of_ble_eq_true rfl) ?_
    refine z_st (st' := []) rfl ?_
    refine z_aload_n (M := M_X11_is) dX11_is_7 rfl ?_
    refine z_getR (M := M_X11_is) (ci := 14) (C := RX11) (T := TX11) (Nf := 19) (ty := tyX11) cl14 dX11_is_8 ly_32 12 (by decide) t_575 rfl ?_
    refine z_aload_n (M := M_X11_is) dX11_is_11 rfl ?_
    refine z_iload_n (M := M_X11_is) dX11_is_12 rfl ?_
    obtain ⟨z_25, σ_7, hc_6, K_9, K_10⟩ := bt_e H
    rcases z_25 with x_8 | z_25
    · have H := K_9 _ rfl
      refine z_callV (M := M_X11_is) (M' := M_X11_slotNumbered) (as := [vi slot_0]) (rest := [vr 222]) rfl rfl dX11_is_13 m_X11_slotNumbered t_744 t_746 s_2 (v := some (vr x_8)) (c_X11_slotNumbered hl  hc_6) rfl rfl ly_32 rfl (Nat.le_of_ble_eq_true rfl) (Nat.le_of_ble_eq_true rfl) (Nat.le_of_ble_eq_true rfl) (Nat.le_of_ble_eq_true rfl) ?_
      refine z_st (st' := [vr x_8, vr 222]) rfl ?_
      obtain ⟨hs_11, H⟩ := ck_e H
      refine z_aload_n (M := M_X11_is) dX11_is_16 rfl ?_
      refine z_iload_n (M := M_X11_is) dX11_is_17 rfl ?_
      obtain ⟨z_24, σ_13, hc_12, K_15, K_16⟩ := bt_e H
      rcases z_24 with x_14 | z_24
      · have H := K_15 _ rfl
        refine z_callV (M := M_X11_is) (M' := M_X11_slotNumbered) (as := [vi other_0]) (rest := [vr x_8, vr 222]) rfl rfl dX11_is_18 m_X11_slotNumbered t_744 t_746 s_2 (v := some (vr x_14)) (c_X11_slotNumbered hl  hc_12) rfl rfl ly_32 rfl (Nat.le_of_ble_eq_true rfl) (Nat.le_of_ble_eq_true rfl) (Nat.le_of_ble_eq_true rfl) (Nat.le_of_ble_eq_true rfl) ?_
        refine z_st (st' := [vr x_14, vr x_8, vr 222]) rfl ?_
        obtain ⟨hs_17, H⟩ := ck_e H
        obtain ⟨⟨x_20, σ_19⟩, hc_18, H⟩ := bd_e H
        refine z_callV (M := M_X11_is) (M' := M_X3_fillMatrix) (as := [vr x_8, vr x_14]) (rest := []) rfl rfl dX11_is_21 m_X3_fillMatrix t_1886 t_1887 t_1888 (c_X3_fillMatrix hl hs_11 hs_17 hc_18) rfl rfl ly_222 rfl (Nat.le_of_ble_eq_true rfl) (Nat.le_of_ble_eq_true rfl) (Nat.le_of_ble_eq_true rfl) (Nat.le_of_ble_eq_true rfl) ?_
        refine z_st (st' := [zv x_20]) rfl ?_
        rcases if_e H with ⟨h_21, H⟩ | ⟨h_21, H⟩
        · refine z_zne_t (M := M_X11_is) (tgt := 35) dX11_is_24 (by decide) h_21 ?_
          refine z_aload_n (M := M_X11_is) dX11_is_35 rfl ?_
          refine z_getR (M := M_X11_is) (ci := 14) (C := RX11) (T := TX11) (Nf := 19) (ty := tyX11) cl14 dX11_is_36 ly_32 12 (by decide) t_575 rfl ?_
          refine z_iload_n (M := M_X11_is) dX11_is_39 rfl ?_
          obtain ⟨x_23, hc_22, H⟩ := bd_e H
          refine z_callV (M := M_X11_is) (M' := M_X3_lieSo) (as := [vi what_0]) (rest := []) rfl rfl dX11_is_40 m_X3_lieSo t_2042 t_2043 t_2044 (c_X3_lieSo hl  hc_22) rfl rfl ly_222 rfl (Nat.le_of_ble_eq_true rfl) (Nat.le_of_ble_eq_true rfl) (Nat.le_of_ble_eq_true rfl) (Nat.le_of_ble_eq_true rfl) ?_
          refine z_st (st' := [zv x_23]) rfl ?_
          cases H
          exact z_zret (M := M_X11_is) dX11_is_43 rfl (Nat.le_of_ble_eq_true rfl) (Nat.le_of_ble_eq_true rfl) ⟨rfl, rfl⟩
        · refine z_zne_f (M := M_X11_is) (tgt := 35) dX11_is_24 (by decide) h_21 ?_
          cases H
          exact z_throw (M := M_X11_is) (names := en_nm) rfl dX11_is_27 dX11_is_30 dX11_is_31 dX11_is_34 (by decide +kernel) en_nm_ok (Or.inl t_1857) (Or.inl t_34) at_X11_UnsupportedOperationException_234 (Nat.le_of_ble_eq_true rfl) (Nat.le_of_ble_eq_true rfl) (Nat.le_of_ble_eq_true rfl) (Nat.le_of_ble_eq_true rfl) ⟨rfl, rfl⟩
      · have H := K_16 _ rfl
        cases H
        exact z_callVX (M := M_X11_is) (M' := M_X11_slotNumbered) (as := [vi other_0]) (rest := [vr x_8, vr 222]) rfl rfl dX11_is_18 m_X11_slotNumbered t_744 t_746 s_2 (e := z_24) (c_X11_slotNumbered hl  hc_12) rfl rfl ly_32 rfl (Nat.le_of_ble_eq_true rfl) (Nat.le_of_ble_eq_true rfl) (Nat.le_of_ble_eq_true rfl) (Nat.le_of_ble_eq_true rfl) ⟨rfl, rfl⟩
    · have H := K_10 _ rfl
      cases H
      exact z_callVX (M := M_X11_is) (M' := M_X11_slotNumbered) (as := [vi slot_0]) (rest := [vr 222]) rfl rfl dX11_is_13 m_X11_slotNumbered t_744 t_746 s_2 (e := z_25) (c_X11_slotNumbered hl  hc_6) rfl rfl ly_32 rfl (Nat.le_of_ble_eq_true rfl) (Nat.le_of_ble_eq_true rfl) (Nat.le_of_ble_eq_true rfl) (Nat.le_of_ble_eq_true rfl) ⟨rfl, rfl⟩
  · have H := K_5 _ rfl
    cases H
    exact z_callVX (M := M_X11_is) (M' := M_X11_mustBeRelatable) (as := [vi what_0, vi slot_0, vi other_0]) (rest := []) rfl rfl dX11_is_4 m_X11_mustBeRelatable t_1879 t_1881 s_104 (e := z_26) (c_X11_mustBeRelatable hl  hc_1) rfl rfl ly_32 rfl (Nat.le_of_ble_eq_true rfl) (Nat.le_of_ble_eq_true rfl) (Nat.le_of_ble_eq_true rfl) (Nat.le_of_ble_eq_true rfl) ⟨rfl, rfl⟩
theorem c_X11_locate (hl : l.stackTraces = false) {σ : SG} {slot_0 : Int} {x_0 : Int} {y_0 : Int} {r : Int ⊕ Nat} {σ' : SG}  (H : fQ_locate σ slot_0 x_0 y_0 = some (r, σ')) : en_S l E M_X11_locate 7 3 18 [vr 32, vi slot_0, vi x_0, vi y_0] σ (pT (riT r) σ') := by
  unfold fQ_locate at H
  refine z_mk (lv := [some (vr 32), some (vi slot_0), some (vi x_0), some (vi y_0), none]) m_X11_locate rfl hl (Nat.le_of_ble_eq_true rfl) rfl ?_
  refine z_aload_n (M := M_X11_locate) dX11_locate_0 rfl ?_
  refine z_iload_n (M := M_X11_locate) dX11_locate_1 rfl ?_
  obtain ⟨z_32, σ_2, hc_1, K_4, K_5⟩ := bt_e H
  rcases z_32 with x_3 | z_32
  · have H := K_4 _ rfl
    refine z_callV (M := M_X11_locate) (M' := M_X11_slotNumbered) (as := [vi slot_0]) (rest := []) rfl rfl dX11_locate_2 m_X11_slotNumbered t_744 t_746 s_2 (v := some (vr x_3)) (c_X11_slotNumbered hl  hc_1) rfl rfl ly_32 rfl (Nat.le_of_ble_eq_true rfl) (Nat.le_of_ble_eq_true rfl) (Nat.le_of_ble_eq_true rfl) (Nat.le_of_ble_eq_true rfl) ?_
    refine z_st (st' := [vr x_3]) rfl ?_
    obtain ⟨hs_6, H⟩ := ck_e H
    refine z_astore (M := M_X11_locate) (lv' := [some (vr 32), some (vi slot_0), some (vi x_0), some (vi y_0), some (vr x_3)]) dX11_locate_5 (Nat.le_of_ble_eq_true rfl) rfl rfl ?_
    refine z_aload (M := M_X11_locate) dX11_locate_7 rfl ?_
    obtain ⟨z_31, σ_8, hc_7, K_10, K_11⟩ := bt_e H
    rcases z_31 with x_9 | z_31
    · have H := K_10 _ rfl
      refine z_callS (M := M_X11_locate) (M' := M_X11_mustBeThere) (as := [vr x_3]) (rest := []) rfl rfl dX11_locate_9 m_X11_mustBeThere t_1047 t_1048 (v := none) (c_X11_mustBeThere hl hs_6 hc_7) rfl rfl (Nat.le_of_ble_eq_true rfl) (Nat.le_of_ble_eq_true rfl) (Nat.le_of_ble_eq_true rfl) (Nat.le_of_ble_eq_true rfl) ?_
      refine z_st (st' := []) rfl ?_
      refine z_iload_n (M := M_X11_locate) dX11_locate_12 rfl ?_
      refine z_ldc (M := M_X11_locate) (n := 500000000) dX11_locate_13 t_1380 (by decide +kernel) ?_
      refine z_callS (M := M_X11_locate) (M' := M_X11_isBeyond) (as := [vi x_0, vi 500000000]) (rest := []) rfl rfl dX11_locate_15 m_X11_isBeyond t_2073 t_1386 (c_X11_isBeyond hl  rfl) rfl rfl (Nat.le_of_ble_eq_true rfl) (Nat.le_of_ble_eq_true rfl) (Nat.le_of_ble_eq_true rfl) (Nat.le_of_ble_eq_true rfl) ?_
      refine z_st (st' := [zv (fQ_isBeyond x_0 500000000)]) rfl ?_
      rcases if_e H with ⟨h_21, H⟩ | ⟨h_21, H⟩
      · refine z_zne_t (M := M_X11_locate) (tgt := 38) dX11_locate_18 (by decide) h_21 ?_
        cases H
        exact z_throw (M := M_X11_locate) (names := en_nm) rfl dX11_locate_38 dX11_locate_41 dX11_locate_42 dX11_locate_45 (by decide +kernel) en_nm_ok (Or.inl t_721) (Or.inl t_19) at_X11_IllegalArgumentException_118 (Nat.le_of_ble_eq_true rfl) (Nat.le_of_ble_eq_true rfl) (Nat.le_of_ble_eq_true rfl) (Nat.le_of_ble_eq_true rfl) ⟨rfl, rfl⟩
      · refine z_zne_f (M := M_X11_locate) (tgt := 38) dX11_locate_18 (by decide) h_21 ?_
        refine z_iload_n (M := M_X11_locate) dX11_locate_21 rfl ?_
        refine z_ldc (M := M_X11_locate) (n := 500000000) dX11_locate_22 t_1380 (by decide +kernel) ?_
        refine z_callS (M := M_X11_locate) (M' := M_X11_isBeyond) (as := [vi y_0, vi 500000000]) (rest := []) rfl rfl dX11_locate_24 m_X11_isBeyond t_2073 t_1386 (c_X11_isBeyond hl  rfl) rfl rfl (Nat.le_of_ble_eq_true rfl) (Nat.le_of_ble_eq_true rfl) (Nat.le_of_ble_eq_true rfl) (Nat.le_of_ble_eq_true rfl) ?_
        refine z_st (st' := [zv (fQ_isBeyond y_0 500000000)]) rfl ?_
        rcases if_e H with ⟨h_22, H⟩ | ⟨h_22, H⟩
        · refine z_zne_t (M := M_X11_locate) (tgt := 38) dX11_locate_27 (by decide) h_22 ?_
          cases H
          exact z_throw (M := M_X11_locate) (names := en_nm) rfl dX11_locate_38 dX11_locate_41 dX11_locate_42 dX11_locate_45 (by decide +kernel) en_nm_ok (Or.inl t_721) (Or.inl t_19) at_X11_IllegalArgumentException_118 (Nat.le_of_ble_eq_true rfl) (Nat.le_of_ble_eq_true rfl) (Nat.le_of_ble_eq_true rfl) (Nat.le_of_ble_eq_true rfl) ⟨rfl, rfl⟩
        · refine z_zne_f (M := M_X11_locate) (tgt := 38) dX11_locate_27 (by decide) h_22 ?_
          refine z_aload (M := M_X11_locate) dX11_locate_30 rfl ?_
          obtain ⟨x_24, hc_23, H⟩ := bd_e H
          refine z_callS (M := M_X11_locate) (M' := M_X11_canBeRelated) (as := [vr x_3]) (rest := []) rfl rfl dX11_locate_32 m_X11_canBeRelated t_1883 t_1884 (c_X11_canBeRelated hl hs_6 hc_23) rfl rfl (Nat.le_of_ble_eq_true rfl) (Nat.le_of_ble_eq_true rfl) (Nat.le_of_ble_eq_true rfl) (Nat.le_of_ble_eq_true rfl) ?_
          refine z_st (st' := [zv x_24]) rfl ?_
          rcases if_e H with ⟨h_25, H⟩ | ⟨h_25, H⟩
          · refine z_zne_t (M := M_X11_locate) (tgt := 46) dX11_locate_35 (by decide) h_25 ?_
            refine z_aload (M := M_X11_locate) dX11_locate_46 rfl ?_
            obtain ⟨x_27, hc_26, H⟩ := bd_e H
            refine z_callS (M := M_X11_locate) (M' := M_X3_hasTooManyParts) (as := [vr x_3]) (rest := []) rfl rfl dX11_locate_48 m_X3_hasTooManyParts t_2074 t_1891 (c_X3_hasTooManyParts hl hs_6 hc_26) rfl rfl (Nat.le_of_ble_eq_true rfl) (Nat.le_of_ble_eq_true rfl) (Nat.le_of_ble_eq_true rfl) (Nat.le_of_ble_eq_true rfl) ?_
            refine z_st (st' := [zv x_27]) rfl ?_
            rcases if_e H with ⟨h_28, H⟩ | ⟨h_28, H⟩
            · refine z_zeq_f (M := M_X11_locate) (tgt := 62) dX11_locate_51 (by decide) h_28 ?_
              cases H
              exact z_throw (M := M_X11_locate) (names := en_nm) rfl dX11_locate_54 dX11_locate_57 dX11_locate_58 dX11_locate_61 (by decide +kernel) en_nm_ok (Or.inl t_1857) (Or.inl t_34) at_X11_UnsupportedOperationException_234 (Nat.le_of_ble_eq_true rfl) (Nat.le_of_ble_eq_true rfl) (Nat.le_of_ble_eq_true rfl) (Nat.le_of_ble_eq_true rfl) ⟨rfl, rfl⟩
            · refine z_zeq_t (M := M_X11_locate) (tgt := 62) dX11_locate_51 (by decide) h_28 ?_
              refine z_aload (M := M_X11_locate) dX11_locate_62 rfl ?_
              refine z_iload_n (M := M_X11_locate) dX11_locate_64 rfl ?_
              refine z_iload_n (M := M_X11_locate) dX11_locate_65 rfl ?_
              obtain ⟨x_30, hc_29, H⟩ := bd_e H
              refine z_callS (M := M_X11_locate) (M' := M_X3_whereIs) (as := [vr x_3, vi x_0, vi y_0]) (rest := []) rfl rfl dX11_locate_66 m_X3_whereIs t_2075 t_2016 (c_X3_whereIs hl hs_6 hc_29) rfl rfl (Nat.le_of_ble_eq_true rfl) (Nat.le_of_ble_eq_true rfl) (Nat.le_of_ble_eq_true rfl) (Nat.le_of_ble_eq_true rfl) ?_
              refine z_st (st' := [vi x_30]) rfl ?_
              cases H
              exact z_iret (M := M_X11_locate) dX11_locate_69 rfl (Nat.le_of_ble_eq_true rfl) (Nat.le_of_ble_eq_true rfl) ⟨rfl, rfl⟩
          · refine z_zne_f (M := M_X11_locate) (tgt := 46) dX11_locate_35 (by decide) h_25 ?_
            cases H
            exact z_throw (M := M_X11_locate) (names := en_nm) rfl dX11_locate_38 dX11_locate_41 dX11_locate_42 dX11_locate_45 (by decide +kernel) en_nm_ok (Or.inl t_721) (Or.inl t_19) at_X11_IllegalArgumentException_118 (Nat.le_of_ble_eq_true rfl) (Nat.le_of_ble_eq_true rfl) (Nat.le_of_ble_eq_true rfl) (Nat.le_of_ble_eq_true rfl) ⟨rfl, rfl⟩
    · have H := K_11 _ rfl
      cases H
      exact z_callSX (M := M_X11_locate) (M' := M_X11_mustBeThere) (as := [vr x_3]) (rest := []) rfl rfl dX11_locate_9 m_X11_mustBeThere t_1047 t_1048 (e := z_31) (c_X11_mustBeThere hl hs_6 hc_7) rfl rfl (Nat.le_of_ble_eq_true rfl) (Nat.le_of_ble_eq_true rfl) (Nat.le_of_ble_eq_true rfl) (Nat.le_of_ble_eq_true rfl) ⟨rfl, rfl⟩
  · have H := K_5 _ rfl
    cases H
    exact z_callVX (M := M_X11_locate) (M' := M_X11_slotNumbered) (as := [vi slot_0]) (rest := []) rfl rfl dX11_locate_2 m_X11_slotNumbered t_744 t_746 s_2 (e := z_32) (c_X11_slotNumbered hl  hc_1) rfl rfl ly_32 rfl (Nat.le_of_ble_eq_true rfl) (Nat.le_of_ble_eq_true rfl) (Nat.le_of_ble_eq_true rfl) (Nat.le_of_ble_eq_true rfl) ⟨rfl, rfl⟩
theorem c_X2_placeAt (hl : l.stackTraces = false) {σ : SG} {key_0 : Int} {r : Int}  (H : fP_placeAt σ key_0 = some r) : en_S l E M_X2_placeAt 1 0 0 [vr 238, vl key_0] σ (pS (some (vi r)) σ) := by
  unfold fP_placeAt at H
  refine z_mk (lv := [some (vr 238), some (vl key_0), none, none, none, none]) m_X2_placeAt rfl hl (Nat.le_of_ble_eq_true rfl) rfl ?_
  refine z_iconst (M := M_X2_placeAt) dX2_placeAt_0 ?_
  refine z_istore_n (M := M_X2_placeAt) (lv' := [some (vr 238), some (vl key_0), none, some (vi 0), none, none]) dX2_placeAt_1 (Nat.le_of_ble_eq_true rfl) rfl rfl ?_
  refine z_aload_n (M := M_X2_placeAt) dX2_placeAt_2 rfl ?_
  refine z_getI (M := M_X2_placeAt) (ci := 5) (C := RX2) (T := TX2) (Nf := 17) (ty := tyX2) cl5 dX2_placeAt_3 ly_238 3 (by decide) t_488 rfl rfl ?_
  refine z_iconst (M := M_X2_placeAt) dX2_placeAt_6 ?_
  refine z_isub (M := M_X2_placeAt) dX2_placeAt_7 ?_
  refine z_istore (M := M_X2_placeAt) (lv' := [some (vr 238), some (vl key_0), none, some (vi 0), some (vi ((σ kP_places 0) - 1)), none]) dX2_placeAt_8 (Nat.le_of_ble_eq_true rfl) rfl rfl ?_
  obtain ⟨rl_6, hw_3, hk_4⟩ := bd_e H
  have J_27 : ∀ low_25 high_26, rl_6 = (low_25, high_26) → YY l E M_X2_placeAt 1 0 0 (pS (some (vi r)) σ) 53 [some (vr 238), some (vl key_0), none, some (vi low_25), some (vi high_26), none] [] σ 0 0 := by
    intro low_25 high_26 e
    have H := hk_4
    rw [e] at H
    refine z_iload_n (M := M_X2_placeAt) dX2_placeAt_53 rfl ?_
    cases H
    exact z_iret (M := M_X2_placeAt) dX2_placeAt_54 rfl (Nat.le_of_ble_eq_true rfl) (Nat.le_of_ble_eq_true rfl) ⟨rfl, rfl⟩
  refine whl_go hw_3 (fun (low_1, high_2) => YY l E M_X2_placeAt 1 0 0 (pS (some (vi r)) σ) 10 [some (vr 238), some (vl key_0), none, some (vi low_1), some (vi high_2), none] [] σ 0 0) ?_
  rintro ⟨low_1, high_2⟩ o_7 H K_8 K_9
  refine z_iload_n (M := M_X2_placeAt) dX2_placeAt_10 rfl ?_
  refine z_iload (M := M_X2_placeAt) dX2_placeAt_11 rfl ?_
  rcases if_e H with ⟨h_10, H⟩ | ⟨h_10, H⟩
  · refine z_icmp_ge_f (M := M_X2_placeAt) (tgt := 53) dX2_placeAt_13 (by decide) rfl rfl h_10 ?_
    refine z_iload_n (M := M_X2_placeAt) dX2_placeAt_16 rfl ?_
    refine z_iload (M := M_X2_placeAt) dX2_placeAt_17 rfl ?_
    refine z_iload_n (M := M_X2_placeAt) dX2_placeAt_19 rfl ?_
    refine z_isub (M := M_X2_placeAt) dX2_placeAt_20 ?_
    refine z_iconst (M := M_X2_placeAt) dX2_placeAt_21 ?_
    refine z_idiv (M := M_X2_placeAt) dX2_placeAt_22 (by decide +kernel) ?_
    refine z_iadd (M := M_X2_placeAt) dX2_placeAt_23 ?_
    refine z_istore (M := M_X2_placeAt) (lv' := [some (vr 238), some (vl key_0), none, some (vi low_1), some (vi high_2), some (vi (low_1 + (q_idv (high_2 - low_1) 2)))]) dX2_placeAt_24 (Nat.le_of_ble_eq_true rfl) rfl rfl ?_
    obtain ⟨v_14, he_11, hk_12⟩ := bd_e H
    have J_23 : ∀ low_20 high_21, v_14 = (low_20, high_21) → YY l E M_X2_placeAt 1 0 0 (pS (some (vi r)) σ) 50 [some (vr 238), some (vl key_0), none, some (vi low_20), some (vi high_21), some (vi (low_1 + (q_idv (high_2 - low_1) 2)))] [] σ 0 0 := by
      intro low_20 high_21 e
      have H := hk_12
      rw [e] at H
      refine z_goto (M := M_X2_placeAt) (tgt := 10) dX2_placeAt_50 (by decide) ?_
      refine z_le (lv' := [some (vr 238), some (vl key_0), none, some (vi low_20), some (vi high_21), none]) ⟨Or.inr rfl, Or.inr rfl, Or.inl rfl, Or.inr rfl, Or.inr rfl, Or.inl rfl, trivial⟩ ?_
      exact K_8 _ (Option.some.inj H).symm
    have H := he_11
    refine z_aload_n (M := M_X2_placeAt) dX2_placeAt_26 rfl ?_
    refine z_getR (M := M_X2_placeAt) (ci := 5) (C := RX2) (T := TX2) (Nf := 17) (ty := tyX2) cl5 dX2_placeAt_27 ly_238 0 (by decide) t_485 rfl ?_
    refine z_iload (M := M_X2_placeAt) dX2_placeAt_30 rfl ?_
    obtain ⟨x_15, x_15_e, hi_16, H⟩ := rd_e H
    refine z_lald (M := M_X2_placeAt) dX2_placeAt_32 ly_239 rfl rfl rfl hi_16 x_15_e ?_
    refine z_lload_n (M := M_X2_placeAt) dX2_placeAt_33 rfl ?_
    refine z_lcmp (M := M_X2_placeAt) dX2_placeAt_34 ?_
    rcases if_e H with ⟨h_17, H⟩ | ⟨h_17, H⟩
    · refine z_lif_ge_f (M := M_X2_placeAt) (tgt := 46) dX2_placeAt_35 (by decide) rfl rfl h_17 ?_
      refine z_iload (M := M_X2_placeAt) dX2_placeAt_38 rfl ?_
      refine z_iconst (M := M_X2_placeAt) dX2_placeAt_40 ?_
      refine z_iadd (M := M_X2_placeAt) dX2_placeAt_41 ?_
      refine z_istore_n (M := M_X2_placeAt) (lv' := [some (vr 238), some (vl key_0), none, some (vi ((low_1 + (q_idv (high_2 - low_1) 2)) + 1)), some (vi high_2), some (vi (low_1 + (q_idv (high_2 - low_1) 2)))]) dX2_placeAt_42 (Nat.le_of_ble_eq_true rfl) rfl rfl ?_
      refine z_goto (M := M_X2_placeAt) (tgt := 50) dX2_placeAt_43 (by decide) ?_
      exact J_23 _ _ (Option.some.inj H).symm
    · refine z_lif_ge_t (M := M_X2_placeAt) (tgt := 46) dX2_placeAt_35 (by decide) rfl rfl (Int.not_lt.mp h_17) ?_
      refine z_iload (M := M_X2_placeAt) dX2_placeAt_46 rfl ?_
      refine z_istore (M := M_X2_placeAt) (lv' := [some (vr 238), some (vl key_0), none, some (vi low_1), some (vi (low_1 + (q_idv (high_2 - low_1) 2))), some (vi (low_1 + (q_idv (high_2 - low_1) 2)))]) dX2_placeAt_48 (Nat.le_of_ble_eq_true rfl) rfl rfl ?_
      exact J_23 _ _ (Option.some.inj H).symm
  · refine z_icmp_ge_t (M := M_X2_placeAt) (tgt := 53) dX2_placeAt_13 (by decide) rfl rfl (Int.not_lt.mp h_10) ?_
    exact J_27 _ _ (K_9 _ (Option.some.inj H).symm).symm
theorem c_X2_numberPlaces (hl : l.stackTraces = false) {σ : SG} {shape_0 : Nat} {σ' : SG} (h_shape : isS shape_0) (H : fP_numberPlaces σ shape_0 = some σ') : en_S l E M_X2_numberPlaces 3 0 0 [vr 238, vr shape_0] σ (pS (none) σ') := by
  unfold fP_numberPlaces at H
  refine z_mk (lv := [some (vr 238), some (vr shape_0), none, none, none]) m_X2_numberPlaces rfl hl (Nat.le_of_ble_eq_true rfl) rfl ?_
  refine z_aload_n (M := M_X2_numberPlaces) dX2_numberPlaces_0 rfl ?_
  refine z_getR (M := M_X2_numberPlaces) (ci := 5) (C := RX2) (T := TX2) (Nf := 17) (ty := tyX2) cl5 dX2_numberPlaces_1 ly_238 4 (by decide) t_489 rfl ?_
  refine z_iconst (M := M_X2_numberPlaces) dX2_numberPlaces_4 ?_
  refine z_aload_n (M := M_X2_numberPlaces) dX2_numberPlaces_5 rfl ?_
  refine z_getI (M := M_X2_numberPlaces) (ci := 5) (C := RX2) (T := TX2) (Nf := 17) (ty := tyX2) cl5 dX2_numberPlaces_6 ly_238 3 (by decide) t_488 rfl rfl ?_
  refine z_iconst (M := M_X2_numberPlaces) dX2_numberPlaces_9 ?_
  obtain ⟨σ_2, hc_1, H⟩ := bd_e H
  refine z_callS (M := M_X2_numberPlaces) (M' := M_J7_fill_fda19) (as := [vr 242, vi 0, vi (σ kP_places 0), vi (-1)]) (rest := []) rfl rfl dX2_numberPlaces_10 m_J7_fill_fda19 t_2096 t_1522 (c_J7_fill_fda19 hl ly_242 hc_1) rfl rfl (Nat.le_of_ble_eq_true rfl) (Nat.le_of_ble_eq_true rfl) (Nat.le_of_ble_eq_true rfl) (Nat.le_of_ble_eq_true rfl) ?_
  refine z_st (st' := []) rfl ?_
  refine z_iconst (M := M_X2_numberPlaces) dX2_numberPlaces_13 ?_
  refine z_istore_n (M := M_X2_numberPlaces) (lv' := [some (vr 238), some (vr shape_0), some (vi 0), none, none]) dX2_numberPlaces_14 (Nat.le_of_ble_eq_true rfl) rfl rfl ?_
  refine z_iconst (M := M_X2_numberPlaces) dX2_numberPlaces_15 ?_
  refine z_istore_n (M := M_X2_numberPlaces) (lv' := [some (vr 238), some (vr shape_0), some (vi 0), some (vi 0), none]) dX2_numberPlaces_16 (Nat.le_of_ble_eq_true rfl) rfl rfl ?_
  obtain ⟨rl_9, hw_6, hk_7⟩ := bd_e H
  have J_41 : ∀ number_38 i_39 σ_40, rl_9 = (number_38, i_39, σ_40) → YY l E M_X2_numberPlaces 3 0 0 (pS (none) σ') 82 [some (vr 238), some (vr shape_0), some (vi number_38), some (vi i_39), none] [] σ_40 0 0 := by
    intro number_38 i_39 σ_40 e
    have H := hk_7
    rw [e] at H
    cases H
    exact z_vret (M := M_X2_numberPlaces) dX2_numberPlaces_82 rfl (Nat.le_of_ble_eq_true rfl) (Nat.le_of_ble_eq_true rfl) ⟨rfl, rfl⟩
  refine whl_go hw_6 (fun (number_3, i_4, σ_5) => YY l E M_X2_numberPlaces 3 0 0 (pS (none) σ') 17 [some (vr 238), some (vr shape_0), some (vi number_3), some (vi i_4), none] [] σ_5 0 0) ?_
  rintro ⟨number_3, i_4, σ_5⟩ o_10 H K_11 K_12
  refine z_iload_n (M := M_X2_numberPlaces) dX2_numberPlaces_17 rfl ?_
  refine z_aload_n (M := M_X2_numberPlaces) dX2_numberPlaces_18 rfl ?_
  refine z_getI (M := M_X2_numberPlaces) (ci := 9) (C := RX6) (T := TX6) (Nf := 5) (ty := tyX6) cl9 dX2_numberPlaces_19 (ly_S h_shape) 4 (by decide) t_82 rfl rfl ?_
  rcases if_e H with ⟨h_13, H⟩ | ⟨h_13, H⟩
  · refine z_icmp_ge_f (M := M_X2_numberPlaces) (tgt := 82) dX2_numberPlaces_22 (by decide) rfl rfl h_13 ?_
    refine z_aload_n (M := M_X2_numberPlaces) dX2_numberPlaces_25 rfl ?_
    refine z_aload_n (M := M_X2_numberPlaces) dX2_numberPlaces_26 rfl ?_
    refine z_getR (M := M_X2_numberPlaces) (ci := 9) (C := RX6) (T := TX6) (Nf := 5) (ty := tyX6) cl9 dX2_numberPlaces_27 (ly_S h_shape) 1 (by decide) t_59 rfl ?_
    refine z_iload_n (M := M_X2_numberPlaces) dX2_numberPlaces_30 rfl ?_
    obtain ⟨x_14, x_14_e, hi_15, H⟩ := rd_e H
    refine z_iald (M := M_X2_numberPlaces) dX2_numberPlaces_31 (ly_Sx h_shape) rfl rfl rfl hi_15 x_14_e ?_
    refine z_aload_n (M := M_X2_numberPlaces) dX2_numberPlaces_32 rfl ?_
    refine z_getR (M := M_X2_numberPlaces) (ci := 9) (C := RX6) (T := TX6) (Nf := 5) (ty := tyX6) cl9 dX2_numberPlaces_33 (ly_S h_shape) 2 (by decide) t_66 rfl ?_
    refine z_iload_n (M := M_X2_numberPlaces) dX2_numberPlaces_36 rfl ?_
    obtain ⟨x_16, x_16_e, hi_17, H⟩ := rd_e H
    refine z_iald (M := M_X2_numberPlaces) dX2_numberPlaces_37 (ly_Sy h_shape) rfl rfl rfl hi_17 x_16_e ?_
    refine z_callSN (M := M_X2_numberPlaces) (M' := M_X11_keyOf) (as := [vi x_14, vi x_16]) (rest := [vr 238]) rfl rfl dX2_numberPlaces_38 m_X11_keyOf n_2087 t_1426 (c_X11_keyOf hl  rfl) rfl rfl (Nat.le_of_ble_eq_true rfl) (Nat.le_of_ble_eq_true rfl) (Nat.le_of_ble_eq_true rfl) (Nat.le_of_ble_eq_true rfl) ?_
    refine z_st (st' := [vl (fQ_keyOf x_14 x_16), vr 238]) rfl ?_
    obtain ⟨x_19, hc_18, H⟩ := bd_e H
    refine z_callV (M := M_X2_numberPlaces) (M' := M_X2_placeAt) (as := [vl (fQ_keyOf x_14 x_16)]) (rest := []) rfl rfl dX2_numberPlaces_41 m_X2_placeAt t_2097 t_2099 s_129 (c_X2_placeAt hl  hc_18) rfl rfl ly_238 rfl (Nat.le_of_ble_eq_true rfl) (Nat.le_of_ble_eq_true rfl) (Nat.le_of_ble_eq_true rfl) (Nat.le_of_ble_eq_true rfl) ?_
    refine z_st (st' := [vi x_19]) rfl ?_
    refine z_istore (M := M_X2_numberPlaces) (lv' := [some (vr 238), some (vr shape_0), some (vi number_3), some (vi i_4), some (vi x_19)]) dX2_numberPlaces_44 (Nat.le_of_ble_eq_true rfl) rfl rfl ?_
    obtain ⟨v_23, he_20, hk_21⟩ := bd_e H
    have J_36 : ∀ number_33 σ_34, v_23 = (number_33, σ_34) → YY l E M_X2_numberPlaces 3 0 0 (pS (none) σ') 76 [some (vr 238), some (vr shape_0), some (vi number_33), some (vi i_4), some (vi x_19)] [] σ_34 0 0 := by
      intro number_33 σ_34 e
      have H := hk_21
      rw [e] at H
      refine z_iinc (M := M_X2_numberPlaces) (lv' := [some (vr 238), some (vr shape_0), some (vi number_33), some (vi (i_4 + 1)), some (vi x_19)]) dX2_numberPlaces_76 rfl (Nat.le_of_ble_eq_true rfl) rfl rfl ?_
      refine z_goto (M := M_X2_numberPlaces) (tgt := 17) dX2_numberPlaces_79 (by decide) ?_
      refine z_le (lv' := [some (vr 238), some (vr shape_0), some (vi number_33), some (vi (i_4 + 1)), none]) ⟨Or.inr rfl, Or.inr rfl, Or.inr rfl, Or.inr rfl, Or.inl rfl, trivial⟩ ?_
      exact K_11 _ (Option.some.inj H).symm
    have H := he_20
    refine z_aload_n (M := M_X2_numberPlaces) dX2_numberPlaces_46 rfl ?_
    refine z_getR (M := M_X2_numberPlaces) (ci := 5) (C := RX2) (T := TX2) (Nf := 17) (ty := tyX2) cl5 dX2_numberPlaces_47 ly_238 4 (by decide) t_489 rfl ?_
    refine z_iload (M := M_X2_numberPlaces) dX2_numberPlaces_50 rfl ?_
    obtain ⟨x_24, x_24_e, hi_25, H⟩ := rd_e H
    refine z_iald (M := M_X2_numberPlaces) dX2_numberPlaces_52 ly_242 rfl rfl rfl hi_25 x_24_e ?_
    refine z_iconst (M := M_X2_numberPlaces) dX2_numberPlaces_53 ?_
    rcases if_e H with ⟨h_26, H⟩ | ⟨h_26, H⟩
    · refine z_icmp_ne_f (M := M_X2_numberPlaces) (tgt := 76) dX2_numberPlaces_54 (by decide) rfl (by decide +kernel) h_26 ?_
      refine z_aload_n (M := M_X2_numberPlaces) dX2_numberPlaces_57 rfl ?_
      refine z_getR (M := M_X2_numberPlaces) (ci := 5) (C := RX2) (T := TX2) (Nf := 17) (ty := tyX2) cl5 dX2_numberPlaces_58 ly_238 4 (by decide) t_489 rfl ?_
      refine z_iload (M := M_X2_numberPlaces) dX2_numberPlaces_61 rfl ?_
      refine z_iload_n (M := M_X2_numberPlaces) dX2_numberPlaces_63 rfl ?_
      obtain ⟨σ_27, σ_27_e, hi_28, H⟩ := wa_e H
      refine z_iast (M := M_X2_numberPlaces) dX2_numberPlaces_64 ly_242 rfl rfl rfl hi_28 σ_27_e ?_
      refine z_aload_n (M := M_X2_numberPlaces) dX2_numberPlaces_65 rfl ?_
      refine z_getR (M := M_X2_numberPlaces) (ci := 5) (C := RX2) (T := TX2) (Nf := 17) (ty := tyX2) cl5 dX2_numberPlaces_66 ly_238 5 (by decide) t_490 rfl ?_
      refine z_iload_n (M := M_X2_numberPlaces) dX2_numberPlaces_69 rfl ?_
      refine z_iload (M := M_X2_numberPlaces) dX2_numberPlaces_70 rfl ?_
      obtain ⟨σ_29, σ_29_e, hi_30, H⟩ := wa_e H
      refine z_iast (M := M_X2_numberPlaces) dX2_numberPlaces_72 ly_243 rfl rfl rfl hi_30 σ_29_e ?_
      refine z_iinc (M := M_X2_numberPlaces) (lv' := [some (vr 238), some (vr shape_0), some (vi (number_3 + 1)), some (vi i_4), some (vi x_19)]) dX2_numberPlaces_73 rfl (Nat.le_of_ble_eq_true rfl) rfl rfl ?_
      exact J_36 _ _ (Option.some.inj H).symm
    · refine z_icmp_ne_t (M := M_X2_numberPlaces) (tgt := 76) dX2_numberPlaces_54 (by decide) rfl (by decide +kernel) h_26 ?_
      exact J_36 _ _ (Option.some.inj H).symm
  · refine z_icmp_ge_t (M := M_X2_numberPlaces) (tgt := 82) dX2_numberPlaces_22 (by decide) rfl rfl (Int.not_lt.mp h_13) ?_
    exact J_41 _ _ _ (K_12 _ (Option.some.inj H).symm).symm
theorem c_X2_gather (hl : l.stackTraces = false) {σ : SG} {shape_0 : Nat} {r : Bool} {σ' : SG} (h_shape : isS shape_0) (H : fP_gather σ shape_0 = some (r, σ')) : en_S l E M_X2_gather 4 0 0 [vr 238, vr shape_0] σ (pS (some (zv r)) σ') := by
  unfold fP_gather at H
  refine z_mk (lv := [some (vr 238), some (vr shape_0), none, none]) m_X2_gather rfl hl (Nat.le_of_ble_eq_true rfl) rfl ?_
  refine z_iconst (M := M_X2_gather) dX2_gather_0 ?_
  refine z_istore_n (M := M_X2_gather) (lv' := [some (vr 238), some (vr shape_0), some (vi 0), none]) dX2_gather_1 (Nat.le_of_ble_eq_true rfl) rfl rfl ?_
  obtain ⟨rl_6, hw_3, hk_4⟩ := bd_e H
  have J_53 : ∀ i_19 σ_20, rl_6 = (i_19, σ_20) → YY l E M_X2_gather 4 0 0 (pS (some (zv r)) σ') 37 [some (vr 238), some (vr shape_0), some (vi i_19), none] [] σ_20 0 0 := by
    intro i_19 σ_20 e
    have H := hk_4
    rw [e] at H
    refine z_aload_n (M := M_X2_gather) dX2_gather_37 rfl ?_
    refine z_getR (M := M_X2_gather) (ci := 5) (C := RX2) (T := TX2) (Nf := 17) (ty := tyX2) cl5 dX2_gather_38 ly_238 0 (by decide) t_485 rfl ?_
    refine z_aload_n (M := M_X2_gather) dX2_gather_41 rfl ?_
    refine z_getI (M := M_X2_gather) (ci := 9) (C := RX6) (T := TX6) (Nf := 5) (ty := tyX6) cl9 dX2_gather_42 (ly_S h_shape) 4 (by decide) t_82 rfl rfl ?_
    obtain ⟨σ_22, hc_21, H⟩ := bd_e H
    refine z_callSN (M := M_X2_gather) (M' := M_X11_sortRow) (as := [vr 239, vi (σ_20 (kA_points shape_0) 0)]) (rest := []) rfl rfl dX2_gather_45 m_X11_sortRow n_2088 t_1417 (c_X11_sortRow hl ly_239 hc_21) rfl rfl (Nat.le_of_ble_eq_true rfl) (Nat.le_of_ble_eq_true rfl) (Nat.le_of_ble_eq_true rfl) (Nat.le_of_ble_eq_true rfl) ?_
    refine z_st (st' := []) rfl ?_
    refine z_aload_n (M := M_X2_gather) dX2_gather_48 rfl ?_
    refine z_getR (M := M_X2_gather) (ci := 5) (C := RX2) (T := TX2) (Nf := 17) (ty := tyX2) cl5 dX2_gather_49 ly_238 0 (by decide) t_485 rfl ?_
    refine z_aload_n (M := M_X2_gather) dX2_gather_52 rfl ?_
    refine z_getI (M := M_X2_gather) (ci := 9) (C := RX6) (T := TX6) (Nf := 5) (ty := tyX6) cl9 dX2_gather_53 (ly_S h_shape) 4 (by decide) t_82 rfl rfl ?_
    obtain ⟨⟨x_25, σ_24⟩, hc_23, H⟩ := bd_e H
    refine z_callSN (M := M_X2_gather) (M' := M_X11_leaveEachOnce) (as := [vr 239, vi (σ_22 (kA_points shape_0) 0)]) (rest := []) rfl rfl dX2_gather_56 m_X11_leaveEachOnce n_2089 t_1423 (c_X11_leaveEachOnce hl ly_239 hc_23) rfl rfl (Nat.le_of_ble_eq_true rfl) (Nat.le_of_ble_eq_true rfl) (Nat.le_of_ble_eq_true rfl) (Nat.le_of_ble_eq_true rfl) ?_
    refine z_st (st' := [vi x_25]) rfl ?_
    refine z_istore_n (M := M_X2_gather) (lv' := [some (vr 238), some (vr shape_0), some (vi x_25), none]) dX2_gather_59 (Nat.le_of_ble_eq_true rfl) rfl rfl ?_
    refine z_iload_n (M := M_X2_gather) dX2_gather_60 rfl ?_
    refine z_sipush (M := M_X2_gather) dX2_gather_61 (by decide +kernel) ?_
    rcases if_e H with ⟨h_26, H⟩ | ⟨h_26, H⟩
    · refine z_icmp_le_f (M := M_X2_gather) (tgt := 69) dX2_gather_64 (by decide) rfl (by decide +kernel) h_26 ?_
      refine z_zconst (M := M_X2_gather) (b := false) dX2_gather_67 rfl ?_
      cases H
      exact z_zret (M := M_X2_gather) dX2_gather_68 rfl (Nat.le_of_ble_eq_true rfl) (Nat.le_of_ble_eq_true rfl) ⟨rfl, rfl⟩
    · refine z_icmp_le_t (M := M_X2_gather) (tgt := 69) dX2_gather_64 (by decide) rfl (by decide +kernel) (Int.not_lt.mp h_26) ?_
      refine z_aload_n (M := M_X2_gather) dX2_gather_69 rfl ?_
      refine z_iload_n (M := M_X2_gather) dX2_gather_70 rfl ?_
      obtain ⟨σ_27, σ_27_e, H⟩ := wf_e H
      refine z_putI (M := M_X2_gather) (ci := 5) (C := RX2) (T := TX2) (Nf := 17) (ty := tyX2) cl5 dX2_gather_71 ly_238 3 (by decide) t_488 rfl rfl rfl rfl σ_27_e ?_
      refine z_iconst (M := M_X2_gather) dX2_gather_74 ?_
      refine z_istore_n (M := M_X2_gather) (lv' := [some (vr 238), some (vr shape_0), some (vi x_25), some (vi 0)]) dX2_gather_75 (Nat.le_of_ble_eq_true rfl) rfl rfl ?_
      obtain ⟨rl_33, hw_30, hk_31⟩ := bd_e H
      have J_52 : ∀ i_48 σ_49, rl_33 = (i_48, σ_49) → YY l E M_X2_gather 4 0 0 (pS (some (zv r)) σ') 120 [some (vr 238), some (vr shape_0), some (vi x_25), some (vi i_48)] [] σ_49 0 0 := by
        intro i_48 σ_49 e
        have H := hk_31
        rw [e] at H
        refine z_aload_n (M := M_X2_gather) dX2_gather_120 rfl ?_
        refine z_aload_n (M := M_X2_gather) dX2_gather_121 rfl ?_
        obtain ⟨σ_51, hc_50, H⟩ := bd_e H
        refine z_callV (M := M_X2_gather) (M' := M_X2_numberPlaces) (as := [vr shape_0]) (rest := []) rfl rfl dX2_gather_122 m_X2_numberPlaces t_2092 t_2094 s_128 (c_X2_numberPlaces hl h_shape hc_50) rfl rfl ly_238 rfl (Nat.le_of_ble_eq_true rfl) (Nat.le_of_ble_eq_true rfl) (Nat.le_of_ble_eq_true rfl) (Nat.le_of_ble_eq_true rfl) ?_
        refine z_st (st' := []) rfl ?_
        refine z_zconst (M := M_X2_gather) (b := true) dX2_gather_125 rfl ?_
        cases H
        exact z_zret (M := M_X2_gather) dX2_gather_126 rfl (Nat.le_of_ble_eq_true rfl) (Nat.le_of_ble_eq_true rfl) ⟨rfl, rfl⟩
      refine whl_go hw_30 (fun (i_28, σ_29) => YY l E M_X2_gather 4 0 0 (pS (some (zv r)) σ') 76 [some (vr 238), some (vr shape_0), some (vi x_25), some (vi i_28)] [] σ_29 0 0) ?_
      rintro ⟨i_28, σ_29⟩ o_34 H K_35 K_36
      refine z_iload_n (M := M_X2_gather) dX2_gather_76 rfl ?_
      refine z_aload_n (M := M_X2_gather) dX2_gather_77 rfl ?_
      refine z_getI (M := M_X2_gather) (ci := 5) (C := RX2) (T := TX2) (Nf := 17) (ty := tyX2) cl5 dX2_gather_78 ly_238 3 (by decide) t_488 rfl rfl ?_
      rcases if_e H with ⟨h_37, H⟩ | ⟨h_37, H⟩
      · refine z_icmp_ge_f (M := M_X2_gather) (tgt := 120) dX2_gather_81 (by decide) rfl rfl h_37 ?_
        refine z_aload_n (M := M_X2_gather) dX2_gather_84 rfl ?_
        refine z_getR (M := M_X2_gather) (ci := 5) (C := RX2) (T := TX2) (Nf := 17) (ty := tyX2) cl5 dX2_gather_85 ly_238 1 (by decide) t_486 rfl ?_
        refine z_iload_n (M := M_X2_gather) dX2_gather_88 rfl ?_
        refine z_aload_n (M := M_X2_gather) dX2_gather_89 rfl ?_
        refine z_getR (M := M_X2_gather) (ci := 5) (C := RX2) (T := TX2) (Nf := 17) (ty := tyX2) cl5 dX2_gather_90 ly_238 0 (by decide) t_485 rfl ?_
        refine z_iload_n (M := M_X2_gather) dX2_gather_93 rfl ?_
        obtain ⟨x_38, x_38_e, hi_39, H⟩ := rd_e H
        refine z_lald (M := M_X2_gather) dX2_gather_94 ly_239 rfl rfl rfl hi_39 x_38_e ?_
        refine z_callSN (M := M_X2_gather) (M' := M_X11_keyX) (as := [vl x_38]) (rest := [vi i_28, vr 240]) rfl rfl dX2_gather_95 m_X11_keyX n_2090 t_1454 (c_X11_keyX hl  rfl) rfl rfl (Nat.le_of_ble_eq_true rfl) (Nat.le_of_ble_eq_true rfl) (Nat.le_of_ble_eq_true rfl) (Nat.le_of_ble_eq_true rfl) ?_
        refine z_st (st' := [vi (fQ_keyX x_38), vi i_28, vr 240]) rfl ?_
        obtain ⟨σ_40, σ_40_e, hi_41, H⟩ := wa_e H
        refine z_iast (M := M_X2_gather) dX2_gather_98 ly_240 rfl rfl rfl hi_41 σ_40_e ?_
        refine z_aload_n (M := M_X2_gather) dX2_gather_99 rfl ?_
        refine z_getR (M := M_X2_gather) (ci := 5) (C := RX2) (T := TX2) (Nf := 17) (ty := tyX2) cl5 dX2_gather_100 ly_238 2 (by decide) t_487 rfl ?_
        refine z_iload_n (M := M_X2_gather) dX2_gather_103 rfl ?_
        refine z_aload_n (M := M_X2_gather) dX2_gather_104 rfl ?_
        refine z_getR (M := M_X2_gather) (ci := 5) (C := RX2) (T := TX2) (Nf := 17) (ty := tyX2) cl5 dX2_gather_105 ly_238 0 (by decide) t_485 rfl ?_
        refine z_iload_n (M := M_X2_gather) dX2_gather_108 rfl ?_
        obtain ⟨x_42, x_42_e, hi_43, H⟩ := rd_e H
        refine z_lald (M := M_X2_gather) dX2_gather_109 ly_239 rfl rfl rfl hi_43 x_42_e ?_
        refine z_callSN (M := M_X2_gather) (M' := M_X11_keyY) (as := [vl x_42]) (rest := [vi i_28, vr 241]) rfl rfl dX2_gather_110 m_X11_keyY n_2091 t_1457 (c_X11_keyY hl  rfl) rfl rfl (Nat.le_of_ble_eq_true rfl) (Nat.le_of_ble_eq_true rfl) (Nat.le_of_ble_eq_true rfl) (Nat.le_of_ble_eq_true rfl) ?_
        refine z_st (st' := [vi (fQ_keyY x_42), vi i_28, vr 241]) rfl ?_
        obtain ⟨σ_44, σ_44_e, hi_45, H⟩ := wa_e H
        refine z_iast (M := M_X2_gather) dX2_gather_113 ly_241 rfl rfl rfl hi_45 σ_44_e ?_
        refine z_iinc (M := M_X2_gather) (lv' := [some (vr 238), some (vr shape_0), some (vi x_25), some (vi (i_28 + 1))]) dX2_gather_114 rfl (Nat.le_of_ble_eq_true rfl) rfl rfl ?_
        refine z_goto (M := M_X2_gather) (tgt := 76) dX2_gather_117 (by decide) ?_
        exact K_35 _ (Option.some.inj H).symm
      · refine z_icmp_ge_t (M := M_X2_gather) (tgt := 120) dX2_gather_81 (by decide) rfl rfl (Int.not_lt.mp h_37) ?_
        exact J_52 _ _ (K_36 _ (Option.some.inj H).symm).symm
  refine whl_go hw_3 (fun (i_1, σ_2) => YY l E M_X2_gather 4 0 0 (pS (some (zv r)) σ') 2 [some (vr 238), some (vr shape_0), some (vi i_1), none] [] σ_2 0 0) ?_
  rintro ⟨i_1, σ_2⟩ o_7 H K_8 K_9
  refine z_iload_n (M := M_X2_gather) dX2_gather_2 rfl ?_
  refine z_aload_n (M := M_X2_gather) dX2_gather_3 rfl ?_
  refine z_getI (M := M_X2_gather) (ci := 9) (C := RX6) (T := TX6) (Nf := 5) (ty := tyX6) cl9 dX2_gather_4 (ly_S h_shape) 4 (by decide) t_82 rfl rfl ?_
  rcases if_e H with ⟨h_10, H⟩ | ⟨h_10, H⟩
  · refine z_icmp_ge_f (M := M_X2_gather) (tgt := 37) dX2_gather_7 (by decide) rfl rfl h_10 ?_
    refine z_aload_n (M := M_X2_gather) dX2_gather_10 rfl ?_
    refine z_getR (M := M_X2_gather) (ci := 5) (C := RX2) (T := TX2) (Nf := 17) (ty := tyX2) cl5 dX2_gather_11 ly_238 0 (by decide) t_485 rfl ?_
    refine z_iload_n (M := M_X2_gather) dX2_gather_14 rfl ?_
    refine z_aload_n (M := M_X2_gather) dX2_gather_15 rfl ?_
    refine z_getR (M := M_X2_gather) (ci := 9) (C := RX6) (T := TX6) (Nf := 5) (ty := tyX6) cl9 dX2_gather_16 (ly_S h_shape) 1 (by decide) t_59 rfl ?_
    refine z_iload_n (M := M_X2_gather) dX2_gather_19 rfl ?_
    obtain ⟨x_11, x_11_e, hi_12, H⟩ := rd_e H
    refine z_iald (M := M_X2_gather) dX2_gather_20 (ly_Sx h_shape) rfl rfl rfl hi_12 x_11_e ?_
    refine z_aload_n (M := M_X2_gather) dX2_gather_21 rfl ?_
    refine z_getR (M := M_X2_gather) (ci := 9) (C := RX6) (T := TX6) (Nf := 5) (ty := tyX6) cl9 dX2_gather_22 (ly_S h_shape) 2 (by decide) t_66 rfl ?_
    refine z_iload_n (M := M_X2_gather) dX2_gather_25 rfl ?_
    obtain ⟨x_13, x_13_e, hi_14, H⟩ := rd_e H
    refine z_iald (M := M_X2_gather) dX2_gather_26 (ly_Sy h_shape) rfl rfl rfl hi_14 x_13_e ?_
    refine z_callSN (M := M_X2_gather) (M' := M_X11_keyOf) (as := [vi x_11, vi x_13]) (rest := [vi i_1, vr 239]) rfl rfl dX2_gather_27 m_X11_keyOf n_2087 t_1426 (c_X11_keyOf hl  rfl) rfl rfl (Nat.le_of_ble_eq_true rfl) (Nat.le_of_ble_eq_true rfl) (Nat.le_of_ble_eq_true rfl) (Nat.le_of_ble_eq_true rfl) ?_
    refine z_st (st' := [vl (fQ_keyOf x_11 x_13), vi i_1, vr 239]) rfl ?_
    obtain ⟨σ_15, σ_15_e, hi_16, H⟩ := wa_e H
    refine z_last (M := M_X2_gather) dX2_gather_30 ly_239 rfl rfl rfl hi_16 σ_15_e ?_
    refine z_iinc (M := M_X2_gather) (lv' := [some (vr 238), some (vr shape_0), some (vi (i_1 + 1)), none]) dX2_gather_31 rfl (Nat.le_of_ble_eq_true rfl) rfl rfl ?_
    refine z_goto (M := M_X2_gather) (tgt := 2) dX2_gather_34 (by decide) ?_
    exact K_8 _ (Option.some.inj H).symm
  · refine z_icmp_ge_t (M := M_X2_gather) (tgt := 37) dX2_gather_7 (by decide) rfl rfl (Int.not_lt.mp h_10) ?_
    exact J_53 _ _ (K_9 _ (Option.some.inj H).symm).symm
theorem c_X2_turnAt (hl : l.stackTraces = false) {σ : SG} {a_0 : Int} {b_0 : Int} {c_0 : Int} {r : Int}  (H : fP_turnAt σ a_0 b_0 c_0 = some r) : en_S l E M_X2_turnAt 3 0 0 [vr 238, vi a_0, vi b_0, vi c_0] σ (pS (some (vi r)) σ) := by
  unfold fP_turnAt at H
  refine z_mk (lv := [some (vr 238), some (vi a_0), some (vi b_0), some (vi c_0)]) m_X2_turnAt rfl hl (Nat.le_of_ble_eq_true rfl) rfl ?_
  refine z_aload_n (M := M_X2_turnAt) dX2_turnAt_0 rfl ?_
  refine z_getR (M := M_X2_turnAt) (ci := 5) (C := RX2) (T := TX2) (Nf := 17) (ty := tyX2) cl5 dX2_turnAt_1 ly_238 1 (by decide) t_486 rfl ?_
  refine z_iload_n (M := M_X2_turnAt) dX2_turnAt_4 rfl ?_
  obtain ⟨x_1, x_1_e, hi_2, H⟩ := rd_e H
  refine z_iald (M := M_X2_turnAt) dX2_turnAt_5 ly_240 rfl rfl rfl hi_2 x_1_e ?_
  refine z_i2l (M := M_X2_turnAt) dX2_turnAt_6 ?_
  refine z_aload_n (M := M_X2_turnAt) dX2_turnAt_7 rfl ?_
  refine z_getR (M := M_X2_turnAt) (ci := 5) (C := RX2) (T := TX2) (Nf := 17) (ty := tyX2) cl5 dX2_turnAt_8 ly_238 2 (by decide) t_487 rfl ?_
  refine z_iload_n (M := M_X2_turnAt) dX2_turnAt_11 rfl ?_
  obtain ⟨x_3, x_3_e, hi_4, H⟩ := rd_e H
  refine z_iald (M := M_X2_turnAt) dX2_turnAt_12 ly_241 rfl rfl rfl hi_4 x_3_e ?_
  refine z_i2l (M := M_X2_turnAt) dX2_turnAt_13 ?_
  refine z_aload_n (M := M_X2_turnAt) dX2_turnAt_14 rfl ?_
  refine z_getR (M := M_X2_turnAt) (ci := 5) (C := RX2) (T := TX2) (Nf := 17) (ty := tyX2) cl5 dX2_turnAt_15 ly_238 1 (by decide) t_486 rfl ?_
  refine z_iload_n (M := M_X2_turnAt) dX2_turnAt_18 rfl ?_
  obtain ⟨x_5, x_5_e, hi_6, H⟩ := rd_e H
  refine z_iald (M := M_X2_turnAt) dX2_turnAt_19 ly_240 rfl rfl rfl hi_6 x_5_e ?_
  refine z_i2l (M := M_X2_turnAt) dX2_turnAt_20 ?_
  refine z_aload_n (M := M_X2_turnAt) dX2_turnAt_21 rfl ?_
  refine z_getR (M := M_X2_turnAt) (ci := 5) (C := RX2) (T := TX2) (Nf := 17) (ty := tyX2) cl5 dX2_turnAt_22 ly_238 2 (by decide) t_487 rfl ?_
  refine z_iload_n (M := M_X2_turnAt) dX2_turnAt_25 rfl ?_
  obtain ⟨x_7, x_7_e, hi_8, H⟩ := rd_e H
  refine z_iald (M := M_X2_turnAt) dX2_turnAt_26 ly_241 rfl rfl rfl hi_8 x_7_e ?_
  refine z_i2l (M := M_X2_turnAt) dX2_turnAt_27 ?_
  refine z_aload_n (M := M_X2_turnAt) dX2_turnAt_28 rfl ?_
  refine z_getR (M := M_X2_turnAt) (ci := 5) (C := RX2) (T := TX2) (Nf := 17) (ty := tyX2) cl5 dX2_turnAt_29 ly_238 1 (by decide) t_486 rfl ?_
  refine z_iload_n (M := M_X2_turnAt) dX2_turnAt_32 rfl ?_
  obtain ⟨x_9, x_9_e, hi_10, H⟩ := rd_e H
  refine z_iald (M := M_X2_turnAt) dX2_turnAt_33 ly_240 rfl rfl rfl hi_10 x_9_e ?_
  refine z_i2l (M := M_X2_turnAt) dX2_turnAt_34 ?_
  refine z_aload_n (M := M_X2_turnAt) dX2_turnAt_35 rfl ?_
  refine z_getR (M := M_X2_turnAt) (ci := 5) (C := RX2) (T := TX2) (Nf := 17) (ty := tyX2) cl5 dX2_turnAt_36 ly_238 2 (by decide) t_487 rfl ?_
  refine z_iload_n (M := M_X2_turnAt) dX2_turnAt_39 rfl ?_
  obtain ⟨x_11, x_11_e, hi_12, H⟩ := rd_e H
  refine z_iald (M := M_X2_turnAt) dX2_turnAt_40 ly_241 rfl rfl rfl hi_12 x_11_e ?_
  refine z_i2l (M := M_X2_turnAt) dX2_turnAt_41 ?_
  refine z_callSN (M := M_X2_turnAt) (M' := M_X11_turnOf) (as := [vl (w32 x_1), vl (w32 x_3), vl (w32 x_5), vl (w32 x_7), vl (w32 x_9), vl (w32 x_11)]) (rest := []) rfl rfl dX2_turnAt_42 m_X11_turnOf n_2117 t_1265 (c_X11_turnOf hl  rfl) rfl rfl (Nat.le_of_ble_eq_true rfl) (Nat.le_of_ble_eq_true rfl) (Nat.le_of_ble_eq_true rfl) (Nat.le_of_ble_eq_true rfl) ?_
  refine z_st (st' := [vi (fQ_turnOf (w32 x_1) (w32 x_3) (w32 x_5) (w32 x_7) (w32 x_9) (w32 x_11))]) rfl ?_
  cases H
  exact z_iret (M := M_X2_turnAt) dX2_turnAt_45 rfl (Nat.le_of_ble_eq_true rfl) (Nat.le_of_ble_eq_true rfl) ⟨rfl, rfl⟩
theorem c_X2_cornersBefore (hl : l.stackTraces = false) {σ : SG} {place_0 : Int} {corners_0 : Int} {floor_0 : Int} {r : Int}  (H : fP_cornersBefore σ place_0 corners_0 floor_0 = some r) : en_S l E M_X2_cornersBefore 4 0 0 [vr 238, vi place_0, vi corners_0, vi floor_0] σ (pS (some (vi r)) σ) := by
  unfold fP_cornersBefore at H
  refine z_mk (lv := [some (vr 238), some (vi place_0), some (vi corners_0), some (vi floor_0), none]) m_X2_cornersBefore rfl hl (Nat.le_of_ble_eq_true rfl) rfl ?_
  refine z_iload_n (M := M_X2_cornersBefore) dX2_cornersBefore_0 rfl ?_
  refine z_istore (M := M_X2_cornersBefore) (lv' := [some (vr 238), some (vi place_0), some (vi corners_0), some (vi floor_0), some (vi corners_0)]) dX2_cornersBefore_1 (Nat.le_of_ble_eq_true rfl) rfl rfl ?_
  obtain ⟨rl_5, hw_2, hk_3⟩ := bd_e H
  have J_33 : ∀ size_32, rl_5 = size_32 → YY l E M_X2_cornersBefore 4 0 0 (pS (some (vi r)) σ) 41 [some (vr 238), some (vi place_0), some (vi corners_0), some (vi floor_0), some (vi size_32)] [] σ 0 0 := by
    intro size_32 e
    have H := hk_3
    rw [e] at H
    refine z_iload (M := M_X2_cornersBefore) dX2_cornersBefore_41 rfl ?_
    cases H
    exact z_iret (M := M_X2_cornersBefore) dX2_cornersBefore_43 rfl (Nat.le_of_ble_eq_true rfl) (Nat.le_of_ble_eq_true rfl) ⟨rfl, rfl⟩
  refine whl_go hw_2 (fun size_1 => YY l E M_X2_cornersBefore 4 0 0 (pS (some (vi r)) σ) 3 [some (vr 238), some (vi place_0), some (vi corners_0), some (vi floor_0), some (vi size_1)] [] σ 0 0) ?_
  rintro size_1 o_6 H K_7 K_8
  refine z_iload (M := M_X2_cornersBefore) dX2_cornersBefore_3 rfl ?_
  refine z_iload_n (M := M_X2_cornersBefore) dX2_cornersBefore_5 rfl ?_
  rcases if_e H with ⟨h_21, H⟩ | ⟨h_21, H⟩
  · refine z_icmp_lt_f (M := M_X2_cornersBefore) (tgt := 41) dX2_cornersBefore_6 (by decide) rfl rfl h_21 ?_
    refine z_aload_n (M := M_X2_cornersBefore) dX2_cornersBefore_9 rfl ?_
    refine z_aload_n (M := M_X2_cornersBefore) dX2_cornersBefore_10 rfl ?_
    refine z_getR (M := M_X2_cornersBefore) (ci := 5) (C := RX2) (T := TX2) (Nf := 17) (ty := tyX2) cl5 dX2_cornersBefore_11 ly_238 6 (by decide) t_491 rfl ?_
    refine z_iload (M := M_X2_cornersBefore) dX2_cornersBefore_14 rfl ?_
    refine z_iconst (M := M_X2_cornersBefore) dX2_cornersBefore_16 ?_
    refine z_isub (M := M_X2_cornersBefore) dX2_cornersBefore_17 ?_
    obtain ⟨x_22, x_22_e, hi_23, H⟩ := rd_e H
    refine z_iald (M := M_X2_cornersBefore) dX2_cornersBefore_18 ly_244 rfl rfl rfl hi_23 x_22_e ?_
    refine z_aload_n (M := M_X2_cornersBefore) dX2_cornersBefore_19 rfl ?_
    refine z_getR (M := M_X2_cornersBefore) (ci := 5) (C := RX2) (T := TX2) (Nf := 17) (ty := tyX2) cl5 dX2_cornersBefore_20 ly_238 6 (by decide) t_491 rfl ?_
    refine z_iload (M := M_X2_cornersBefore) dX2_cornersBefore_23 rfl ?_
    refine z_iconst (M := M_X2_cornersBefore) dX2_cornersBefore_25 ?_
    refine z_isub (M := M_X2_cornersBefore) dX2_cornersBefore_26 ?_
    obtain ⟨x_24, x_24_e, hi_25, H⟩ := rd_e H
    refine z_iald (M := M_X2_cornersBefore) dX2_cornersBefore_27 ly_244 rfl rfl rfl hi_25 x_24_e ?_
    refine z_iload_n (M := M_X2_cornersBefore) dX2_cornersBefore_28 rfl ?_
    obtain ⟨x_27, hc_26, H⟩ := bd_e H
    refine z_callV (M := M_X2_cornersBefore) (M' := M_X2_turnAt) (as := [vi x_22, vi x_24, vi place_0]) (rest := []) rfl rfl dX2_cornersBefore_29 m_X2_turnAt t_2113 t_2115 s_132 (c_X2_turnAt hl  hc_26) rfl rfl ly_238 rfl (Nat.le_of_ble_eq_true rfl) (Nat.le_of_ble_eq_true rfl) (Nat.le_of_ble_eq_true rfl) (Nat.le_of_ble_eq_true rfl) ?_
    refine z_st (st' := [vi x_27]) rfl ?_
    rcases if_e H with ⟨h_28, H⟩ | ⟨h_28, H⟩
    · refine z_if_gt_f (M := M_X2_cornersBefore) (tgt := 41) dX2_cornersBefore_32 (by decide) rfl h_28 ?_
      refine z_iinc (M := M_X2_cornersBefore) (lv' := [some (vr 238), some (vi place_0), some (vi corners_0), some (vi floor_0), some (vi (size_1 + (-1)))]) dX2_cornersBefore_35 rfl (Nat.le_of_ble_eq_true rfl) rfl rfl ?_
      refine z_goto (M := M_X2_cornersBefore) (tgt := 3) dX2_cornersBefore_38 (by decide) ?_
      exact K_7 _ (Option.some.inj H).symm
    · refine z_if_gt_t (M := M_X2_cornersBefore) (tgt := 41) dX2_cornersBefore_32 (by decide) rfl (Int.not_le.mp h_28) ?_
      exact J_33 _ (K_8 _ (Option.some.inj H).symm).symm
  · refine z_icmp_lt_t (M := M_X2_cornersBefore) (tgt := 41) dX2_cornersBefore_6 (by decide) rfl rfl (Int.not_le.mp h_21) ?_
    exact J_33 _ (K_8 _ (Option.some.inj H).symm).symm
theorem c_X2_findCorners (hl : l.stackTraces = false) {σ : SG} {r : Int} {σ' : SG}  (H : fP_findCorners σ = some (r, σ')) : en_S l E M_X2_findCorners 5 0 0 [vr 238] σ (pS (some (vi r)) σ') := by
  unfold fP_findCorners at H
  refine z_mk (lv := [some (vr 238), none, none, none]) m_X2_findCorners rfl hl (Nat.le_of_ble_eq_true rfl) rfl ?_
  refine z_iconst (M := M_X2_findCorners) dX2_findCorners_0 ?_
  refine z_istore_n (M := M_X2_findCorners) (lv' := [some (vr 238), some (vi 0), none, none]) dX2_findCorners_1 (Nat.le_of_ble_eq_true rfl) rfl rfl ?_
  refine z_iconst (M := M_X2_findCorners) dX2_findCorners_2 ?_
  refine z_istore_n (M := M_X2_findCorners) (lv' := [some (vr 238), some (vi 0), some (vi 0), none]) dX2_findCorners_3 (Nat.le_of_ble_eq_true rfl) rfl rfl ?_
  obtain ⟨rl_7, hw_4, hk_5⟩ := bd_e H
  have J_44 : ∀ size_18 i_19 σ_20, rl_7 = (size_18, i_19, σ_20) → YY l E M_X2_findCorners 5 0 0 (pS (some (vi r)) σ') 36 [some (vr 238), some (vi size_18), some (vi i_19), none] [] σ_20 0 0 := by
    intro size_18 i_19 σ_20 e
    have H := hk_5
    rw [e] at H
    refine z_iload_n (M := M_X2_findCorners) dX2_findCorners_36 rfl ?_
    refine z_iconst (M := M_X2_findCorners) dX2_findCorners_37 ?_
    refine z_iadd (M := M_X2_findCorners) dX2_findCorners_38 ?_
    refine z_istore_n (M := M_X2_findCorners) (lv' := [some (vr 238), some (vi size_18), some (vi (size_18 + 1)), none]) dX2_findCorners_39 (Nat.le_of_ble_eq_true rfl) rfl rfl ?_
    refine z_aload_n (M := M_X2_findCorners) dX2_findCorners_40 rfl ?_
    refine z_getI (M := M_X2_findCorners) (ci := 5) (C := RX2) (T := TX2) (Nf := 17) (ty := tyX2) cl5 dX2_findCorners_41 ly_238 3 (by decide) t_488 rfl rfl ?_
    refine z_iconst (M := M_X2_findCorners) dX2_findCorners_44 ?_
    refine z_isub (M := M_X2_findCorners) dX2_findCorners_45 ?_
    refine z_istore_n (M := M_X2_findCorners) (lv' := [some (vr 238), some (vi size_18), some (vi (size_18 + 1)), some (vi ((σ_20 kP_places 0) - 2))]) dX2_findCorners_46 (Nat.le_of_ble_eq_true rfl) rfl rfl ?_
    obtain ⟨rl_27, hw_24, hk_25⟩ := bd_e H
    have J_43 : ∀ size_38 i_39 σ_40, rl_27 = (size_38, i_39, σ_40) → YY l E M_X2_findCorners 5 0 0 (pS (some (vi r)) σ') 75 [some (vr 238), some (vi size_38), some (vi (size_18 + 1)), some (vi i_39)] [] σ_40 0 0 := by
      intro size_38 i_39 σ_40 e
      have H := hk_25
      rw [e] at H
      have J_41 : YY l E M_X2_findCorners 5 0 0 (pS (some (vi r)) σ') 90 [some (vr 238), some (vi size_38), some (vi (size_18 + 1)), some (vi i_39)] [vi (if 1 < (w32 (σ_40 kP_places 0)) then (size_38 - 1) else size_38)] σ_40 0 0 := by
        cases H
        exact z_iret (M := M_X2_findCorners) dX2_findCorners_90 rfl (Nat.le_of_ble_eq_true rfl) (Nat.le_of_ble_eq_true rfl) ⟨rfl, rfl⟩
      refine z_aload_n (M := M_X2_findCorners) dX2_findCorners_75 rfl ?_
      refine z_getI (M := M_X2_findCorners) (ci := 5) (C := RX2) (T := TX2) (Nf := 17) (ty := tyX2) cl5 dX2_findCorners_76 ly_238 3 (by decide) t_488 rfl rfl ?_
      refine z_iconst (M := M_X2_findCorners) dX2_findCorners_79 ?_
      by_cases h_42 : 1 < (w32 (σ_40 kP_places 0))
      · refine z_icmp_le_f (M := M_X2_findCorners) (tgt := 89) dX2_findCorners_80 (by decide) rfl (by decide +kernel) h_42 ?_
        refine z_iload_n (M := M_X2_findCorners) dX2_findCorners_83 rfl ?_
        refine z_iconst (M := M_X2_findCorners) dX2_findCorners_84 ?_
        refine z_isub (M := M_X2_findCorners) dX2_findCorners_85 ?_
        refine z_goto (M := M_X2_findCorners) (tgt := 90) dX2_findCorners_86 (by decide) ?_
        exact z_st (by rw [if_pos (c := 1 < (w32 (σ_40 kP_places 0))) h_42]) J_41
      · refine z_icmp_le_t (M := M_X2_findCorners) (tgt := 89) dX2_findCorners_80 (by decide) rfl (by decide +kernel) (Int.not_lt.mp h_42) ?_
        refine z_iload_n (M := M_X2_findCorners) dX2_findCorners_89 rfl ?_
        exact z_st (by rw [if_neg (c := 1 < (w32 (σ_40 kP_places 0))) h_42]) J_41
    refine whl_go hw_24 (fun (size_21, i_22, σ_23) => YY l E M_X2_findCorners 5 0 0 (pS (some (vi r)) σ') 47 [some (vr 238), some (vi size_21), some (vi (size_18 + 1)), some (vi i_22)] [] σ_23 0 0) ?_
    rintro ⟨size_21, i_22, σ_23⟩ o_28 H K_29 K_30
    refine z_iload_n (M := M_X2_findCorners) dX2_findCorners_47 rfl ?_
    rcases if_e H with ⟨h_31, H⟩ | ⟨h_31, H⟩
    · refine z_if_lt_f (M := M_X2_findCorners) (tgt := 75) dX2_findCorners_48 (by decide) rfl h_31 ?_
      refine z_aload_n (M := M_X2_findCorners) dX2_findCorners_51 rfl ?_
      refine z_iload_n (M := M_X2_findCorners) dX2_findCorners_52 rfl ?_
      refine z_iload_n (M := M_X2_findCorners) dX2_findCorners_53 rfl ?_
      refine z_iload_n (M := M_X2_findCorners) dX2_findCorners_54 rfl ?_
      obtain ⟨x_33, hc_32, H⟩ := bd_e H
      refine z_callV (M := M_X2_findCorners) (M' := M_X2_cornersBefore) (as := [vi i_22, vi size_21, vi (size_18 + 1)]) (rest := []) rfl rfl dX2_findCorners_55 m_X2_cornersBefore t_2109 t_2111 s_131 (c_X2_cornersBefore hl  hc_32) rfl rfl ly_238 rfl (Nat.le_of_ble_eq_true rfl) (Nat.le_of_ble_eq_true rfl) (Nat.le_of_ble_eq_true rfl) (Nat.le_of_ble_eq_true rfl) ?_
      refine z_st (st' := [vi x_33]) rfl ?_
      refine z_istore_n (M := M_X2_findCorners) (lv' := [some (vr 238), some (vi x_33), some (vi (size_18 + 1)), some (vi i_22)]) dX2_findCorners_58 (Nat.le_of_ble_eq_true rfl) rfl rfl ?_
      refine z_aload_n (M := M_X2_findCorners) dX2_findCorners_59 rfl ?_
      refine z_getR (M := M_X2_findCorners) (ci := 5) (C := RX2) (T := TX2) (Nf := 17) (ty := tyX2) cl5 dX2_findCorners_60 ly_238 6 (by decide) t_491 rfl ?_
      refine z_iload_n (M := M_X2_findCorners) dX2_findCorners_63 rfl ?_
      refine z_iload_n (M := M_X2_findCorners) dX2_findCorners_64 rfl ?_
      obtain ⟨σ_34, σ_34_e, hi_35, H⟩ := wa_e H
      refine z_iast (M := M_X2_findCorners) dX2_findCorners_65 ly_244 rfl rfl rfl hi_35 σ_34_e ?_
      refine z_iinc (M := M_X2_findCorners) (lv' := [some (vr 238), some (vi (x_33 + 1)), some (vi (size_18 + 1)), some (vi i_22)]) dX2_findCorners_66 rfl (Nat.le_of_ble_eq_true rfl) rfl rfl ?_
      refine z_iinc (M := M_X2_findCorners) (lv' := [some (vr 238), some (vi (x_33 + 1)), some (vi (size_18 + 1)), some (vi (i_22 + (-1)))]) dX2_findCorners_69 rfl (Nat.le_of_ble_eq_true rfl) rfl rfl ?_
      refine z_goto (M := M_X2_findCorners) (tgt := 47) dX2_findCorners_72 (by decide) ?_
      exact K_29 _ (Option.some.inj H).symm
    · refine z_if_lt_t (M := M_X2_findCorners) (tgt := 75) dX2_findCorners_48 (by decide) rfl (Int.not_le.mp h_31) ?_
      exact J_43 _ _ _ (K_30 _ (Option.some.inj H).symm).symm
  refine whl_go hw_4 (fun (size_1, i_2, σ_3) => YY l E M_X2_findCorners 5 0 0 (pS (some (vi r)) σ') 4 [some (vr 238), some (vi size_1), some (vi i_2), none] [] σ_3 0 0) ?_
  rintro ⟨size_1, i_2, σ_3⟩ o_8 H K_9 K_10
  refine z_iload_n (M := M_X2_findCorners) dX2_findCorners_4 rfl ?_
  refine z_aload_n (M := M_X2_findCorners) dX2_findCorners_5 rfl ?_
  refine z_getI (M := M_X2_findCorners) (ci := 5) (C := RX2) (T := TX2) (Nf := 17) (ty := tyX2) cl5 dX2_findCorners_6 ly_238 3 (by decide) t_488 rfl rfl ?_
  rcases if_e H with ⟨h_11, H⟩ | ⟨h_11, H⟩
  · refine z_icmp_ge_f (M := M_X2_findCorners) (tgt := 36) dX2_findCorners_9 (by decide) rfl rfl h_11 ?_
    refine z_aload_n (M := M_X2_findCorners) dX2_findCorners_12 rfl ?_
    refine z_iload_n (M := M_X2_findCorners) dX2_findCorners_13 rfl ?_
    refine z_iload_n (M := M_X2_findCorners) dX2_findCorners_14 rfl ?_
    refine z_iconst (M := M_X2_findCorners) dX2_findCorners_15 ?_
    obtain ⟨x_13, hc_12, H⟩ := bd_e H
    refine z_callV (M := M_X2_findCorners) (M' := M_X2_cornersBefore) (as := [vi i_2, vi size_1, vi 2]) (rest := []) rfl rfl dX2_findCorners_16 m_X2_cornersBefore t_2109 t_2111 s_131 (c_X2_cornersBefore hl  hc_12) rfl rfl ly_238 rfl (Nat.le_of_ble_eq_true rfl) (Nat.le_of_ble_eq_true rfl) (Nat.le_of_ble_eq_true rfl) (Nat.le_of_ble_eq_true rfl) ?_
    refine z_st (st' := [vi x_13]) rfl ?_
    refine z_istore_n (M := M_X2_findCorners) (lv' := [some (vr 238), some (vi x_13), some (vi i_2), none]) dX2_findCorners_19 (Nat.le_of_ble_eq_true rfl) rfl rfl ?_
    refine z_aload_n (M := M_X2_findCorners) dX2_findCorners_20 rfl ?_
    refine z_getR (M := M_X2_findCorners) (ci := 5) (C := RX2) (T := TX2) (Nf := 17) (ty := tyX2) cl5 dX2_findCorners_21 ly_238 6 (by decide) t_491 rfl ?_
    refine z_iload_n (M := M_X2_findCorners) dX2_findCorners_24 rfl ?_
    refine z_iload_n (M := M_X2_findCorners) dX2_findCorners_25 rfl ?_
    obtain ⟨σ_14, σ_14_e, hi_15, H⟩ := wa_e H
    refine z_iast (M := M_X2_findCorners) dX2_findCorners_26 ly_244 rfl rfl rfl hi_15 σ_14_e ?_
    refine z_iinc (M := M_X2_findCorners) (lv' := [some (vr 238), some (vi (x_13 + 1)), some (vi i_2), none]) dX2_findCorners_27 rfl (Nat.le_of_ble_eq_true rfl) rfl rfl ?_
    refine z_iinc (M := M_X2_findCorners) (lv' := [some (vr 238), some (vi (x_13 + 1)), some (vi (i_2 + 1)), none]) dX2_findCorners_30 rfl (Nat.le_of_ble_eq_true rfl) rfl rfl ?_
    refine z_goto (M := M_X2_findCorners) (tgt := 4) dX2_findCorners_33 (by decide) ?_
    exact K_9 _ (Option.some.inj H).symm
  · refine z_icmp_ge_t (M := M_X2_findCorners) (tgt := 36) dX2_findCorners_9 (by decide) rfl rfl (Int.not_lt.mp h_11) ?_
    exact J_44 _ _ _ (K_10 _ (Option.some.inj H).symm).symm
theorem c_X2_span (hl : l.stackTraces = false) {σ : SG} {into_0 : Nat} {r : Int} {σ' : SG} (h_into : isS into_0) (H : fP_span σ into_0 = some (r, σ')) : en_S l E M_X2_span 6 0 0 [vr 238, vr into_0] σ (pS (some (vi r)) σ') := by
  unfold fP_span at H
  refine z_mk (lv := [some (vr 238), some (vr into_0), none, none]) m_X2_span rfl hl (Nat.le_of_ble_eq_true rfl) rfl ?_
  refine z_aload_n (M := M_X2_span) dX2_span_0 rfl ?_
  obtain ⟨⟨x_3, σ_2⟩, hc_1, H⟩ := bd_e H
  refine z_callV (M := M_X2_span) (M' := M_X2_findCorners) (as := []) (rest := []) rfl rfl dX2_span_1 m_X2_findCorners t_2105 t_2107 s_130 (c_X2_findCorners hl  hc_1) rfl rfl ly_238 rfl (Nat.le_of_ble_eq_true rfl) (Nat.le_of_ble_eq_true rfl) (Nat.le_of_ble_eq_true rfl) (Nat.le_of_ble_eq_true rfl) ?_
  refine z_st (st' := [vi x_3]) rfl ?_
  refine z_istore_n (M := M_X2_span) (lv' := [some (vr 238), some (vr into_0), some (vi x_3), none]) dX2_span_4 (Nat.le_of_ble_eq_true rfl) rfl rfl ?_
  refine z_aload_n (M := M_X2_span) dX2_span_5 rfl ?_
  obtain ⟨σ_5, hc_4, H⟩ := bd_e H
  refine z_callV (M := M_X2_span) (M' := M_X6_clear) (as := []) (rest := []) rfl rfl dX2_span_6 m_X6_clear t_2118 t_768 t_769 (c_X6_clear hl h_into hc_4) rfl rfl (ly_S h_into) rfl (Nat.le_of_ble_eq_true rfl) (Nat.le_of_ble_eq_true rfl) (Nat.le_of_ble_eq_true rfl) (Nat.le_of_ble_eq_true rfl) ?_
  refine z_st (st' := []) rfl ?_
  obtain ⟨v_9, he_6, hk_7⟩ := bd_e H
  have J_83 : ∀ σ_36, v_9 = σ_36 → YY l E M_X2_span 6 0 0 (pS (some (vi r)) σ') 63 [some (vr 238), some (vr into_0), some (vi x_3), none] [] σ_36 0 0 := by
    intro σ_36 e
    have H := hk_7
    rw [e] at H
    refine z_iconst (M := M_X2_span) dX2_span_63 ?_
    refine z_istore_n (M := M_X2_span) (lv' := [some (vr 238), some (vr into_0), some (vi x_3), some (vi 0)]) dX2_span_64 (Nat.le_of_ble_eq_true rfl) rfl rfl ?_
    obtain ⟨rl_42, hw_39, hk_40⟩ := bd_e H
    have J_82 : ∀ k_60 σ_61, rl_42 = (k_60, σ_61) → YY l E M_X2_span 6 0 0 (pS (some (vi r)) σ') 103 [some (vr 238), some (vr into_0), some (vi x_3), some (vi k_60)] [] σ_61 0 0 := by
      intro k_60 σ_61 e
      have H := hk_40
      rw [e] at H
      obtain ⟨v_65, he_62, hk_63⟩ := bd_e H
      have J_81 : ∀ σ_80, v_65 = σ_80 → YY l E M_X2_span 6 0 0 (pS (some (vi r)) σ') 135 [some (vr 238), some (vr into_0), some (vi x_3), none] [] σ_80 0 0 := by
        intro σ_80 e
        have H := hk_63
        rw [e] at H
        refine z_iload_n (M := M_X2_span) dX2_span_135 rfl ?_
        cases H
        exact z_iret (M := M_X2_span) dX2_span_136 rfl (Nat.le_of_ble_eq_true rfl) (Nat.le_of_ble_eq_true rfl) ⟨rfl, rfl⟩
      have H := he_62
      refine z_iload_n (M := M_X2_span) dX2_span_103 rfl ?_
      refine z_iconst (M := M_X2_span) dX2_span_104 ?_
      rcases if_e H with ⟨h_66, H⟩ | ⟨h_66, H⟩
      · refine z_icmp_le_f (M := M_X2_span) (tgt := 135) dX2_span_105 (by decide) rfl (by decide +kernel) h_66 ?_
        refine z_aload_n (M := M_X2_span) dX2_span_108 rfl ?_
        refine z_aload_n (M := M_X2_span) dX2_span_109 rfl ?_
        refine z_getR (M := M_X2_span) (ci := 5) (C := RX2) (T := TX2) (Nf := 17) (ty := tyX2) cl5 dX2_span_110 ly_238 1 (by decide) t_486 rfl ?_
        refine z_aload_n (M := M_X2_span) dX2_span_113 rfl ?_
        refine z_getR (M := M_X2_span) (ci := 5) (C := RX2) (T := TX2) (Nf := 17) (ty := tyX2) cl5 dX2_span_114 ly_238 6 (by decide) t_491 rfl ?_
        refine z_iconst (M := M_X2_span) dX2_span_117 ?_
        obtain ⟨x_67, x_67_e, hi_68, H⟩ := rd_e H
        refine z_iald (M := M_X2_span) dX2_span_118 ly_244 rfl (by decide +kernel) rfl hi_68 x_67_e ?_
        obtain ⟨x_69, x_69_e, hi_70, H⟩ := rd_e H
        refine z_iald (M := M_X2_span) dX2_span_119 ly_240 rfl rfl rfl hi_70 x_69_e ?_
        refine z_aload_n (M := M_X2_span) dX2_span_120 rfl ?_
        refine z_getR (M := M_X2_span) (ci := 5) (C := RX2) (T := TX2) (Nf := 17) (ty := tyX2) cl5 dX2_span_121 ly_238 2 (by decide) t_487 rfl ?_
        refine z_aload_n (M := M_X2_span) dX2_span_124 rfl ?_
        refine z_getR (M := M_X2_span) (ci := 5) (C := RX2) (T := TX2) (Nf := 17) (ty := tyX2) cl5 dX2_span_125 ly_238 6 (by decide) t_491 rfl ?_
        refine z_iconst (M := M_X2_span) dX2_span_128 ?_
        obtain ⟨x_71, x_71_e, hi_72, H⟩ := rd_e H
        refine z_iald (M := M_X2_span) dX2_span_129 ly_244 rfl (by decide +kernel) rfl hi_72 x_71_e ?_
        obtain ⟨x_73, x_73_e, hi_74, H⟩ := rd_e H
        refine z_iald (M := M_X2_span) dX2_span_130 ly_241 rfl rfl rfl hi_74 x_73_e ?_
        obtain ⟨⟨x_77, σ_76⟩, hc_75, H⟩ := bd_e H
        refine z_callV (M := M_X2_span) (M' := M_X6_addPoint) (as := [vi x_69, vi x_73]) (rest := []) rfl rfl dX2_span_131 m_X6_addPoint t_2121 t_938 t_939 (c_X6_addPoint hl h_into hc_75) rfl rfl (ly_S h_into) rfl (Nat.le_of_ble_eq_true rfl) (Nat.le_of_ble_eq_true rfl) (Nat.le_of_ble_eq_true rfl) (Nat.le_of_ble_eq_true rfl) ?_
        refine z_st (st' := [zv x_77]) rfl ?_
        refine z_pop (M := M_X2_span) dX2_span_134 rfl ?_
        refine z_le (lv' := [some (vr 238), some (vr into_0), some (vi x_3), none]) ⟨Or.inr rfl, Or.inr rfl, Or.inr rfl, Or.inl rfl, trivial⟩ ?_
        exact J_81 _ (Option.some.inj H).symm
      · refine z_icmp_le_t (M := M_X2_span) (tgt := 135) dX2_span_105 (by decide) rfl (by decide +kernel) (Int.not_lt.mp h_66) ?_
        refine z_le (lv' := [some (vr 238), some (vr into_0), some (vi x_3), none]) ⟨Or.inr rfl, Or.inr rfl, Or.inr rfl, Or.inl rfl, trivial⟩ ?_
        exact J_81 _ (Option.some.inj H).symm
    refine whl_go hw_39 (fun (k_37, σ_38) => YY l E M_X2_span 6 0 0 (pS (some (vi r)) σ') 65 [some (vr 238), some (vr into_0), some (vi x_3), some (vi k_37)] [] σ_38 0 0) ?_
    rintro ⟨k_37, σ_38⟩ o_43 H K_44 K_45
    refine z_iload_n (M := M_X2_span) dX2_span_65 rfl ?_
    refine z_iload_n (M := M_X2_span) dX2_span_66 rfl ?_
    rcases if_e H with ⟨h_46, H⟩ | ⟨h_46, H⟩
    · refine z_icmp_ge_f (M := M_X2_span) (tgt := 103) dX2_span_67 (by decide) rfl rfl h_46 ?_
      refine z_aload_n (M := M_X2_span) dX2_span_70 rfl ?_
      refine z_aload_n (M := M_X2_span) dX2_span_71 rfl ?_
      refine z_getR (M := M_X2_span) (ci := 5) (C := RX2) (T := TX2) (Nf := 17) (ty := tyX2) cl5 dX2_span_72 ly_238 1 (by decide) t_486 rfl ?_
      refine z_aload_n (M := M_X2_span) dX2_span_75 rfl ?_
      refine z_getR (M := M_X2_span) (ci := 5) (C := RX2) (T := TX2) (Nf := 17) (ty := tyX2) cl5 dX2_span_76 ly_238 6 (by decide) t_491 rfl ?_
      refine z_iload_n (M := M_X2_span) dX2_span_79 rfl ?_
      obtain ⟨x_47, x_47_e, hi_48, H⟩ := rd_e H
      refine z_iald (M := M_X2_span) dX2_span_80 ly_244 rfl rfl rfl hi_48 x_47_e ?_
      obtain ⟨x_49, x_49_e, hi_50, H⟩ := rd_e H
      refine z_iald (M := M_X2_span) dX2_span_81 ly_240 rfl rfl rfl hi_50 x_49_e ?_
      refine z_aload_n (M := M_X2_span) dX2_span_82 rfl ?_
      refine z_getR (M := M_X2_span) (ci := 5) (C := RX2) (T := TX2) (Nf := 17) (ty := tyX2) cl5 dX2_span_83 ly_238 2 (by decide) t_487 rfl ?_
      refine z_aload_n (M := M_X2_span) dX2_span_86 rfl ?_
      refine z_getR (M := M_X2_span) (ci := 5) (C := RX2) (T := TX2) (Nf := 17) (ty := tyX2) cl5 dX2_span_87 ly_238 6 (by decide) t_491 rfl ?_
      refine z_iload_n (M := M_X2_span) dX2_span_90 rfl ?_
      obtain ⟨x_51, x_51_e, hi_52, H⟩ := rd_e H
      refine z_iald (M := M_X2_span) dX2_span_91 ly_244 rfl rfl rfl hi_52 x_51_e ?_
      obtain ⟨x_53, x_53_e, hi_54, H⟩ := rd_e H
      refine z_iald (M := M_X2_span) dX2_span_92 ly_241 rfl rfl rfl hi_54 x_53_e ?_
      obtain ⟨⟨x_57, σ_56⟩, hc_55, H⟩ := bd_e H
      refine z_callV (M := M_X2_span) (M' := M_X6_addPoint) (as := [vi x_49, vi x_53]) (rest := []) rfl rfl dX2_span_93 m_X6_addPoint t_2121 t_938 t_939 (c_X6_addPoint hl h_into hc_55) rfl rfl (ly_S h_into) rfl (Nat.le_of_ble_eq_true rfl) (Nat.le_of_ble_eq_true rfl) (Nat.le_of_ble_eq_true rfl) (Nat.le_of_ble_eq_true rfl) ?_
      refine z_st (st' := [zv x_57]) rfl ?_
      refine z_pop (M := M_X2_span) dX2_span_96 rfl ?_
      refine z_iinc (M := M_X2_span) (lv' := [some (vr 238), some (vr into_0), some (vi x_3), some (vi (k_37 + 1))]) dX2_span_97 rfl (Nat.le_of_ble_eq_true rfl) rfl rfl ?_
      refine z_goto (M := M_X2_span) (tgt := 65) dX2_span_100 (by decide) ?_
      exact K_44 _ (Option.some.inj H).symm
    · refine z_icmp_ge_t (M := M_X2_span) (tgt := 103) dX2_span_67 (by decide) rfl rfl (Int.not_lt.mp h_46) ?_
      exact J_82 _ _ (K_45 _ (Option.some.inj H).symm).symm
  have H := he_6
  refine z_iload_n (M := M_X2_span) dX2_span_9 rfl ?_
  rcases if_e H with ⟨h_10, H⟩ | ⟨h_10, H⟩
  · refine z_if_ne_f (M := M_X2_span) (tgt := 24) dX2_span_10 (by decide) rfl h_10 ?_
    refine z_aload_n (M := M_X2_span) dX2_span_13 rfl ?_
    refine z_bipush (M := M_X2_span) dX2_span_14 (by decide +kernel) ?_
    refine z_iconst (M := M_X2_span) dX2_span_16 ?_
    obtain ⟨⟨x_13, σ_12⟩, hc_11, H⟩ := bd_e H
    refine z_callV (M := M_X2_span) (M' := M_X6_addShape) (as := [vi 7, vi 0]) (rest := []) rfl rfl dX2_span_17 m_X6_addShape t_2119 t_872 t_873 (c_X6_addShape hl h_into hc_11) rfl rfl (ly_S h_into) rfl (Nat.le_of_ble_eq_true rfl) (Nat.le_of_ble_eq_true rfl) (Nat.le_of_ble_eq_true rfl) (Nat.le_of_ble_eq_true rfl) ?_
    refine z_st (st' := [zv x_13]) rfl ?_
    refine z_pop (M := M_X2_span) dX2_span_20 rfl ?_
    refine z_goto (M := M_X2_span) (tgt := 63) dX2_span_21 (by decide) ?_
    exact J_83 _ (Option.some.inj H).symm
  · refine z_if_ne_t (M := M_X2_span) (tgt := 24) dX2_span_10 (by decide) rfl h_10 ?_
    obtain ⟨v_18, he_15, hk_16⟩ := bd_e H
    have J_35 : ∀ σ_33, v_18 = σ_33 → YY l E M_X2_span 6 0 0 (pS (some (vi r)) σ') 63 [some (vr 238), some (vr into_0), some (vi x_3), none] [] σ_33 0 0 := by
      intro σ_33 e
      have H := hk_16
      rw [e] at H
      exact J_83 _ (Option.some.inj H).symm
    have H := he_15
    refine z_iload_n (M := M_X2_span) dX2_span_24 rfl ?_
    refine z_iconst (M := M_X2_span) dX2_span_25 ?_
    rcases if_e H with ⟨h_19, H⟩ | ⟨h_19, H⟩
    · refine z_icmp_ge_f (M := M_X2_span) (tgt := 48) dX2_span_26 (by decide) rfl (by decide +kernel) h_19 ?_
      refine z_aload_n (M := M_X2_span) dX2_span_29 rfl ?_
      have J_20 : YY l E M_X2_span 6 0 0 (pS (some (vi r)) σ') 40 [some (vr 238), some (vr into_0), some (vi x_3), none] [vi (if (w32 x_3) = 1 then 1 else 2), vr into_0] σ_5 0 0 := by
        refine z_iload_n (M := M_X2_span) dX2_span_40 rfl ?_
        obtain ⟨⟨x_23, σ_22⟩, hc_21, H⟩ := bd_e H
        refine z_callV (M := M_X2_span) (M' := M_X6_addShape) (as := [vi (if (w32 x_3) = 1 then 1 else 2), vi x_3]) (rest := []) rfl rfl dX2_span_41 m_X6_addShape t_2119 t_872 t_873 (c_X6_addShape hl h_into hc_21) rfl rfl (ly_S h_into) rfl (Nat.le_of_ble_eq_true rfl) (Nat.le_of_ble_eq_true rfl) (Nat.le_of_ble_eq_true rfl) (Nat.le_of_ble_eq_true rfl) ?_
        refine z_st (st' := [zv x_23]) rfl ?_
        refine z_pop (M := M_X2_span) dX2_span_44 rfl ?_
        refine z_goto (M := M_X2_span) (tgt := 63) dX2_span_45 (by decide) ?_
        exact J_35 _ (Option.some.inj H).symm
      refine z_iload_n (M := M_X2_span) dX2_span_30 rfl ?_
      refine z_iconst (M := M_X2_span) dX2_span_31 ?_
      by_cases h_25 : (w32 x_3) = 1
      · refine z_icmp_ne_f (M := M_X2_span) (tgt := 39) dX2_span_32 (by decide) rfl (by decide +kernel) h_25 ?_
        refine z_iconst (M := M_X2_span) dX2_span_35 ?_
        refine z_goto (M := M_X2_span) (tgt := 40) dX2_span_36 (by decide) ?_
        exact z_st (by rw [if_pos (c := (w32 x_3) = 1) h_25]) J_20
      · refine z_icmp_ne_t (M := M_X2_span) (tgt := 39) dX2_span_32 (by decide) rfl (by decide +kernel) h_25 ?_
        refine z_iconst (M := M_X2_span) dX2_span_39 ?_
        exact z_st (by rw [if_neg (c := (w32 x_3) = 1) h_25]) J_20
    · refine z_icmp_ge_t (M := M_X2_span) (tgt := 48) dX2_span_26 (by decide) rfl (by decide +kernel) (Int.not_lt.mp h_19) ?_
      refine z_aload_n (M := M_X2_span) dX2_span_48 rfl ?_
      refine z_iconst (M := M_X2_span) dX2_span_49 ?_
      refine z_iconst (M := M_X2_span) dX2_span_50 ?_
      obtain ⟨⟨x_28, σ_27⟩, hc_26, H⟩ := bd_e H
      refine z_callV (M := M_X2_span) (M' := M_X6_addShape) (as := [vi 3, vi 1]) (rest := []) rfl rfl dX2_span_51 m_X6_addShape t_2119 t_872 t_873 (c_X6_addShape hl h_into hc_26) rfl rfl (ly_S h_into) rfl (Nat.le_of_ble_eq_true rfl) (Nat.le_of_ble_eq_true rfl) (Nat.le_of_ble_eq_true rfl) (Nat.le_of_ble_eq_true rfl) ?_
      refine z_st (st' := [zv x_28]) rfl ?_
      refine z_pop (M := M_X2_span) dX2_span_54 rfl ?_
      refine z_aload_n (M := M_X2_span) dX2_span_55 rfl ?_
      refine z_iload_n (M := M_X2_span) dX2_span_56 rfl ?_
      refine z_iconst (M := M_X2_span) dX2_span_57 ?_
      refine z_iadd (M := M_X2_span) dX2_span_58 ?_
      obtain ⟨⟨x_31, σ_30⟩, hc_29, H⟩ := bd_e H
      refine z_callV (M := M_X2_span) (M' := M_X6_addRing) (as := [vi (x_3 + 1)]) (rest := []) rfl rfl dX2_span_59 m_X6_addRing t_2120 t_893 t_894 (c_X6_addRing hl h_into hc_29) rfl rfl (ly_S h_into) rfl (Nat.le_of_ble_eq_true rfl) (Nat.le_of_ble_eq_true rfl) (Nat.le_of_ble_eq_true rfl) (Nat.le_of_ble_eq_true rfl) ?_
      refine z_st (st' := [zv x_31]) rfl ?_
      refine z_pop (M := M_X2_span) dX2_span_62 rfl ?_
      exact J_35 _ (Option.some.inj H).symm
theorem c_X11_hull (hl : l.stackTraces = false) {σ : SG} {slot_0 : Int} {to_0 : Int} {r : Int ⊕ Nat} {σ' : SG}  (H : fQ_hull σ slot_0 to_0 = some (r, σ')) : en_S l E M_X11_hull 7 4 24 [vr 32, vi slot_0, vi to_0] σ (pT (riT r) σ') := by
  unfold fQ_hull at H
  refine z_mk (lv := [some (vr 32), some (vi slot_0), some (vi to_0), none, none]) m_X11_hull rfl hl (Nat.le_of_ble_eq_true rfl) rfl ?_
  refine z_aload_n (M := M_X11_hull) dX11_hull_0 rfl ?_
  refine z_iload_n (M := M_X11_hull) dX11_hull_1 rfl ?_
  obtain ⟨z_27, σ_2, hc_1, K_4, K_5⟩ := bt_e H
  rcases z_27 with x_3 | z_27
  · have H := K_4 _ rfl
    refine z_callV (M := M_X11_hull) (M' := M_X11_slotNumbered) (as := [vi slot_0]) (rest := []) rfl rfl dX11_hull_2 m_X11_slotNumbered t_744 t_746 s_2 (v := some (vr x_3)) (c_X11_slotNumbered hl  hc_1) rfl rfl ly_32 rfl (Nat.le_of_ble_eq_true rfl) (Nat.le_of_ble_eq_true rfl) (Nat.le_of_ble_eq_true rfl) (Nat.le_of_ble_eq_true rfl) ?_
    refine z_st (st' := [vr x_3]) rfl ?_
    obtain ⟨hs_6, H⟩ := ck_e H
    refine z_astore_n (M := M_X11_hull) (lv' := [some (vr 32), some (vi slot_0), some (vi to_0), some (vr x_3), none]) dX11_hull_5 (Nat.le_of_ble_eq_true rfl) rfl rfl ?_
    refine z_aload_n (M := M_X11_hull) dX11_hull_6 rfl ?_
    refine z_iload_n (M := M_X11_hull) dX11_hull_7 rfl ?_
    obtain ⟨z_26, σ_8, hc_7, K_10, K_11⟩ := bt_e H
    rcases z_26 with x_9 | z_26
    · have H := K_10 _ rfl
      refine z_callV (M := M_X11_hull) (M' := M_X11_slotNumbered) (as := [vi to_0]) (rest := []) rfl rfl dX11_hull_8 m_X11_slotNumbered t_744 t_746 s_2 (v := some (vr x_9)) (c_X11_slotNumbered hl  hc_7) rfl rfl ly_32 rfl (Nat.le_of_ble_eq_true rfl) (Nat.le_of_ble_eq_true rfl) (Nat.le_of_ble_eq_true rfl) (Nat.le_of_ble_eq_true rfl) ?_
      refine z_st (st' := [vr x_9]) rfl ?_
      obtain ⟨hs_12, H⟩ := ck_e H
      refine z_astore (M := M_X11_hull) (lv' := [some (vr 32), some (vi slot_0), some (vi to_0), some (vr x_3), some (vr x_9)]) dX11_hull_11 (Nat.le_of_ble_eq_true rfl) rfl rfl ?_
      refine z_aload_n (M := M_X11_hull) dX11_hull_13 rfl ?_
      obtain ⟨z_25, σ_14, hc_13, K_16, K_17⟩ := bt_e H
      rcases z_25 with x_15 | z_25
      · have H := K_16 _ rfl
        refine z_callS (M := M_X11_hull) (M' := M_X11_mustBeThere) (as := [vr x_3]) (rest := []) rfl rfl dX11_hull_14 m_X11_mustBeThere t_1047 t_1048 (v := none) (c_X11_mustBeThere hl hs_6 hc_13) rfl rfl (Nat.le_of_ble_eq_true rfl) (Nat.le_of_ble_eq_true rfl) (Nat.le_of_ble_eq_true rfl) (Nat.le_of_ble_eq_true rfl) ?_
        refine z_st (st' := []) rfl ?_
        refine z_aload_n (M := M_X11_hull) dX11_hull_17 rfl ?_
        refine z_getR (M := M_X11_hull) (ci := 14) (C := RX11) (T := TX11) (Nf := 19) (ty := tyX11) cl14 dX11_hull_18 ly_32 13 (by decide) t_576 rfl ?_
        refine z_aload_n (M := M_X11_hull) dX11_hull_21 rfl ?_
        obtain ⟨⟨x_20, σ_19⟩, hc_18, H⟩ := bd_e H
        refine z_callV (M := M_X11_hull) (M' := M_X2_gather) (as := [vr x_3]) (rest := []) rfl rfl dX11_hull_22 m_X2_gather t_2083 t_2084 t_2085 (c_X2_gather hl hs_6 hc_18) rfl rfl ly_238 rfl (Nat.le_of_ble_eq_true rfl) (Nat.le_of_ble_eq_true rfl) (Nat.le_of_ble_eq_true rfl) (Nat.le_of_ble_eq_true rfl) ?_
        refine z_st (st' := [zv x_20]) rfl ?_
        rcases if_e H with ⟨h_21, H⟩ | ⟨h_21, H⟩
        · refine z_zne_t (M := M_X11_hull) (tgt := 36) dX11_hull_25 (by decide) h_21 ?_
          refine z_aload_n (M := M_X11_hull) dX11_hull_36 rfl ?_
          refine z_getR (M := M_X11_hull) (ci := 14) (C := RX11) (T := TX11) (Nf := 19) (ty := tyX11) cl14 dX11_hull_37 ly_32 13 (by decide) t_576 rfl ?_
          refine z_aload (M := M_X11_hull) dX11_hull_40 rfl ?_
          obtain ⟨⟨x_24, σ_23⟩, hc_22, H⟩ := bd_e H
          refine z_callV (M := M_X11_hull) (M' := M_X2_span) (as := [vr x_9]) (rest := []) rfl rfl dX11_hull_42 m_X2_span t_2101 t_2102 t_2103 (c_X2_span hl hs_12 hc_22) rfl rfl ly_238 rfl (Nat.le_of_ble_eq_true rfl) (Nat.le_of_ble_eq_true rfl) (Nat.le_of_ble_eq_true rfl) (Nat.le_of_ble_eq_true rfl) ?_
          refine z_st (st' := [vi x_24]) rfl ?_
          cases H
          exact z_iret (M := M_X11_hull) dX11_hull_45 rfl (Nat.le_of_ble_eq_true rfl) (Nat.le_of_ble_eq_true rfl) ⟨rfl, rfl⟩
        · refine z_zne_f (M := M_X11_hull) (tgt := 36) dX11_hull_25 (by decide) h_21 ?_
          cases H
          exact z_throw (M := M_X11_hull) (names := en_nm) rfl dX11_hull_28 dX11_hull_31 dX11_hull_32 dX11_hull_35 (by decide +kernel) en_nm_ok (Or.inl t_1857) (Or.inl t_34) at_X11_UnsupportedOperationException_234 (Nat.le_of_ble_eq_true rfl) (Nat.le_of_ble_eq_true rfl) (Nat.le_of_ble_eq_true rfl) (Nat.le_of_ble_eq_true rfl) ⟨rfl, rfl⟩
      · have H := K_17 _ rfl
        cases H
        exact z_callSX (M := M_X11_hull) (M' := M_X11_mustBeThere) (as := [vr x_3]) (rest := []) rfl rfl dX11_hull_14 m_X11_mustBeThere t_1047 t_1048 (e := z_25) (c_X11_mustBeThere hl hs_6 hc_13) rfl rfl (Nat.le_of_ble_eq_true rfl) (Nat.le_of_ble_eq_true rfl) (Nat.le_of_ble_eq_true rfl) (Nat.le_of_ble_eq_true rfl) ⟨rfl, rfl⟩
    · have H := K_11 _ rfl
      cases H
      exact z_callVX (M := M_X11_hull) (M' := M_X11_slotNumbered) (as := [vi to_0]) (rest := []) rfl rfl dX11_hull_8 m_X11_slotNumbered t_744 t_746 s_2 (e := z_26) (c_X11_slotNumbered hl  hc_7) rfl rfl ly_32 rfl (Nat.le_of_ble_eq_true rfl) (Nat.le_of_ble_eq_true rfl) (Nat.le_of_ble_eq_true rfl) (Nat.le_of_ble_eq_true rfl) ⟨rfl, rfl⟩
  · have H := K_5 _ rfl
    cases H
    exact z_callVX (M := M_X11_hull) (M' := M_X11_slotNumbered) (as := [vi slot_0]) (rest := []) rfl rfl dX11_hull_2 m_X11_slotNumbered t_744 t_746 s_2 (e := z_27) (c_X11_slotNumbered hl  hc_1) rfl rfl ly_32 rfl (Nat.le_of_ble_eq_true rfl) (Nat.le_of_ble_eq_true rfl) (Nat.le_of_ble_eq_true rfl) (Nat.le_of_ble_eq_true rfl) ⟨rfl, rfl⟩
theorem c_X2_tellTriangles (hl : l.stackTraces = false) {σ : SG} {into_0 : Nat} {r : Int} {σ' : SG} (h_into : isS into_0) (H : fP_tellTriangles σ into_0 = some (r, σ')) : en_S l E M_X2_tellTriangles 2 0 0 [vr 238, vr into_0] σ (pS (some (vi r)) σ') := by
  unfold fP_tellTriangles at H
  refine z_mk (lv := [some (vr 238), some (vr into_0), none, none, none, none]) m_X2_tellTriangles rfl hl (Nat.le_of_ble_eq_true rfl) rfl ?_
  refine z_aload_n (M := M_X2_tellTriangles) dX2_tellTriangles_0 rfl ?_
  obtain ⟨σ_2, hc_1, H⟩ := bd_e H
  refine z_callV (M := M_X2_tellTriangles) (M' := M_X6_clear) (as := []) (rest := []) rfl rfl dX2_tellTriangles_1 m_X6_clear t_2118 t_768 t_769 (c_X6_clear hl h_into hc_1) rfl rfl (ly_S h_into) rfl (Nat.le_of_ble_eq_true rfl) (Nat.le_of_ble_eq_true rfl) (Nat.le_of_ble_eq_true rfl) (Nat.le_of_ble_eq_true rfl) ?_
  refine z_st (st' := []) rfl ?_
  refine z_aload_n (M := M_X2_tellTriangles) dX2_tellTriangles_4 rfl ?_
  refine z_bipush (M := M_X2_tellTriangles) dX2_tellTriangles_5 (by decide +kernel) ?_
  refine z_aload_n (M := M_X2_tellTriangles) dX2_tellTriangles_7 rfl ?_
  refine z_getI (M := M_X2_tellTriangles) (ci := 5) (C := RX2) (T := TX2) (Nf := 17) (ty := tyX2) cl5 dX2_tellTriangles_8 ly_238 14 (by decide) t_499 rfl rfl ?_
  obtain ⟨⟨x_5, σ_4⟩, hc_3, H⟩ := bd_e H
  refine z_callV (M := M_X2_tellTriangles) (M' := M_X6_addShape) (as := [vi 6, vi (σ_2 kP_triangleCount 0)]) (rest := []) rfl rfl dX2_tellTriangles_11 m_X6_addShape t_2119 t_872 t_873 (c_X6_addShape hl h_into hc_3) rfl rfl (ly_S h_into) rfl (Nat.le_of_ble_eq_true rfl) (Nat.le_of_ble_eq_true rfl) (Nat.le_of_ble_eq_true rfl) (Nat.le_of_ble_eq_true rfl) ?_
  refine z_st (st' := [zv x_5]) rfl ?_
  refine z_pop (M := M_X2_tellTriangles) dX2_tellTriangles_14 rfl ?_
  refine z_iconst (M := M_X2_tellTriangles) dX2_tellTriangles_15 ?_
  refine z_istore_n (M := M_X2_tellTriangles) (lv' := [some (vr 238), some (vr into_0), some (vi 0), none, none, none]) dX2_tellTriangles_16 (Nat.le_of_ble_eq_true rfl) rfl rfl ?_
  obtain ⟨rl_11, hw_8, hk_9⟩ := bd_e H
  have J_54 : ∀ i_52 σ_53, rl_11 = (i_52, σ_53) → YY l E M_X2_tellTriangles 2 0 0 (pS (some (vi r)) σ') 111 [some (vr 238), some (vr into_0), some (vi i_52), none, none, none] [] σ_53 0 0 := by
    intro i_52 σ_53 e
    have H := hk_9
    rw [e] at H
    refine z_aload_n (M := M_X2_tellTriangles) dX2_tellTriangles_111 rfl ?_
    refine z_getI (M := M_X2_tellTriangles) (ci := 5) (C := RX2) (T := TX2) (Nf := 17) (ty := tyX2) cl5 dX2_tellTriangles_112 ly_238 14 (by decide) t_499 rfl rfl ?_
    cases H
    exact z_iret (M := M_X2_tellTriangles) dX2_tellTriangles_115 rfl (Nat.le_of_ble_eq_true rfl) (Nat.le_of_ble_eq_true rfl) ⟨rfl, rfl⟩
  refine whl_go hw_8 (fun (i_6, σ_7) => YY l E M_X2_tellTriangles 2 0 0 (pS (some (vi r)) σ') 17 [some (vr 238), some (vr into_0), some (vi i_6), none, none, none] [] σ_7 0 0) ?_
  rintro ⟨i_6, σ_7⟩ o_12 H K_13 K_14
  refine z_iload_n (M := M_X2_tellTriangles) dX2_tellTriangles_17 rfl ?_
  refine z_aload_n (M := M_X2_tellTriangles) dX2_tellTriangles_18 rfl ?_
  refine z_getI (M := M_X2_tellTriangles) (ci := 5) (C := RX2) (T := TX2) (Nf := 17) (ty := tyX2) cl5 dX2_tellTriangles_19 ly_238 14 (by decide) t_499 rfl rfl ?_
  rcases if_e H with ⟨h_15, H⟩ | ⟨h_15, H⟩
  · refine z_icmp_ge_f (M := M_X2_tellTriangles) (tgt := 111) dX2_tellTriangles_22 (by decide) rfl rfl h_15 ?_
    refine z_aload_n (M := M_X2_tellTriangles) dX2_tellTriangles_25 rfl ?_
    refine z_iconst (M := M_X2_tellTriangles) dX2_tellTriangles_26 ?_
    refine z_iconst (M := M_X2_tellTriangles) dX2_tellTriangles_27 ?_
    obtain ⟨⟨x_18, σ_17⟩, hc_16, H⟩ := bd_e H
    refine z_callV (M := M_X2_tellTriangles) (M' := M_X6_addShape) (as := [vi 3, vi 1]) (rest := []) rfl rfl dX2_tellTriangles_28 m_X6_addShape t_2119 t_872 t_873 (c_X6_addShape hl h_into hc_16) rfl rfl (ly_S h_into) rfl (Nat.le_of_ble_eq_true rfl) (Nat.le_of_ble_eq_true rfl) (Nat.le_of_ble_eq_true rfl) (Nat.le_of_ble_eq_true rfl) ?_
    refine z_st (st' := [zv x_18]) rfl ?_
    refine z_pop (M := M_X2_tellTriangles) dX2_tellTriangles_31 rfl ?_
    refine z_aload_n (M := M_X2_tellTriangles) dX2_tellTriangles_32 rfl ?_
    refine z_iconst (M := M_X2_tellTriangles) dX2_tellTriangles_33 ?_
    obtain ⟨⟨x_21, σ_20⟩, hc_19, H⟩ := bd_e H
    refine z_callV (M := M_X2_tellTriangles) (M' := M_X6_addRing) (as := [vi 4]) (rest := []) rfl rfl dX2_tellTriangles_34 m_X6_addRing t_2120 t_893 t_894 (c_X6_addRing hl h_into hc_19) rfl rfl (ly_S h_into) rfl (Nat.le_of_ble_eq_true rfl) (Nat.le_of_ble_eq_true rfl) (Nat.le_of_ble_eq_true rfl) (Nat.le_of_ble_eq_true rfl) ?_
    refine z_st (st' := [zv x_21]) rfl ?_
    refine z_pop (M := M_X2_tellTriangles) dX2_tellTriangles_37 rfl ?_
    refine z_iconst (M := M_X2_tellTriangles) dX2_tellTriangles_38 ?_
    refine z_istore_n (M := M_X2_tellTriangles) (lv' := [some (vr 238), some (vr into_0), some (vi i_6), some (vi 2), none, none]) dX2_tellTriangles_39 (Nat.le_of_ble_eq_true rfl) rfl rfl ?_
    obtain ⟨rl_27, hw_24, hk_25⟩ := bd_e H
    have J_50 : ∀ k_47 σ_48, rl_27 = (k_47, σ_48) → YY l E M_X2_tellTriangles 2 0 0 (pS (some (vi r)) σ') 105 [some (vr 238), some (vr into_0), some (vi i_6), some (vi k_47), none, none] [] σ_48 0 0 := by
      intro k_47 σ_48 e
      have H := hk_25
      rw [e] at H
      refine z_iinc (M := M_X2_tellTriangles) (lv' := [some (vr 238), some (vr into_0), some (vi (i_6 + 1)), some (vi k_47), none, none]) dX2_tellTriangles_105 rfl (Nat.le_of_ble_eq_true rfl) rfl rfl ?_
      refine z_goto (M := M_X2_tellTriangles) (tgt := 17) dX2_tellTriangles_108 (by decide) ?_
      refine z_le (lv' := [some (vr 238), some (vr into_0), some (vi (i_6 + 1)), none, none, none]) ⟨Or.inr rfl, Or.inr rfl, Or.inr rfl, Or.inl rfl, Or.inl rfl, Or.inl rfl, trivial⟩ ?_
      exact K_13 _ (Option.some.inj H).symm
    refine whl_go hw_24 (fun (k_22, σ_23) => YY l E M_X2_tellTriangles 2 0 0 (pS (some (vi r)) σ') 40 [some (vr 238), some (vr into_0), some (vi i_6), some (vi k_22), none, none] [] σ_23 0 0) ?_
    rintro ⟨k_22, σ_23⟩ o_28 H K_29 K_30
    refine z_iload_n (M := M_X2_tellTriangles) dX2_tellTriangles_40 rfl ?_
    refine z_iconst (M := M_X2_tellTriangles) dX2_tellTriangles_41 ?_
    rcases if_e H with ⟨h_31, H⟩ | ⟨h_31, H⟩
    · refine z_icmp_lt_f (M := M_X2_tellTriangles) (tgt := 105) dX2_tellTriangles_42 (by decide) rfl (by decide +kernel) h_31 ?_
      refine z_bipush (M := M_X2_tellTriangles) dX2_tellTriangles_45 (by decide +kernel) ?_
      have J_32 : YY l E M_X2_tellTriangles 2 0 0 (pS (some (vi r)) σ') 56 [some (vr 238), some (vr into_0), some (vi i_6), some (vi k_22), none, none] [vi (if (w32 k_22) < 0 then 2 else k_22), vi 10] σ_23 0 0 := by
        refine z_imul (M := M_X2_tellTriangles) dX2_tellTriangles_56 ?_
        refine z_istore (M := M_X2_tellTriangles) (lv' := [some (vr 238), some (vr into_0), some (vi i_6), some (vi k_22), some (vi (10 * (if (w32 k_22) < 0 then 2 else k_22))), none]) dX2_tellTriangles_57 (Nat.le_of_ble_eq_true rfl) rfl rfl ?_
        refine z_aload_n (M := M_X2_tellTriangles) dX2_tellTriangles_59 rfl ?_
        refine z_getR (M := M_X2_tellTriangles) (ci := 5) (C := RX2) (T := TX2) (Nf := 17) (ty := tyX2) cl5 dX2_tellTriangles_60 ly_238 5 (by decide) t_490 rfl ?_
        refine z_aload_n (M := M_X2_tellTriangles) dX2_tellTriangles_63 rfl ?_
        refine z_getR (M := M_X2_tellTriangles) (ci := 5) (C := RX2) (T := TX2) (Nf := 17) (ty := tyX2) cl5 dX2_tellTriangles_64 ly_238 13 (by decide) t_498 rfl ?_
        refine z_iload_n (M := M_X2_tellTriangles) dX2_tellTriangles_67 rfl ?_
        obtain ⟨x_33, x_33_e, hi_34, H⟩ := rd_e H
        refine z_lald (M := M_X2_tellTriangles) dX2_tellTriangles_68 ly_249 rfl rfl rfl hi_34 x_33_e ?_
        refine z_iload (M := M_X2_tellTriangles) dX2_tellTriangles_69 rfl ?_
        refine z_lshr (M := M_X2_tellTriangles) dX2_tellTriangles_71 ?_
        refine z_l2i (M := M_X2_tellTriangles) dX2_tellTriangles_72 ?_
        refine z_sipush (M := M_X2_tellTriangles) dX2_tellTriangles_73 (by decide +kernel) ?_
        refine z_iand (M := M_X2_tellTriangles) dX2_tellTriangles_76 ?_
        obtain ⟨x_35, x_35_e, hi_36, H⟩ := rd_e H
        refine z_iald (M := M_X2_tellTriangles) dX2_tellTriangles_77 ly_243 rfl rfl rfl hi_36 x_35_e ?_
        refine z_istore (M := M_X2_tellTriangles) (lv' := [some (vr 238), some (vr into_0), some (vi i_6), some (vi k_22), some (vi (10 * (if (w32 k_22) < 0 then 2 else k_22))), some (vi x_35)]) dX2_tellTriangles_78 (Nat.le_of_ble_eq_true rfl) rfl rfl ?_
        refine z_aload_n (M := M_X2_tellTriangles) dX2_tellTriangles_80 rfl ?_
        refine z_aload_n (M := M_X2_tellTriangles) dX2_tellTriangles_81 rfl ?_
        refine z_getR (M := M_X2_tellTriangles) (ci := 5) (C := RX2) (T := TX2) (Nf := 17) (ty := tyX2) cl5 dX2_tellTriangles_82 ly_238 1 (by decide) t_486 rfl ?_
        refine z_iload (M := M_X2_tellTriangles) dX2_tellTriangles_85 rfl ?_
        obtain ⟨x_37, x_37_e, hi_38, H⟩ := rd_e H
        refine z_iald (M := M_X2_tellTriangles) dX2_tellTriangles_87 ly_240 rfl rfl rfl hi_38 x_37_e ?_
        refine z_aload_n (M := M_X2_tellTriangles) dX2_tellTriangles_88 rfl ?_
        refine z_getR (M := M_X2_tellTriangles) (ci := 5) (C := RX2) (T := TX2) (Nf := 17) (ty := tyX2) cl5 dX2_tellTriangles_89 ly_238 2 (by decide) t_487 rfl ?_
        refine z_iload (M := M_X2_tellTriangles) dX2_tellTriangles_92 rfl ?_
        obtain ⟨x_39, x_39_e, hi_40, H⟩ := rd_e H
        refine z_iald (M := M_X2_tellTriangles) dX2_tellTriangles_94 ly_241 rfl rfl rfl hi_40 x_39_e ?_
        obtain ⟨⟨x_43, σ_42⟩, hc_41, H⟩ := bd_e H
        refine z_callV (M := M_X2_tellTriangles) (M' := M_X6_addPoint) (as := [vi x_37, vi x_39]) (rest := []) rfl rfl dX2_tellTriangles_95 m_X6_addPoint t_2121 t_938 t_939 (c_X6_addPoint hl h_into hc_41) rfl rfl (ly_S h_into) rfl (Nat.le_of_ble_eq_true rfl) (Nat.le_of_ble_eq_true rfl) (Nat.le_of_ble_eq_true rfl) (Nat.le_of_ble_eq_true rfl) ?_
        refine z_st (st' := [zv x_43]) rfl ?_
        refine z_pop (M := M_X2_tellTriangles) dX2_tellTriangles_98 rfl ?_
        refine z_iinc (M := M_X2_tellTriangles) (lv' := [some (vr 238), some (vr into_0), some (vi i_6), some (vi (k_22 + (-1))), some (vi (10 * (if (w32 k_22) < 0 then 2 else k_22))), some (vi x_35)]) dX2_tellTriangles_99 rfl (Nat.le_of_ble_eq_true rfl) rfl rfl ?_
        refine z_goto (M := M_X2_tellTriangles) (tgt := 40) dX2_tellTriangles_102 (by decide) ?_
        refine z_le (lv' := [some (vr 238), some (vr into_0), some (vi i_6), some (vi (k_22 + (-1))), none, none]) ⟨Or.inr rfl, Or.inr rfl, Or.inr rfl, Or.inr rfl, Or.inl rfl, Or.inl rfl, trivial⟩ ?_
        exact K_29 _ (Option.some.inj H).symm
      refine z_iload_n (M := M_X2_tellTriangles) dX2_tellTriangles_47 rfl ?_
      by_cases h_45 : (w32 k_22) < 0
      · refine z_if_ge_f (M := M_X2_tellTriangles) (tgt := 55) dX2_tellTriangles_48 (by decide) rfl h_45 ?_
        refine z_iconst (M := M_X2_tellTriangles) dX2_tellTriangles_51 ?_
        refine z_goto (M := M_X2_tellTriangles) (tgt := 56) dX2_tellTriangles_52 (by decide) ?_
        exact z_st (by rw [if_pos (c := (w32 k_22) < 0) h_45]) J_32
      · refine z_if_ge_t (M := M_X2_tellTriangles) (tgt := 55) dX2_tellTriangles_48 (by decide) rfl (Int.not_lt.mp h_45) ?_
        refine z_iload_n (M := M_X2_tellTriangles) dX2_tellTriangles_55 rfl ?_
        exact z_st (by rw [if_neg (c := (w32 k_22) < 0) h_45]) J_32
    · refine z_icmp_lt_t (M := M_X2_tellTriangles) (tgt := 105) dX2_tellTriangles_42 (by decide) rfl (by decide +kernel) (Int.not_le.mp h_31) ?_
      exact J_50 _ _ (K_30 _ (Option.some.inj H).symm).symm
  · refine z_icmp_ge_t (M := M_X2_tellTriangles) (tgt := 111) dX2_tellTriangles_22 (by decide) rfl rfl (Int.not_lt.mp h_15) ?_
    exact J_54 _ _ (K_14 _ (Option.some.inj H).symm).symm
theorem c_J7_fill_bad5a (hl : l.stackTraces = false) {σ : SG} {a_0 : Nat} {a_n : Nat} {fromIndex_0 : Int} {toIndex_0 : Int} {val_0 : Int} {σ' : SG} (h_a : lay a_0 = some (.inr (1, a_n, 0, 0))) (H : fU_fillJR σ a_0 a_n fromIndex_0 toIndex_0 val_0 = some σ') : en_S l E M_J7_fill_bad5a 2 0 0 [vr a_0, vi fromIndex_0, vi toIndex_0, vl val_0] σ (pS (none) σ') := by
  unfold fU_fillJR at H
  refine z_mk (lv := [some (vr a_0), some (vi fromIndex_0), some (vi toIndex_0), some (vl val_0), none, none]) m_J7_fill_bad5a rfl hl (Nat.le_of_ble_eq_true rfl) rfl ?_
  refine z_aload_n (M := M_J7_fill_bad5a) dJ7_fill_bad5a_0 rfl ?_
  refine z_alen (M := M_J7_fill_bad5a) (N := (a_n : Int)) dJ7_fill_bad5a_1 h_a (by decide) rfl ?_
  refine z_iload_n (M := M_J7_fill_bad5a) dJ7_fill_bad5a_2 rfl ?_
  refine z_iload_n (M := M_J7_fill_bad5a) dJ7_fill_bad5a_3 rfl ?_
  obtain ⟨_, hc_1, H⟩ := bd_e H
  refine z_callS (M := M_J7_fill_bad5a) (M' := M_J7_rangeCheck_23922) (as := [vi (a_n : Int), vi fromIndex_0, vi toIndex_0]) (rest := []) rfl rfl dJ7_fill_bad5a_4 m_J7_rangeCheck_23922 t_1524 t_1525 (c_J7_rangeCheck_23922 hl  hc_1) rfl rfl (Nat.le_of_ble_eq_true rfl) (Nat.le_of_ble_eq_true rfl) (Nat.le_of_ble_eq_true rfl) (Nat.le_of_ble_eq_true rfl) ?_
  refine z_st (st' := []) rfl ?_
  refine z_iload_n (M := M_J7_fill_bad5a) dJ7_fill_bad5a_7 rfl ?_
  refine z_istore (M := M_J7_fill_bad5a) (lv' := [some (vr a_0), some (vi fromIndex_0), some (vi toIndex_0), some (vl val_0), none, some (vi fromIndex_0)]) dJ7_fill_bad5a_8 (Nat.le_of_ble_eq_true rfl) rfl rfl ?_
  obtain ⟨rl_7, hw_4, hk_5⟩ := bd_e H
  have J_18 : ∀ i_16 σ_17, rl_7 = (i_16, σ_17) → YY l E M_J7_fill_bad5a 2 0 0 (pS (none) σ') 27 [some (vr a_0), some (vi fromIndex_0), some (vi toIndex_0), some (vl val_0), none, some (vi i_16)] [] σ_17 0 0 := by
    intro i_16 σ_17 e
    have H := hk_5
    rw [e] at H
    cases H
    exact z_vret (M := M_J7_fill_bad5a) dJ7_fill_bad5a_27 rfl (Nat.le_of_ble_eq_true rfl) (Nat.le_of_ble_eq_true rfl) ⟨rfl, rfl⟩
  refine whl_go hw_4 (fun (i_2, σ_3) => YY l E M_J7_fill_bad5a 2 0 0 (pS (none) σ') 10 [some (vr a_0), some (vi fromIndex_0), some (vi toIndex_0), some (vl val_0), none, some (vi i_2)] [] σ_3 0 0) ?_
  rintro ⟨i_2, σ_3⟩ o_8 H K_9 K_10
  refine z_iload (M := M_J7_fill_bad5a) dJ7_fill_bad5a_10 rfl ?_
  refine z_iload_n (M := M_J7_fill_bad5a) dJ7_fill_bad5a_12 rfl ?_
  rcases if_e H with ⟨h_11, H⟩ | ⟨h_11, H⟩
  · refine z_icmp_ge_f (M := M_J7_fill_bad5a) (tgt := 27) dJ7_fill_bad5a_13 (by decide) rfl rfl h_11 ?_
    refine z_aload_n (M := M_J7_fill_bad5a) dJ7_fill_bad5a_16 rfl ?_
    refine z_iload (M := M_J7_fill_bad5a) dJ7_fill_bad5a_17 rfl ?_
    refine z_lload_n (M := M_J7_fill_bad5a) dJ7_fill_bad5a_19 rfl ?_
    obtain ⟨σ_12, σ_12_e, hi_13, H⟩ := wa_e H
    refine z_last (M := M_J7_fill_bad5a) dJ7_fill_bad5a_20 h_a rfl rfl rfl hi_13 σ_12_e ?_
    refine z_iinc (M := M_J7_fill_bad5a) (lv' := [some (vr a_0), some (vi fromIndex_0), some (vi toIndex_0), some (vl val_0), none, some (vi (i_2 + 1))]) dJ7_fill_bad5a_21 rfl (Nat.le_of_ble_eq_true rfl) rfl rfl ?_
    refine z_goto (M := M_J7_fill_bad5a) (tgt := 10) dJ7_fill_bad5a_24 (by decide) ?_
    exact K_9 _ (Option.some.inj H).symm
  · refine z_icmp_ge_t (M := M_J7_fill_bad5a) (tgt := 27) dJ7_fill_bad5a_13 (by decide) rfl rfl (Int.not_lt.mp h_11) ?_
    exact J_18 _ _ (K_10 _ (Option.some.inj H).symm).symm
theorem c_X2_areOnOneLine (hl : l.stackTraces = false) {σ : SG} {r : Bool}  (H : fP_areOnOneLine σ = some r) : en_S l E M_X2_areOnOneLine 4 0 0 [vr 238] σ (pS (some (zv r)) σ) := by
  unfold fP_areOnOneLine at H
  refine z_mk (lv := [some (vr 238), none]) m_X2_areOnOneLine rfl hl (Nat.le_of_ble_eq_true rfl) rfl ?_
  refine z_iconst (M := M_X2_areOnOneLine) dX2_areOnOneLine_0 ?_
  refine z_istore_n (M := M_X2_areOnOneLine) (lv' := [some (vr 238), some (vi 2)]) dX2_areOnOneLine_1 (Nat.le_of_ble_eq_true rfl) rfl rfl ?_
  obtain ⟨rl_5, hw_2, hk_3, hk_4⟩ := bx_e H
  have J_16 : ∀ i_15, rl_5 = (.inl i_15) → YY l E M_X2_areOnOneLine 4 0 0 (pS (some (zv r)) σ) 28 [some (vr 238), some (vi i_15)] [] σ 0 0 := by
    intro i_15 e
    have H := hk_3 _ e
    refine z_zconst (M := M_X2_areOnOneLine) (b := true) dX2_areOnOneLine_28 rfl ?_
    cases H
    exact z_zret (M := M_X2_areOnOneLine) dX2_areOnOneLine_29 rfl (Nat.le_of_ble_eq_true rfl) (Nat.le_of_ble_eq_true rfl) ⟨rfl, rfl⟩
  refine whl_go hw_2 (fun i_1 => YY l E M_X2_areOnOneLine 4 0 0 (pS (some (zv r)) σ) 2 [some (vr 238), some (vi i_1)] [] σ 0 0) ?_
  rintro i_1 o_6 H K_7 K_8
  refine z_iload_n (M := M_X2_areOnOneLine) dX2_areOnOneLine_2 rfl ?_
  refine z_aload_n (M := M_X2_areOnOneLine) dX2_areOnOneLine_3 rfl ?_
  refine z_getI (M := M_X2_areOnOneLine) (ci := 5) (C := RX2) (T := TX2) (Nf := 17) (ty := tyX2) cl5 dX2_areOnOneLine_4 ly_238 3 (by decide) t_488 rfl rfl ?_
  rcases if_e H with ⟨h_9, H⟩ | ⟨h_9, H⟩
  · refine z_icmp_ge_f (M := M_X2_areOnOneLine) (tgt := 28) dX2_areOnOneLine_7 (by decide) rfl rfl h_9 ?_
    refine z_aload_n (M := M_X2_areOnOneLine) dX2_areOnOneLine_10 rfl ?_
    refine z_iconst (M := M_X2_areOnOneLine) dX2_areOnOneLine_11 ?_
    refine z_iconst (M := M_X2_areOnOneLine) dX2_areOnOneLine_12 ?_
    refine z_iload_n (M := M_X2_areOnOneLine) dX2_areOnOneLine_13 rfl ?_
    obtain ⟨x_11, hc_10, H⟩ := bd_e H
    refine z_callV (M := M_X2_areOnOneLine) (M' := M_X2_turnAt) (as := [vi 0, vi 1, vi i_1]) (rest := []) rfl rfl dX2_areOnOneLine_14 m_X2_turnAt t_2113 t_2115 s_132 (c_X2_turnAt hl  hc_10) rfl rfl ly_238 rfl (Nat.le_of_ble_eq_true rfl) (Nat.le_of_ble_eq_true rfl) (Nat.le_of_ble_eq_true rfl) (Nat.le_of_ble_eq_true rfl) ?_
    refine z_st (st' := [vi x_11]) rfl ?_
    rcases if_e H with ⟨h_12, H⟩ | ⟨h_12, H⟩
    · refine z_if_eq_f (M := M_X2_areOnOneLine) (tgt := 22) dX2_areOnOneLine_17 (by decide) rfl h_12 ?_
      refine z_zconst (M := M_X2_areOnOneLine) (b := false) dX2_areOnOneLine_20 rfl ?_
      have H := congrArg some (hk_4 _ ((K_8 _ (Option.some.inj H).symm).symm))
      cases H
      exact z_zret (M := M_X2_areOnOneLine) dX2_areOnOneLine_21 rfl (Nat.le_of_ble_eq_true rfl) (Nat.le_of_ble_eq_true rfl) ⟨rfl, rfl⟩
    · refine z_if_eq_t (M := M_X2_areOnOneLine) (tgt := 22) dX2_areOnOneLine_17 (by decide) rfl (Decidable.not_not.mp h_12) ?_
      refine z_iinc (M := M_X2_areOnOneLine) (lv' := [some (vr 238), some (vi (i_1 + 1))]) dX2_areOnOneLine_22 rfl (Nat.le_of_ble_eq_true rfl) rfl rfl ?_
      refine z_goto (M := M_X2_areOnOneLine) (tgt := 2) dX2_areOnOneLine_25 (by decide) ?_
      exact K_7 _ (Option.some.inj H).symm
  · refine z_icmp_ge_t (M := M_X2_areOnOneLine) (tgt := 28) dX2_areOnOneLine_7 (by decide) rfl rfl (Int.not_lt.mp h_9) ?_
    exact J_16 _ (K_8 _ (Option.some.inj H).symm).symm
theorem c_X2_circleSign (hl : l.stackTraces = false) {σ : SG} {a_0 : Int} {b_0 : Int} {c_0 : Int} {d_0 : Int} {r : Int}  (H : fP_circleSign σ a_0 b_0 c_0 d_0 = some r) : en_S l E M_X2_circleSign 3 0 0 [vr 238, vi a_0, vi b_0, vi c_0, vi d_0] σ (pS (some (vi r)) σ) := by
  unfold fP_circleSign at H
  refine z_mk (lv := [some (vr 238), some (vi a_0), some (vi b_0), some (vi c_0), some (vi d_0), none, none, none, none, none, none, none, none, none, none, none, none]) m_X2_circleSign rfl hl (Nat.le_of_ble_eq_true rfl) rfl ?_
  refine z_aload_n (M := M_X2_circleSign) dX2_circleSign_0 rfl ?_
  refine z_getR (M := M_X2_circleSign) (ci := 5) (C := RX2) (T := TX2) (Nf := 17) (ty := tyX2) cl5 dX2_circleSign_1 ly_238 1 (by decide) t_486 rfl ?_
  refine z_iload_n (M := M_X2_circleSign) dX2_circleSign_4 rfl ?_
  obtain ⟨x_1, x_1_e, hi_2, H⟩ := rd_e H
  refine z_iald (M := M_X2_circleSign) dX2_circleSign_5 ly_240 rfl rfl rfl hi_2 x_1_e ?_
  refine z_i2l (M := M_X2_circleSign) dX2_circleSign_6 ?_
  refine z_aload_n (M := M_X2_circleSign) dX2_circleSign_7 rfl ?_
  refine z_getR (M := M_X2_circleSign) (ci := 5) (C := RX2) (T := TX2) (Nf := 17) (ty := tyX2) cl5 dX2_circleSign_8 ly_238 1 (by decide) t_486 rfl ?_
  refine z_iload (M := M_X2_circleSign) dX2_circleSign_11 rfl ?_
  obtain ⟨x_3, x_3_e, hi_4, H⟩ := rd_e H
  refine z_iald (M := M_X2_circleSign) dX2_circleSign_13 ly_240 rfl rfl rfl hi_4 x_3_e ?_
  refine z_i2l (M := M_X2_circleSign) dX2_circleSign_14 ?_
  refine z_lsub (M := M_X2_circleSign) dX2_circleSign_15 ?_
  refine z_lstore (M := M_X2_circleSign) (lv' := [some (vr 238), some (vi a_0), some (vi b_0), some (vi c_0), some (vi d_0), some (vl ((w32 x_1) - (w32 x_3))), none, none, none, none, none, none, none, none, none, none, none]) dX2_circleSign_16 (Nat.le_of_ble_eq_true rfl) rfl rfl ?_
  refine z_aload_n (M := M_X2_circleSign) dX2_circleSign_18 rfl ?_
  refine z_getR (M := M_X2_circleSign) (ci := 5) (C := RX2) (T := TX2) (Nf := 17) (ty := tyX2) cl5 dX2_circleSign_19 ly_238 2 (by decide) t_487 rfl ?_
  refine z_iload_n (M := M_X2_circleSign) dX2_circleSign_22 rfl ?_
  obtain ⟨x_5, x_5_e, hi_6, H⟩ := rd_e H
  refine z_iald (M := M_X2_circleSign) dX2_circleSign_23 ly_241 rfl rfl rfl hi_6 x_5_e ?_
  refine z_i2l (M := M_X2_circleSign) dX2_circleSign_24 ?_
  refine z_aload_n (M := M_X2_circleSign) dX2_circleSign_25 rfl ?_
  refine z_getR (M := M_X2_circleSign) (ci := 5) (C := RX2) (T := TX2) (Nf := 17) (ty := tyX2) cl5 dX2_circleSign_26 ly_238 2 (by decide) t_487 rfl ?_
  refine z_iload (M := M_X2_circleSign) dX2_circleSign_29 rfl ?_
  obtain ⟨x_7, x_7_e, hi_8, H⟩ := rd_e H
  refine z_iald (M := M_X2_circleSign) dX2_circleSign_31 ly_241 rfl rfl rfl hi_8 x_7_e ?_
  refine z_i2l (M := M_X2_circleSign) dX2_circleSign_32 ?_
  refine z_lsub (M := M_X2_circleSign) dX2_circleSign_33 ?_
  refine z_lstore (M := M_X2_circleSign) (lv' := [some (vr 238), some (vi a_0), some (vi b_0), some (vi c_0), some (vi d_0), some (vl ((w32 x_1) - (w32 x_3))), none, some (vl ((w32 x_5) - (w32 x_7))), none, none, none, none, none, none, none, none, none]) dX2_circleSign_34 (Nat.le_of_ble_eq_true rfl) rfl rfl ?_
  refine z_aload_n (M := M_X2_circleSign) dX2_circleSign_36 rfl ?_
  refine z_getR (M := M_X2_circleSign) (ci := 5) (C := RX2) (T := TX2) (Nf := 17) (ty := tyX2) cl5 dX2_circleSign_37 ly_238 1 (by decide) t_486 rfl ?_
  refine z_iload_n (M := M_X2_circleSign) dX2_circleSign_40 rfl ?_
  obtain ⟨x_9, x_9_e, hi_10, H⟩ := rd_e H
  refine z_iald (M := M_X2_circleSign) dX2_circleSign_41 ly_240 rfl rfl rfl hi_10 x_9_e ?_
  refine z_i2l (M := M_X2_circleSign) dX2_circleSign_42 ?_
  refine z_aload_n (M := M_X2_circleSign) dX2_circleSign_43 rfl ?_
  refine z_getR (M := M_X2_circleSign) (ci := 5) (C := RX2) (T := TX2) (Nf := 17) (ty := tyX2) cl5 dX2_circleSign_44 ly_238 1 (by decide) t_486 rfl ?_
  refine z_iload (M := M_X2_circleSign) dX2_circleSign_47 rfl ?_
  obtain ⟨x_11, x_11_e, hi_12, H⟩ := rd_e H
  refine z_iald (M := M_X2_circleSign) dX2_circleSign_49 ly_240 rfl rfl rfl hi_12 x_11_e ?_
  refine z_i2l (M := M_X2_circleSign) dX2_circleSign_50 ?_
  refine z_lsub (M := M_X2_circleSign) dX2_circleSign_51 ?_
  refine z_lstore (M := M_X2_circleSign) (lv' := [some (vr 238), some (vi a_0), some (vi b_0), some (vi c_0), some (vi d_0), some (vl ((w32 x_1) - (w32 x_3))), none, some (vl ((w32 x_5) - (w32 x_7))), none, some (vl ((w32 x_9) - (w32 x_11))), none, none, none, none, none, none, none]) dX2_circleSign_52 (Nat.le_of_ble_eq_true rfl) rfl rfl ?_
  refine z_aload_n (M := M_X2_circleSign) dX2_circleSign_54 rfl ?_
  refine z_getR (M := M_X2_circleSign) (ci := 5) (C := RX2) (T := TX2) (Nf := 17) (ty := tyX2) cl5 dX2_circleSign_55 ly_238 2 (by decide) t_487 rfl ?_
  refine z_iload_n (M := M_X2_circleSign) dX2_circleSign_58 rfl ?_
  obtain ⟨x_13, x_13_e, hi_14, H⟩ := rd_e H
  refine z_iald (M := M_X2_circleSign) dX2_circleSign_59 ly_241 rfl rfl rfl hi_14 x_13_e ?_
  refine z_i2l (M := M_X2_circleSign) dX2_circleSign_60 ?_
  refine z_aload_n (M := M_X2_circleSign) dX2_circleSign_61 rfl ?_
  refine z_getR (M := M_X2_circleSign) (ci := 5) (C := RX2) (T := TX2) (Nf := 17) (ty := tyX2) cl5 dX2_circleSign_62 ly_238 2 (by decide) t_487 rfl ?_
  refine z_iload (M := M_X2_circleSign) dX2_circleSign_65 rfl ?_
  obtain ⟨x_15, x_15_e, hi_16, H⟩ := rd_e H
  refine z_iald (M := M_X2_circleSign) dX2_circleSign_67 ly_241 rfl rfl rfl hi_16 x_15_e ?_
  refine z_i2l (M := M_X2_circleSign) dX2_circleSign_68 ?_
  refine z_lsub (M := M_X2_circleSign) dX2_circleSign_69 ?_
  refine z_lstore (M := M_X2_circleSign) (lv' := [some (vr 238), some (vi a_0), some (vi b_0), some (vi c_0), some (vi d_0), some (vl ((w32 x_1) - (w32 x_3))), none, some (vl ((w32 x_5) - (w32 x_7))), none, some (vl ((w32 x_9) - (w32 x_11))), none, some (vl ((w32 x_13) - (w32 x_15))), none, none, none, none, none]) dX2_circleSign_70 (Nat.le_of_ble_eq_true rfl) rfl rfl ?_
  refine z_aload_n (M := M_X2_circleSign) dX2_circleSign_72 rfl ?_
  refine z_getR (M := M_X2_circleSign) (ci := 5) (C := RX2) (T := TX2) (Nf := 17) (ty := tyX2) cl5 dX2_circleSign_73 ly_238 1 (by decide) t_486 rfl ?_
  refine z_iload_n (M := M_X2_circleSign) dX2_circleSign_76 rfl ?_
  obtain ⟨x_17, x_17_e, hi_18, H⟩ := rd_e H
  refine z_iald (M := M_X2_circleSign) dX2_circleSign_77 ly_240 rfl rfl rfl hi_18 x_17_e ?_
  refine z_i2l (M := M_X2_circleSign) dX2_circleSign_78 ?_
  refine z_aload_n (M := M_X2_circleSign) dX2_circleSign_79 rfl ?_
  refine z_getR (M := M_X2_circleSign) (ci := 5) (C := RX2) (T := TX2) (Nf := 17) (ty := tyX2) cl5 dX2_circleSign_80 ly_238 1 (by decide) t_486 rfl ?_
  refine z_iload (M := M_X2_circleSign) dX2_circleSign_83 rfl ?_
  obtain ⟨x_19, x_19_e, hi_20, H⟩ := rd_e H
  refine z_iald (M := M_X2_circleSign) dX2_circleSign_85 ly_240 rfl rfl rfl hi_20 x_19_e ?_
  refine z_i2l (M := M_X2_circleSign) dX2_circleSign_86 ?_
  refine z_lsub (M := M_X2_circleSign) dX2_circleSign_87 ?_
  refine z_lstore (M := M_X2_circleSign) (lv' := [some (vr 238), some (vi a_0), some (vi b_0), some (vi c_0), some (vi d_0), some (vl ((w32 x_1) - (w32 x_3))), none, some (vl ((w32 x_5) - (w32 x_7))), none, some (vl ((w32 x_9) - (w32 x_11))), none, some (vl ((w32 x_13) - (w32 x_15))), none, some (vl ((w32 x_17) - (w32 x_19))), none, none, none]) dX2_circleSign_88 (Nat.le_of_ble_eq_true rfl) rfl rfl ?_
  refine z_aload_n (M := M_X2_circleSign) dX2_circleSign_90 rfl ?_
  refine z_getR (M := M_X2_circleSign) (ci := 5) (C := RX2) (T := TX2) (Nf := 17) (ty := tyX2) cl5 dX2_circleSign_91 ly_238 2 (by decide) t_487 rfl ?_
  refine z_iload_n (M := M_X2_circleSign) dX2_circleSign_94 rfl ?_
  obtain ⟨x_21, x_21_e, hi_22, H⟩ := rd_e H
  refine z_iald (M := M_X2_circleSign) dX2_circleSign_95 ly_241 rfl rfl rfl hi_22 x_21_e ?_
  refine z_i2l (M := M_X2_circleSign) dX2_circleSign_96 ?_
  refine z_aload_n (M := M_X2_circleSign) dX2_circleSign_97 rfl ?_
  refine z_getR (M := M_X2_circleSign) (ci := 5) (C := RX2) (T := TX2) (Nf := 17) (ty := tyX2) cl5 dX2_circleSign_98 ly_238 2 (by decide) t_487 rfl ?_
  refine z_iload (M := M_X2_circleSign) dX2_circleSign_101 rfl ?_
  obtain ⟨x_23, x_23_e, hi_24, H⟩ := rd_e H
  refine z_iald (M := M_X2_circleSign) dX2_circleSign_103 ly_241 rfl rfl rfl hi_24 x_23_e ?_
  refine z_i2l (M := M_X2_circleSign) dX2_circleSign_104 ?_
  refine z_lsub (M := M_X2_circleSign) dX2_circleSign_105 ?_
  refine z_lstore (M := M_X2_circleSign) (lv' := [some (vr 238), some (vi a_0), some (vi b_0), some (vi c_0), some (vi d_0), some (vl ((w32 x_1) - (w32 x_3))), none, some (vl ((w32 x_5) - (w32 x_7))), none, some (vl ((w32 x_9) - (w32 x_11))), none, some (vl ((w32 x_13) - (w32 x_15))), none, some (vl ((w32 x_17) - (w32 x_19))), none, some (vl ((w32 x_21) - (w32 x_23))), none]) dX2_circleSign_106 (Nat.le_of_ble_eq_true rfl) rfl rfl ?_
  refine z_lload (M := M_X2_circleSign) dX2_circleSign_108 rfl ?_
  refine z_lload (M := M_X2_circleSign) dX2_circleSign_110 rfl ?_
  refine z_lmul (M := M_X2_circleSign) dX2_circleSign_112 ?_
  refine z_lload (M := M_X2_circleSign) dX2_circleSign_113 rfl ?_
  refine z_lload (M := M_X2_circleSign) dX2_circleSign_115 rfl ?_
  refine z_lmul (M := M_X2_circleSign) dX2_circleSign_117 ?_
  refine z_ladd (M := M_X2_circleSign) dX2_circleSign_118 ?_
  refine z_lload (M := M_X2_circleSign) dX2_circleSign_119 rfl ?_
  refine z_lload (M := M_X2_circleSign) dX2_circleSign_121 rfl ?_
  refine z_lmul (M := M_X2_circleSign) dX2_circleSign_123 ?_
  refine z_lload (M := M_X2_circleSign) dX2_circleSign_124 rfl ?_
  refine z_lload (M := M_X2_circleSign) dX2_circleSign_126 rfl ?_
  refine z_lmul (M := M_X2_circleSign) dX2_circleSign_128 ?_
  refine z_lsub (M := M_X2_circleSign) dX2_circleSign_129 ?_
  refine z_lload (M := M_X2_circleSign) dX2_circleSign_130 rfl ?_
  refine z_lload (M := M_X2_circleSign) dX2_circleSign_132 rfl ?_
  refine z_lmul (M := M_X2_circleSign) dX2_circleSign_134 ?_
  refine z_lload (M := M_X2_circleSign) dX2_circleSign_135 rfl ?_
  refine z_lload (M := M_X2_circleSign) dX2_circleSign_137 rfl ?_
  refine z_lmul (M := M_X2_circleSign) dX2_circleSign_139 ?_
  refine z_ladd (M := M_X2_circleSign) dX2_circleSign_140 ?_
  refine z_lload (M := M_X2_circleSign) dX2_circleSign_141 rfl ?_
  refine z_lload (M := M_X2_circleSign) dX2_circleSign_143 rfl ?_
  refine z_lmul (M := M_X2_circleSign) dX2_circleSign_145 ?_
  refine z_lload (M := M_X2_circleSign) dX2_circleSign_146 rfl ?_
  refine z_lload (M := M_X2_circleSign) dX2_circleSign_148 rfl ?_
  refine z_lmul (M := M_X2_circleSign) dX2_circleSign_150 ?_
  refine z_lsub (M := M_X2_circleSign) dX2_circleSign_151 ?_
  refine z_lload (M := M_X2_circleSign) dX2_circleSign_152 rfl ?_
  refine z_lload (M := M_X2_circleSign) dX2_circleSign_154 rfl ?_
  refine z_lmul (M := M_X2_circleSign) dX2_circleSign_156 ?_
  refine z_lload (M := M_X2_circleSign) dX2_circleSign_157 rfl ?_
  refine z_lload (M := M_X2_circleSign) dX2_circleSign_159 rfl ?_
  refine z_lmul (M := M_X2_circleSign) dX2_circleSign_161 ?_
  refine z_ladd (M := M_X2_circleSign) dX2_circleSign_162 ?_
  refine z_lload (M := M_X2_circleSign) dX2_circleSign_163 rfl ?_
  refine z_lload (M := M_X2_circleSign) dX2_circleSign_165 rfl ?_
  refine z_lmul (M := M_X2_circleSign) dX2_circleSign_167 ?_
  refine z_lload (M := M_X2_circleSign) dX2_circleSign_168 rfl ?_
  refine z_lload (M := M_X2_circleSign) dX2_circleSign_170 rfl ?_
  refine z_lmul (M := M_X2_circleSign) dX2_circleSign_172 ?_
  refine z_lsub (M := M_X2_circleSign) dX2_circleSign_173 ?_
  refine z_callSN (M := M_X2_circleSign) (M' := M_X11_signOfSum) (as := [vl ((((w32 x_1) - (w32 x_3)) * ((w32 x_1) - (w32 x_3))) + (((w32 x_5) - (w32 x_7)) * ((w32 x_5) - (w32 x_7)))), vl ((((w32 x_9) - (w32 x_11)) * ((w32 x_21) - (w32 x_23))) - (((w32 x_13) - (w32 x_15)) * ((w32 x_17) - (w32 x_19)))), vl ((((w32 x_9) - (w32 x_11)) * ((w32 x_9) - (w32 x_11))) + (((w32 x_13) - (w32 x_15)) * ((w32 x_13) - (w32 x_15)))), vl ((((w32 x_17) - (w32 x_19)) * ((w32 x_5) - (w32 x_7))) - (((w32 x_21) - (w32 x_23)) * ((w32 x_1) - (w32 x_3)))), vl ((((w32 x_17) - (w32 x_19)) * ((w32 x_17) - (w32 x_19))) + (((w32 x_21) - (w32 x_23)) * ((w32 x_21) - (w32 x_23)))), vl ((((w32 x_1) - (w32 x_3)) * ((w32 x_13) - (w32 x_15))) - (((w32 x_5) - (w32 x_7)) * ((w32 x_9) - (w32 x_11))))]) (rest := []) rfl rfl dX2_circleSign_174 m_X11_signOfSum n_2161 t_1938 (c_X11_signOfSum hl  rfl) rfl rfl (Nat.le_of_ble_eq_true rfl) (Nat.le_of_ble_eq_true rfl) (Nat.le_of_ble_eq_true rfl) (Nat.le_of_ble_eq_true rfl) ?_
  refine z_st (st' := [vi (fQ_signOfSum ((((w32 x_1) - (w32 x_3)) * ((w32 x_1) - (w32 x_3))) + (((w32 x_5) - (w32 x_7)) * ((w32 x_5) - (w32 x_7)))) ((((w32 x_9) - (w32 x_11)) * ((w32 x_21) - (w32 x_23))) - (((w32 x_13) - (w32 x_15)) * ((w32 x_17) - (w32 x_19)))) ((((w32 x_9) - (w32 x_11)) * ((w32 x_9) - (w32 x_11))) + (((w32 x_13) - (w32 x_15)) * ((w32 x_13) - (w32 x_15)))) ((((w32 x_17) - (w32 x_19)) * ((w32 x_5) - (w32 x_7))) - (((w32 x_21) - (w32 x_23)) * ((w32 x_1) - (w32 x_3)))) ((((w32 x_17) - (w32 x_19)) * ((w32 x_17) - (w32 x_19))) + (((w32 x_21) - (w32 x_23)) * ((w32 x_21) - (w32 x_23)))) ((((w32 x_1) - (w32 x_3)) * ((w32 x_13) - (w32 x_15))) - (((w32 x_5) - (w32 x_7)) * ((w32 x_9) - (w32 x_11)))))]) rfl ?_
  cases H
  exact z_iret (M := M_X2_circleSign) dX2_circleSign_177 rfl (Nat.le_of_ble_eq_true rfl) (Nat.le_of_ble_eq_true rfl) ⟨rfl, rfl⟩
theorem c_X2_insertInRound (hl : l.stackTraces = false) {σ : SG} {place_0 : Int} {σ' : SG}  (H : fP_insertInRound σ place_0 = some σ') : en_S l E M_X2_insertInRound 4 0 0 [vr 238, vi place_0] σ (pS (none) σ') := by
  unfold fP_insertInRound at H
  refine z_mk (lv := [some (vr 238), some (vi place_0), none]) m_X2_insertInRound rfl hl (Nat.le_of_ble_eq_true rfl) rfl ?_
  refine z_aload_n (M := M_X2_insertInRound) dX2_insertInRound_0 rfl ?_
  refine z_getI (M := M_X2_insertInRound) (ci := 5) (C := RX2) (T := TX2) (Nf := 17) (ty := tyX2) cl5 dX2_insertInRound_1 ly_238 12 (by decide) t_497 rfl rfl ?_
  refine z_istore_n (M := M_X2_insertInRound) (lv' := [some (vr 238), some (vi place_0), some (vi (σ kP_roundSize 0))]) dX2_insertInRound_4 (Nat.le_of_ble_eq_true rfl) rfl rfl ?_
  obtain ⟨rl_6, hw_3, hk_4⟩ := bd_e H
  have J_42 : ∀ at_37 σ_38, rl_6 = (at_37, σ_38) → YY l E M_X2_insertInRound 4 0 0 (pS (none) σ') 52 [some (vr 238), some (vi place_0), some (vi at_37)] [] σ_38 0 0 := by
    intro at_37 σ_38 e
    have H := hk_4
    rw [e] at H
    refine z_aload_n (M := M_X2_insertInRound) dX2_insertInRound_52 rfl ?_
    refine z_getR (M := M_X2_insertInRound) (ci := 5) (C := RX2) (T := TX2) (Nf := 17) (ty := tyX2) cl5 dX2_insertInRound_53 ly_238 11 (by decide) t_496 rfl ?_
    refine z_iload_n (M := M_X2_insertInRound) dX2_insertInRound_56 rfl ?_
    refine z_iload_n (M := M_X2_insertInRound) dX2_insertInRound_57 rfl ?_
    obtain ⟨σ_39, σ_39_e, hi_40, H⟩ := wa_e H
    refine z_iast (M := M_X2_insertInRound) dX2_insertInRound_58 ly_248 rfl rfl rfl hi_40 σ_39_e ?_
    refine z_aload_n (M := M_X2_insertInRound) dX2_insertInRound_59 rfl ?_
    refine z_dup (M := M_X2_insertInRound) dX2_insertInRound_60 rfl ?_
    refine z_getI (M := M_X2_insertInRound) (ci := 5) (C := RX2) (T := TX2) (Nf := 17) (ty := tyX2) cl5 dX2_insertInRound_61 ly_238 12 (by decide) t_497 rfl rfl ?_
    refine z_iconst (M := M_X2_insertInRound) dX2_insertInRound_64 ?_
    refine z_iadd (M := M_X2_insertInRound) dX2_insertInRound_65 ?_
    obtain ⟨σ_41, σ_41_e, H⟩ := wf_e H
    refine z_putI (M := M_X2_insertInRound) (ci := 5) (C := RX2) (T := TX2) (Nf := 17) (ty := tyX2) cl5 dX2_insertInRound_66 ly_238 12 (by decide) t_497 rfl rfl rfl rfl σ_41_e ?_
    cases H
    exact z_vret (M := M_X2_insertInRound) dX2_insertInRound_69 rfl (Nat.le_of_ble_eq_true rfl) (Nat.le_of_ble_eq_true rfl) ⟨rfl, rfl⟩
  refine whl_go hw_3 (fun (at_1, σ_2) => YY l E M_X2_insertInRound 4 0 0 (pS (none) σ') 5 [some (vr 238), some (vi place_0), some (vi at_1)] [] σ_2 0 0) ?_
  rintro ⟨at_1, σ_2⟩ o_7 H K_8 K_9
  refine z_iload_n (M := M_X2_insertInRound) dX2_insertInRound_5 rfl ?_
  refine z_iconst (M := M_X2_insertInRound) dX2_insertInRound_6 ?_
  rcases if_e H with ⟨h_22, H⟩ | ⟨h_22, H⟩
  · refine z_icmp_le_f (M := M_X2_insertInRound) (tgt := 52) dX2_insertInRound_7 (by decide) rfl (by decide +kernel) h_22 ?_
    refine z_aload_n (M := M_X2_insertInRound) dX2_insertInRound_10 rfl ?_
    refine z_aload_n (M := M_X2_insertInRound) dX2_insertInRound_11 rfl ?_
    refine z_getR (M := M_X2_insertInRound) (ci := 5) (C := RX2) (T := TX2) (Nf := 17) (ty := tyX2) cl5 dX2_insertInRound_12 ly_238 11 (by decide) t_496 rfl ?_
    refine z_iconst (M := M_X2_insertInRound) dX2_insertInRound_15 ?_
    obtain ⟨x_23, x_23_e, hi_24, H⟩ := rd_e H
    refine z_iald (M := M_X2_insertInRound) dX2_insertInRound_16 ly_248 rfl (by decide +kernel) rfl hi_24 x_23_e ?_
    refine z_aload_n (M := M_X2_insertInRound) dX2_insertInRound_17 rfl ?_
    refine z_getR (M := M_X2_insertInRound) (ci := 5) (C := RX2) (T := TX2) (Nf := 17) (ty := tyX2) cl5 dX2_insertInRound_18 ly_238 11 (by decide) t_496 rfl ?_
    refine z_iload_n (M := M_X2_insertInRound) dX2_insertInRound_21 rfl ?_
    refine z_iconst (M := M_X2_insertInRound) dX2_insertInRound_22 ?_
    refine z_isub (M := M_X2_insertInRound) dX2_insertInRound_23 ?_
    obtain ⟨x_25, x_25_e, hi_26, H⟩ := rd_e H
    refine z_iald (M := M_X2_insertInRound) dX2_insertInRound_24 ly_248 rfl rfl rfl hi_26 x_25_e ?_
    refine z_iload_n (M := M_X2_insertInRound) dX2_insertInRound_25 rfl ?_
    obtain ⟨x_28, hc_27, H⟩ := bd_e H
    refine z_callV (M := M_X2_insertInRound) (M' := M_X2_turnAt) (as := [vi x_23, vi x_25, vi place_0]) (rest := []) rfl rfl dX2_insertInRound_26 m_X2_turnAt t_2113 t_2115 s_132 (c_X2_turnAt hl  hc_27) rfl rfl ly_238 rfl (Nat.le_of_ble_eq_true rfl) (Nat.le_of_ble_eq_true rfl) (Nat.le_of_ble_eq_true rfl) (Nat.le_of_ble_eq_true rfl) ?_
    refine z_st (st' := [vi x_28]) rfl ?_
    rcases if_e H with ⟨h_29, H⟩ | ⟨h_29, H⟩
    · refine z_if_ge_f (M := M_X2_insertInRound) (tgt := 52) dX2_insertInRound_29 (by decide) rfl h_29 ?_
      refine z_aload_n (M := M_X2_insertInRound) dX2_insertInRound_32 rfl ?_
      refine z_getR (M := M_X2_insertInRound) (ci := 5) (C := RX2) (T := TX2) (Nf := 17) (ty := tyX2) cl5 dX2_insertInRound_33 ly_238 11 (by decide) t_496 rfl ?_
      refine z_iload_n (M := M_X2_insertInRound) dX2_insertInRound_36 rfl ?_
      refine z_aload_n (M := M_X2_insertInRound) dX2_insertInRound_37 rfl ?_
      refine z_getR (M := M_X2_insertInRound) (ci := 5) (C := RX2) (T := TX2) (Nf := 17) (ty := tyX2) cl5 dX2_insertInRound_38 ly_238 11 (by decide) t_496 rfl ?_
      refine z_iload_n (M := M_X2_insertInRound) dX2_insertInRound_41 rfl ?_
      refine z_iconst (M := M_X2_insertInRound) dX2_insertInRound_42 ?_
      refine z_isub (M := M_X2_insertInRound) dX2_insertInRound_43 ?_
      obtain ⟨x_30, x_30_e, hi_31, H⟩ := rd_e H
      refine z_iald (M := M_X2_insertInRound) dX2_insertInRound_44 ly_248 rfl rfl rfl hi_31 x_30_e ?_
      obtain ⟨σ_32, σ_32_e, hi_33, H⟩ := wa_e H
      refine z_iast (M := M_X2_insertInRound) dX2_insertInRound_45 ly_248 rfl rfl rfl hi_33 σ_32_e ?_
      refine z_iinc (M := M_X2_insertInRound) (lv' := [some (vr 238), some (vi place_0), some (vi (at_1 + (-1)))]) dX2_insertInRound_46 rfl (Nat.le_of_ble_eq_true rfl) rfl rfl ?_
      refine z_goto (M := M_X2_insertInRound) (tgt := 5) dX2_insertInRound_49 (by decide) ?_
      exact K_8 _ (Option.some.inj H).symm
    · refine z_if_ge_t (M := M_X2_insertInRound) (tgt := 52) dX2_insertInRound_29 (by decide) rfl (Int.not_lt.mp h_29) ?_
      exact J_42 _ _ (K_9 _ (Option.some.inj H).symm).symm
  · refine z_icmp_le_t (M := M_X2_insertInRound) (tgt := 52) dX2_insertInRound_7 (by decide) rfl (by decide +kernel) (Int.not_lt.mp h_22) ?_
    exact J_42 _ _ (K_9 _ (Option.some.inj H).symm).symm
end LFAL
