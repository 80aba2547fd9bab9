section LFAV
variable {l : Launch} {E : EE}
theorem c_X12_tellPair (hl : l.stackTraces = false) {σ : SG} {fault_0 : Int} {i_0 : Int} {j_0 : Int} {r : Int} {σ' : SG}  (H : fR_tellPair σ fault_0 i_0 j_0 = some (r, σ')) : en_S l E M_X12_tellPair 1 0 0 [vr 277, vi fault_0, vi i_0, vi j_0] σ (pS (some (vi r)) σ') := by
  unfold fR_tellPair at H
  refine z_mk (lv := [some (vr 277), some (vi fault_0), some (vi i_0), some (vi j_0)]) m_X12_tellPair rfl hl (Nat.le_of_ble_eq_true rfl) rfl ?_
  refine z_aload_n (M := M_X12_tellPair) dX12_tellPair_0 rfl ?_
  refine z_getR (M := M_X12_tellPair) (ci := 15) (C := RX12) (T := TX12) (Nf := 135) (ty := tyX12) cl15 dX12_tellPair_1 ly_277 14 (by decide) t_2405 rfl ?_
  refine z_iconst (M := M_X12_tellPair) dX12_tellPair_4 ?_
  refine z_aload_n (M := M_X12_tellPair) dX12_tellPair_5 rfl ?_
  refine z_getR (M := M_X12_tellPair) (ci := 15) (C := RX12) (T := TX12) (Nf := 135) (ty := tyX12) cl15 dX12_tellPair_6 ly_277 54 (by decide) t_2445 rfl ?_
  refine z_aload_n (M := M_X12_tellPair) dX12_tellPair_9 rfl ?_
  refine z_getR (M := M_X12_tellPair) (ci := 15) (C := RX12) (T := TX12) (Nf := 135) (ty := tyX12) cl15 dX12_tellPair_10 ly_277 45 (by decide) t_2436 rfl ?_
  refine z_iload_n (M := M_X12_tellPair) dX12_tellPair_13 rfl ?_
  obtain ⟨x_1, x_1_e, hi_2, H⟩ := rd_e H
  refine z_iald (M := M_X12_tellPair) dX12_tellPair_14 ly_303 rfl rfl rfl hi_2 x_1_e ?_
  obtain ⟨x_3, x_3_e, hi_4, H⟩ := rd_e H
  refine z_iald (M := M_X12_tellPair) dX12_tellPair_15 ly_308 rfl rfl rfl hi_4 x_3_e ?_
  obtain ⟨σ_5, σ_5_e, hi_6, H⟩ := wa_e H
  refine z_iast (M := M_X12_tellPair) dX12_tellPair_16 ly_285 rfl (by decide +kernel) rfl hi_6 σ_5_e ?_
  refine z_aload_n (M := M_X12_tellPair) dX12_tellPair_17 rfl ?_
  refine z_getR (M := M_X12_tellPair) (ci := 15) (C := RX12) (T := TX12) (Nf := 135) (ty := tyX12) cl15 dX12_tellPair_18 ly_277 14 (by decide) t_2405 rfl ?_
  refine z_iconst (M := M_X12_tellPair) dX12_tellPair_21 ?_
  refine z_aload_n (M := M_X12_tellPair) dX12_tellPair_22 rfl ?_
  refine z_getR (M := M_X12_tellPair) (ci := 15) (C := RX12) (T := TX12) (Nf := 135) (ty := tyX12) cl15 dX12_tellPair_23 ly_277 55 (by decide) t_2446 rfl ?_
  refine z_aload_n (M := M_X12_tellPair) dX12_tellPair_26 rfl ?_
  refine z_getR (M := M_X12_tellPair) (ci := 15) (C := RX12) (T := TX12) (Nf := 135) (ty := tyX12) cl15 dX12_tellPair_27 ly_277 45 (by decide) t_2436 rfl ?_
  refine z_iload_n (M := M_X12_tellPair) dX12_tellPair_30 rfl ?_
  obtain ⟨x_7, x_7_e, hi_8, H⟩ := rd_e H
  refine z_iald (M := M_X12_tellPair) dX12_tellPair_31 ly_303 rfl rfl rfl hi_8 x_7_e ?_
  obtain ⟨x_9, x_9_e, hi_10, H⟩ := rd_e H
  refine z_iald (M := M_X12_tellPair) dX12_tellPair_32 ly_309 rfl rfl rfl hi_10 x_9_e ?_
  obtain ⟨σ_11, σ_11_e, hi_12, H⟩ := wa_e H
  refine z_iast (M := M_X12_tellPair) dX12_tellPair_33 ly_285 rfl (by decide +kernel) rfl hi_12 σ_11_e ?_
  refine z_aload_n (M := M_X12_tellPair) dX12_tellPair_34 rfl ?_
  refine z_getR (M := M_X12_tellPair) (ci := 15) (C := RX12) (T := TX12) (Nf := 135) (ty := tyX12) cl15 dX12_tellPair_35 ly_277 14 (by decide) t_2405 rfl ?_
  refine z_iconst (M := M_X12_tellPair) dX12_tellPair_38 ?_
  refine z_aload_n (M := M_X12_tellPair) dX12_tellPair_39 rfl ?_
  refine z_getR (M := M_X12_tellPair) (ci := 15) (C := RX12) (T := TX12) (Nf := 135) (ty := tyX12) cl15 dX12_tellPair_40 ly_277 46 (by decide) t_2437 rfl ?_
  refine z_iload_n (M := M_X12_tellPair) dX12_tellPair_43 rfl ?_
  obtain ⟨x_13, x_13_e, hi_14, H⟩ := rd_e H
  refine z_iald (M := M_X12_tellPair) dX12_tellPair_44 ly_304 rfl rfl rfl hi_14 x_13_e ?_
  obtain ⟨σ_15, σ_15_e, hi_16, H⟩ := wa_e H
  refine z_iast (M := M_X12_tellPair) dX12_tellPair_45 ly_285 rfl (by decide +kernel) rfl hi_16 σ_15_e ?_
  refine z_aload_n (M := M_X12_tellPair) dX12_tellPair_46 rfl ?_
  refine z_getR (M := M_X12_tellPair) (ci := 15) (C := RX12) (T := TX12) (Nf := 135) (ty := tyX12) cl15 dX12_tellPair_47 ly_277 14 (by decide) t_2405 rfl ?_
  refine z_iconst (M := M_X12_tellPair) dX12_tellPair_50 ?_
  refine z_aload_n (M := M_X12_tellPair) dX12_tellPair_51 rfl ?_
  refine z_getR (M := M_X12_tellPair) (ci := 15) (C := RX12) (T := TX12) (Nf := 135) (ty := tyX12) cl15 dX12_tellPair_52 ly_277 54 (by decide) t_2445 rfl ?_
  refine z_aload_n (M := M_X12_tellPair) dX12_tellPair_55 rfl ?_
  refine z_getR (M := M_X12_tellPair) (ci := 15) (C := RX12) (T := TX12) (Nf := 135) (ty := tyX12) cl15 dX12_tellPair_56 ly_277 45 (by decide) t_2436 rfl ?_
  refine z_iload_n (M := M_X12_tellPair) dX12_tellPair_59 rfl ?_
  obtain ⟨x_17, x_17_e, hi_18, H⟩ := rd_e H
  refine z_iald (M := M_X12_tellPair) dX12_tellPair_60 ly_303 rfl rfl rfl hi_18 x_17_e ?_
  obtain ⟨x_19, x_19_e, hi_20, H⟩ := rd_e H
  refine z_iald (M := M_X12_tellPair) dX12_tellPair_61 ly_308 rfl rfl rfl hi_20 x_19_e ?_
  obtain ⟨σ_21, σ_21_e, hi_22, H⟩ := wa_e H
  refine z_iast (M := M_X12_tellPair) dX12_tellPair_62 ly_285 rfl (by decide +kernel) rfl hi_22 σ_21_e ?_
  refine z_aload_n (M := M_X12_tellPair) dX12_tellPair_63 rfl ?_
  refine z_getR (M := M_X12_tellPair) (ci := 15) (C := RX12) (T := TX12) (Nf := 135) (ty := tyX12) cl15 dX12_tellPair_64 ly_277 14 (by decide) t_2405 rfl ?_
  refine z_iconst (M := M_X12_tellPair) dX12_tellPair_67 ?_
  refine z_aload_n (M := M_X12_tellPair) dX12_tellPair_68 rfl ?_
  refine z_getR (M := M_X12_tellPair) (ci := 15) (C := RX12) (T := TX12) (Nf := 135) (ty := tyX12) cl15 dX12_tellPair_69 ly_277 55 (by decide) t_2446 rfl ?_
  refine z_aload_n (M := M_X12_tellPair) dX12_tellPair_72 rfl ?_
  refine z_getR (M := M_X12_tellPair) (ci := 15) (C := RX12) (T := TX12) (Nf := 135) (ty := tyX12) cl15 dX12_tellPair_73 ly_277 45 (by decide) t_2436 rfl ?_
  refine z_iload_n (M := M_X12_tellPair) dX12_tellPair_76 rfl ?_
  obtain ⟨x_23, x_23_e, hi_24, H⟩ := rd_e H
  refine z_iald (M := M_X12_tellPair) dX12_tellPair_77 ly_303 rfl rfl rfl hi_24 x_23_e ?_
  obtain ⟨x_25, x_25_e, hi_26, H⟩ := rd_e H
  refine z_iald (M := M_X12_tellPair) dX12_tellPair_78 ly_309 rfl rfl rfl hi_26 x_25_e ?_
  obtain ⟨σ_27, σ_27_e, hi_28, H⟩ := wa_e H
  refine z_iast (M := M_X12_tellPair) dX12_tellPair_79 ly_285 rfl (by decide +kernel) rfl hi_28 σ_27_e ?_
  refine z_aload_n (M := M_X12_tellPair) dX12_tellPair_80 rfl ?_
  refine z_getR (M := M_X12_tellPair) (ci := 15) (C := RX12) (T := TX12) (Nf := 135) (ty := tyX12) cl15 dX12_tellPair_81 ly_277 14 (by decide) t_2405 rfl ?_
  refine z_bipush (M := M_X12_tellPair) dX12_tellPair_84 (by decide +kernel) ?_
  refine z_aload_n (M := M_X12_tellPair) dX12_tellPair_86 rfl ?_
  refine z_getR (M := M_X12_tellPair) (ci := 15) (C := RX12) (T := TX12) (Nf := 135) (ty := tyX12) cl15 dX12_tellPair_87 ly_277 46 (by decide) t_2437 rfl ?_
  refine z_iload_n (M := M_X12_tellPair) dX12_tellPair_90 rfl ?_
  obtain ⟨x_29, x_29_e, hi_30, H⟩ := rd_e H
  refine z_iald (M := M_X12_tellPair) dX12_tellPair_91 ly_304 rfl rfl rfl hi_30 x_29_e ?_
  obtain ⟨σ_31, σ_31_e, hi_32, H⟩ := wa_e H
  refine z_iast (M := M_X12_tellPair) dX12_tellPair_92 ly_285 rfl (by decide +kernel) rfl hi_32 σ_31_e ?_
  refine z_iload_n (M := M_X12_tellPair) dX12_tellPair_93 rfl ?_
  cases H
  exact z_iret (M := M_X12_tellPair) dX12_tellPair_94 rfl (Nat.le_of_ble_eq_true rfl) (Nat.le_of_ble_eq_true rfl) ⟨rfl, rfl⟩
theorem c_X12_tellRing (hl : l.stackTraces = false) {σ : SG} {fault_0 : Int} {r_0 : Int} {r : Int} {σ' : SG}  (H : fR_tellRing σ fault_0 r_0 = some (r, σ')) : en_S l E M_X12_tellRing 1 0 0 [vr 277, vi fault_0, vi r_0] σ (pS (some (vi r)) σ') := by
  unfold fR_tellRing at H
  refine z_mk (lv := [some (vr 277), some (vi fault_0), some (vi r_0)]) m_X12_tellRing rfl hl (Nat.le_of_ble_eq_true rfl) rfl ?_
  refine z_aload_n (M := M_X12_tellRing) dX12_tellRing_0 rfl ?_
  refine z_getR (M := M_X12_tellRing) (ci := 15) (C := RX12) (T := TX12) (Nf := 135) (ty := tyX12) cl15 dX12_tellRing_1 ly_277 14 (by decide) t_2405 rfl ?_
  refine z_iconst (M := M_X12_tellRing) dX12_tellRing_4 ?_
  refine z_aload_n (M := M_X12_tellRing) dX12_tellRing_5 rfl ?_
  refine z_getR (M := M_X12_tellRing) (ci := 15) (C := RX12) (T := TX12) (Nf := 135) (ty := tyX12) cl15 dX12_tellRing_6 ly_277 54 (by decide) t_2445 rfl ?_
  refine z_iload_n (M := M_X12_tellRing) dX12_tellRing_9 rfl ?_
  obtain ⟨x_1, x_1_e, hi_2, H⟩ := rd_e H
  refine z_iald (M := M_X12_tellRing) dX12_tellRing_10 ly_308 rfl rfl rfl hi_2 x_1_e ?_
  obtain ⟨σ_3, σ_3_e, hi_4, H⟩ := wa_e H
  refine z_iast (M := M_X12_tellRing) dX12_tellRing_11 ly_285 rfl (by decide +kernel) rfl hi_4 σ_3_e ?_
  refine z_aload_n (M := M_X12_tellRing) dX12_tellRing_12 rfl ?_
  refine z_getR (M := M_X12_tellRing) (ci := 15) (C := RX12) (T := TX12) (Nf := 135) (ty := tyX12) cl15 dX12_tellRing_13 ly_277 14 (by decide) t_2405 rfl ?_
  refine z_iconst (M := M_X12_tellRing) dX12_tellRing_16 ?_
  refine z_aload_n (M := M_X12_tellRing) dX12_tellRing_17 rfl ?_
  refine z_getR (M := M_X12_tellRing) (ci := 15) (C := RX12) (T := TX12) (Nf := 135) (ty := tyX12) cl15 dX12_tellRing_18 ly_277 55 (by decide) t_2446 rfl ?_
  refine z_iload_n (M := M_X12_tellRing) dX12_tellRing_21 rfl ?_
  obtain ⟨x_5, x_5_e, hi_6, H⟩ := rd_e H
  refine z_iald (M := M_X12_tellRing) dX12_tellRing_22 ly_309 rfl rfl rfl hi_6 x_5_e ?_
  obtain ⟨σ_7, σ_7_e, hi_8, H⟩ := wa_e H
  refine z_iast (M := M_X12_tellRing) dX12_tellRing_23 ly_285 rfl (by decide +kernel) rfl hi_8 σ_7_e ?_
  refine z_iload_n (M := M_X12_tellRing) dX12_tellRing_24 rfl ?_
  cases H
  exact z_iret (M := M_X12_tellRing) dX12_tellRing_25 rfl (Nat.le_of_ble_eq_true rfl) (Nat.le_of_ble_eq_true rfl) ⟨rfl, rfl⟩
theorem c_X12_isWithin (hl : l.stackTraces = false) {σ : SG} {x_0 : Int} {y_0 : Int} {ring_0 : Int} {dx_0 : Int} {dy_0 : Int} {r : Bool}  (H : fR_isWithin σ x_0 y_0 ring_0 dx_0 dy_0 = some r) : en_S l E M_X12_isWithin 3 0 0 [vr 277, vl x_0, vl y_0, vi ring_0, vl dx_0, vl dy_0] σ (pS (some (zv r)) σ) := by
  unfold fR_isWithin at H
  refine z_mk (lv := [some (vr 277), some (vl x_0), none, some (vl y_0), none, some (vi ring_0), some (vl dx_0), none, some (vl dy_0), none, none, none, none, none, none, none, none, none, none, none, none, none, none]) m_X12_isWithin rfl hl (Nat.le_of_ble_eq_true rfl) rfl ?_
  refine z_zconst (M := M_X12_isWithin) (b := false) dX12_isWithin_0 rfl ?_
  refine z_zstore (M := M_X12_isWithin) (lv' := [some (vr 277), some (vl x_0), none, some (vl y_0), none, some (vi ring_0), some (vl dx_0), none, some (vl dy_0), none, some (zv false), none, none, none, none, none, none, none, none, none, none, none, none]) dX12_isWithin_1 (Nat.le_of_ble_eq_true rfl) rfl rfl ?_
  refine z_aload_n (M := M_X12_isWithin) dX12_isWithin_3 rfl ?_
  refine z_getR (M := M_X12_isWithin) (ci := 15) (C := RX12) (T := TX12) (Nf := 135) (ty := tyX12) cl15 dX12_isWithin_4 ly_277 56 (by decide) t_2447 rfl ?_
  refine z_iload (M := M_X12_isWithin) dX12_isWithin_7 rfl ?_
  obtain ⟨x_1, x_1_e, hi_2, H⟩ := rd_e H
  refine z_iald (M := M_X12_isWithin) dX12_isWithin_9 ly_310 rfl rfl rfl hi_2 x_1_e ?_
  refine z_istore (M := M_X12_isWithin) (lv' := [some (vr 277), some (vl x_0), none, some (vl y_0), none, some (vi ring_0), some (vl dx_0), none, some (vl dy_0), none, some (zv false), some (vi x_1), none, none, none, none, none, none, none, none, none, none, none]) dX12_isWithin_10 (Nat.le_of_ble_eq_true rfl) rfl rfl ?_
  obtain ⟨rl_8, hw_5, hk_6⟩ := bd_e H
  have J_127 : ∀ within_125 i_126, rl_8 = (within_125, i_126) → YY l E M_X12_isWithin 3 0 0 (pS (some (zv r)) σ) 283 [some (vr 277), some (vl x_0), none, some (vl y_0), none, some (vi ring_0), some (vl dx_0), none, some (vl dy_0), none, some (zv within_125), some (vi i_126), none, none, none, none, none, none, none, none, none, none, none] [] σ 0 0 := by
    intro within_125 i_126 e
    have H := hk_6
    rw [e] at H
    refine z_zload (M := M_X12_isWithin) dX12_isWithin_283 rfl ?_
    cases H
    exact z_zret (M := M_X12_isWithin) dX12_isWithin_285 rfl (Nat.le_of_ble_eq_true rfl) (Nat.le_of_ble_eq_true rfl) ⟨rfl, rfl⟩
  refine whl_go hw_5 (fun (within_3, i_4) => YY l E M_X12_isWithin 3 0 0 (pS (some (zv r)) σ) 12 [some (vr 277), some (vl x_0), none, some (vl y_0), none, some (vi ring_0), some (vl dx_0), none, some (vl dy_0), none, some (zv within_3), some (vi i_4), none, none, none, none, none, none, none, none, none, none, none] [] σ 0 0) ?_
  rintro ⟨within_3, i_4⟩ o_9 H K_10 K_11
  refine z_iload (M := M_X12_isWithin) dX12_isWithin_12 rfl ?_
  refine z_aload_n (M := M_X12_isWithin) dX12_isWithin_14 rfl ?_
  refine z_getR (M := M_X12_isWithin) (ci := 15) (C := RX12) (T := TX12) (Nf := 135) (ty := tyX12) cl15 dX12_isWithin_15 ly_277 56 (by decide) t_2447 rfl ?_
  refine z_iload (M := M_X12_isWithin) dX12_isWithin_18 rfl ?_
  refine z_iconst (M := M_X12_isWithin) dX12_isWithin_20 ?_
  refine z_iadd (M := M_X12_isWithin) dX12_isWithin_21 ?_
  obtain ⟨x_12, x_12_e, hi_13, H⟩ := rd_e H
  refine z_iald (M := M_X12_isWithin) dX12_isWithin_22 ly_310 rfl rfl rfl hi_13 x_12_e ?_
  rcases if_e H with ⟨h_14, H⟩ | ⟨h_14, H⟩
  · refine z_icmp_ge_f (M := M_X12_isWithin) (tgt := 283) dX12_isWithin_23 (by decide) rfl rfl h_14 ?_
    obtain ⟨v_120, he_121, hk_122⟩ := bd_e H
    have J_123 : ∀ x_26, v_120 = x_26 → YY l E M_X12_isWithin 3 0 0 (pS (some (zv r)) σ) 62 [some (vr 277), some (vl x_0), none, some (vl y_0), none, some (vi ring_0), some (vl dx_0), none, some (vl dy_0), none, some (zv within_3), some (vi i_4), none, none, none, none, none, none, none, none, none, none, none] [zv x_26] σ 0 0 := by
      intro x_26 e
      have H := hk_122
      rw [e] at H
      refine z_zstore (M := M_X12_isWithin) (lv' := [some (vr 277), some (vl x_0), none, some (vl y_0), none, some (vi ring_0), some (vl dx_0), none, some (vl dy_0), none, some (zv within_3), some (vi i_4), some (zv x_26), none, none, none, none, none, none, none, none, none, none]) dX12_isWithin_62 (Nat.le_of_ble_eq_true rfl) rfl rfl ?_
      obtain ⟨v_116, he_117, hk_118⟩ := bd_e H
      have J_119 : ∀ x_38, v_116 = x_38 → YY l E M_X12_isWithin 3 0 0 (pS (some (zv r)) σ) 100 [some (vr 277), some (vl x_0), none, some (vl y_0), none, some (vi ring_0), some (vl dx_0), none, some (vl dy_0), none, some (zv within_3), some (vi i_4), some (zv x_26), none, none, none, none, none, none, none, none, none, none] [zv x_38] σ 0 0 := by
        intro x_38 e
        have H := hk_118
        rw [e] at H
        refine z_zstore (M := M_X12_isWithin) (lv' := [some (vr 277), some (vl x_0), none, some (vl y_0), none, some (vi ring_0), some (vl dx_0), none, some (vl dy_0), none, some (zv within_3), some (vi i_4), some (zv x_26), some (zv x_38), none, none, none, none, none, none, none, none, none]) dX12_isWithin_100 (Nat.le_of_ble_eq_true rfl) rfl rfl ?_
        refine z_zload (M := M_X12_isWithin) dX12_isWithin_102 rfl ?_
        refine z_zload (M := M_X12_isWithin) dX12_isWithin_104 rfl ?_
        rcases if_e H with ⟨h_39, H⟩ | ⟨h_39, H⟩
        · refine z_cne_f (M := M_X12_isWithin) (tgt := 112) dX12_isWithin_106 (by decide)  h_39 ?_
          refine z_goto (M := M_X12_isWithin) (tgt := 277) dX12_isWithin_109 (by decide) ?_
          refine z_iinc (M := M_X12_isWithin) (lv' := [some (vr 277), some (vl x_0), none, some (vl y_0), none, some (vi ring_0), some (vl dx_0), none, some (vl dy_0), none, some (zv within_3), some (vi (i_4 + 1)), some (zv x_26), some (zv x_38), none, none, none, none, none, none, none, none, none]) dX12_isWithin_277 rfl (Nat.le_of_ble_eq_true rfl) rfl rfl ?_
          refine z_goto (M := M_X12_isWithin) (tgt := 12) dX12_isWithin_280 (by decide) ?_
          refine z_le (lv' := [some (vr 277), some (vl x_0), none, some (vl y_0), none, some (vi ring_0), some (vl dx_0), none, some (vl dy_0), none, some (zv within_3), some (vi (i_4 + 1)), none, none, none, none, none, none, none, none, none, none, none]) ⟨Or.inr rfl, Or.inr rfl, Or.inl rfl, Or.inr rfl, Or.inl rfl, Or.inr rfl, Or.inr rfl, Or.inl rfl, Or.inr rfl, Or.inl rfl, Or.inr rfl, Or.inr rfl, Or.inl rfl, Or.inl rfl, Or.inl rfl, Or.inl rfl, Or.inl rfl, Or.inl rfl, Or.inl rfl, Or.inl rfl, Or.inl rfl, Or.inl rfl, Or.inl rfl, trivial⟩ ?_
          exact K_10 _ (Option.some.inj H).symm
        · refine z_cne_t (M := M_X12_isWithin) (tgt := 112) dX12_isWithin_106 (by decide)  h_39 ?_
          obtain ⟨v_112, he_113, hk_114⟩ := bd_e H
          have J_115 : ∀ x_52, v_112 = x_52 → YY l E M_X12_isWithin 3 0 0 (pS (some (zv r)) σ) 134 [some (vr 277), some (vl x_0), none, some (vl y_0), none, some (vi ring_0), some (vl dx_0), none, some (vl dy_0), none, some (zv within_3), some (vi i_4), some (zv x_26), some (zv x_38), none, none, none, none, none, none, none, none, none] [vl x_52] σ 0 0 := by
            intro x_52 e
            have H := hk_114
            rw [e] at H
            refine z_lstore (M := M_X12_isWithin) (lv' := [some (vr 277), some (vl x_0), none, some (vl y_0), none, some (vi ring_0), some (vl dx_0), none, some (vl dy_0), none, some (zv within_3), some (vi i_4), some (zv x_26), some (zv x_38), some (vl x_52), none, none, none, none, none, none, none, none]) dX12_isWithin_134 (Nat.le_of_ble_eq_true rfl) rfl rfl ?_
            obtain ⟨v_108, he_109, hk_110⟩ := bd_e H
            have J_111 : ∀ x_64, v_108 = x_64 → YY l E M_X12_isWithin 3 0 0 (pS (some (zv r)) σ) 158 [some (vr 277), some (vl x_0), none, some (vl y_0), none, some (vi ring_0), some (vl dx_0), none, some (vl dy_0), none, some (zv within_3), some (vi i_4), some (zv x_26), some (zv x_38), some (vl x_52), none, none, none, none, none, none, none, none] [vl x_64] σ 0 0 := by
              intro x_64 e
              have H := hk_110
              rw [e] at H
              refine z_lstore (M := M_X12_isWithin) (lv' := [some (vr 277), some (vl x_0), none, some (vl y_0), none, some (vi ring_0), some (vl dx_0), none, some (vl dy_0), none, some (zv within_3), some (vi i_4), some (zv x_26), some (zv x_38), some (vl x_52), none, some (vl x_64), none, none, none, none, none, none]) dX12_isWithin_158 (Nat.le_of_ble_eq_true rfl) rfl rfl ?_
              obtain ⟨v_104, he_105, hk_106⟩ := bd_e H
              have J_107 : ∀ x_76, v_104 = x_76 → YY l E M_X12_isWithin 3 0 0 (pS (some (zv r)) σ) 182 [some (vr 277), some (vl x_0), none, some (vl y_0), none, some (vi ring_0), some (vl dx_0), none, some (vl dy_0), none, some (zv within_3), some (vi i_4), some (zv x_26), some (zv x_38), some (vl x_52), none, some (vl x_64), none, none, none, none, none, none] [vl x_76] σ 0 0 := by
                intro x_76 e
                have H := hk_106
                rw [e] at H
                refine z_lstore (M := M_X12_isWithin) (lv' := [some (vr 277), some (vl x_0), none, some (vl y_0), none, some (vi ring_0), some (vl dx_0), none, some (vl dy_0), none, some (zv within_3), some (vi i_4), some (zv x_26), some (zv x_38), some (vl x_52), none, some (vl x_64), none, some (vl x_76), none, none, none, none]) dX12_isWithin_182 (Nat.le_of_ble_eq_true rfl) rfl rfl ?_
                obtain ⟨v_100, he_101, hk_102⟩ := bd_e H
                have J_103 : ∀ x_88, v_100 = x_88 → YY l E M_X12_isWithin 3 0 0 (pS (some (zv r)) σ) 206 [some (vr 277), some (vl x_0), none, some (vl y_0), none, some (vi ring_0), some (vl dx_0), none, some (vl dy_0), none, some (zv within_3), some (vi i_4), some (zv x_26), some (zv x_38), some (vl x_52), none, some (vl x_64), none, some (vl x_76), none, none, none, none] [vl x_88] σ 0 0 := by
                  intro x_88 e
                  have H := hk_102
                  rw [e] at H
                  refine z_lstore (M := M_X12_isWithin) (lv' := [some (vr 277), some (vl x_0), none, some (vl y_0), none, some (vi ring_0), some (vl dx_0), none, some (vl dy_0), none, some (zv within_3), some (vi i_4), some (zv x_26), some (zv x_38), some (vl x_52), none, some (vl x_64), none, some (vl x_76), none, some (vl x_88), none, none]) dX12_isWithin_206 (Nat.le_of_ble_eq_true rfl) rfl rfl ?_
                  refine z_lload (M := M_X12_isWithin) dX12_isWithin_208 rfl ?_
                  refine z_lload (M := M_X12_isWithin) dX12_isWithin_210 rfl ?_
                  refine z_lload (M := M_X12_isWithin) dX12_isWithin_212 rfl ?_
                  refine z_lload (M := M_X12_isWithin) dX12_isWithin_214 rfl ?_
                  refine z_lload_n (M := M_X12_isWithin) dX12_isWithin_216 rfl ?_
                  refine z_lload_n (M := M_X12_isWithin) dX12_isWithin_217 rfl ?_
                  refine z_callS (M := M_X12_isWithin) (M' := M_X12_turn) (as := [vl x_52, vl x_64, vl x_76, vl x_88, vl x_0, vl y_0]) (rest := []) rfl rfl dX12_isWithin_218 m_X12_turn t_3262 t_3263 (c_X12_turn hl  rfl) rfl rfl (Nat.le_of_ble_eq_true rfl) (Nat.le_of_ble_eq_true rfl) (Nat.le_of_ble_eq_true rfl) (Nat.le_of_ble_eq_true rfl) ?_
                  refine z_st (st' := [vi (fR_turn x_52 x_64 x_76 x_88 x_0 y_0)]) rfl ?_
                  refine z_istore (M := M_X12_isWithin) (lv' := [some (vr 277), some (vl x_0), none, some (vl y_0), none, some (vi ring_0), some (vl dx_0), none, some (vl dy_0), none, some (zv within_3), some (vi i_4), some (zv x_26), some (zv x_38), some (vl x_52), none, some (vl x_64), none, some (vl x_76), none, some (vl x_88), none, some (vi (fR_turn x_52 x_64 x_76 x_88 x_0 y_0))]) dX12_isWithin_221 (Nat.le_of_ble_eq_true rfl) rfl rfl ?_
                  have J_89 : YY l E M_X12_isWithin 3 0 0 (pS (some (zv r)) σ) 253 [some (vr 277), some (vl x_0), none, some (vl y_0), none, some (vi ring_0), some (vl dx_0), none, some (vl dy_0), none, some (zv within_3), some (vi i_4), some (zv x_26), some (zv x_38), some (vl x_52), none, some (vl x_64), none, some (vl x_76), none, some (vl x_88), none, some (vi (fR_turn x_52 x_64 x_76 x_88 x_0 y_0))] [vi (if (w32 (fR_turn x_52 x_64 x_76 x_88 x_0 y_0)) = 0 then (fR_signOf (fR_cross (x_76 - x_52) (x_88 - x_64) dx_0 dy_0)) else (fR_turn x_52 x_64 x_76 x_88 x_0 y_0))] σ 0 0 := by
                    obtain ⟨x_90, x_90_e, H⟩ := lt_e H
                    refine z_st (congrArg (fun z => vi z :: []) x_90_e) ?_
                    refine z_istore (M := M_X12_isWithin) (lv' := [some (vr 277), some (vl x_0), none, some (vl y_0), none, some (vi ring_0), some (vl dx_0), none, some (vl dy_0), none, some (zv within_3), some (vi i_4), some (zv x_26), some (zv x_38), some (vl x_52), none, some (vl x_64), none, some (vl x_76), none, some (vl x_88), none, some (vi x_90)]) dX12_isWithin_253 (Nat.le_of_ble_eq_true rfl) rfl rfl ?_
                    have J_93 : YY l E M_X12_isWithin 3 0 0 (pS (some (zv r)) σ) 275 [some (vr 277), some (vl x_0), none, some (vl y_0), none, some (vi ring_0), some (vl dx_0), none, some (vl dy_0), none, some (zv within_3), some (vi i_4), some (zv x_26), some (zv x_38), some (vl x_52), none, some (vl x_64), none, some (vl x_76), none, some (vl x_88), none, some (vi x_90)] [zv (if 0 < (w32 x_90) then (decide (¬ (within_3 = true))) else within_3 : Bool)] σ 0 0 := by
                      obtain ⟨x_94, x_94_e, H⟩ := lt_e H
                      refine z_st (congrArg (fun z => zv z :: []) x_94_e) ?_
                      refine z_zstore (M := M_X12_isWithin) (lv' := [some (vr 277), some (vl x_0), none, some (vl y_0), none, some (vi ring_0), some (vl dx_0), none, some (vl dy_0), none, some (zv x_94), some (vi i_4), some (zv x_26), some (zv x_38), some (vl x_52), none, some (vl x_64), none, some (vl x_76), none, some (vl x_88), none, some (vi x_90)]) dX12_isWithin_275 (Nat.le_of_ble_eq_true rfl) rfl rfl ?_
                      refine z_iinc (M := M_X12_isWithin) (lv' := [some (vr 277), some (vl x_0), none, some (vl y_0), none, some (vi ring_0), some (vl dx_0), none, some (vl dy_0), none, some (zv x_94), some (vi (i_4 + 1)), some (zv x_26), some (zv x_38), some (vl x_52), none, some (vl x_64), none, some (vl x_76), none, some (vl x_88), none, some (vi x_90)]) dX12_isWithin_277 rfl (Nat.le_of_ble_eq_true rfl) rfl rfl ?_
                      refine z_goto (M := M_X12_isWithin) (tgt := 12) dX12_isWithin_280 (by decide) ?_
                      refine z_le (lv' := [some (vr 277), some (vl x_0), none, some (vl y_0), none, some (vi ring_0), some (vl dx_0), none, some (vl dy_0), none, some (zv x_94), some (vi (i_4 + 1)), none, none, none, none, none, none, none, none, none, none, none]) ⟨Or.inr rfl, Or.inr rfl, Or.inl rfl, Or.inr rfl, Or.inl rfl, Or.inr rfl, Or.inr rfl, Or.inl rfl, Or.inr rfl, Or.inl rfl, Or.inr rfl, Or.inr rfl, Or.inl rfl, Or.inl rfl, Or.inl rfl, Or.inl rfl, Or.inl rfl, Or.inl rfl, Or.inl rfl, Or.inl rfl, Or.inl rfl, Or.inl rfl, Or.inl rfl, trivial⟩ ?_
                      exact K_10 _ (Option.some.inj H).symm
                    refine z_iload (M := M_X12_isWithin) dX12_isWithin_255 rfl ?_
                    by_cases h_96 : 0 < (w32 x_90)
                    · refine z_if_le_f (M := M_X12_isWithin) (tgt := 273) dX12_isWithin_257 (by decide) rfl h_96 ?_
                      have J_97 : YY l E M_X12_isWithin 3 0 0 (pS (some (zv r)) σ) 275 [some (vr 277), some (vl x_0), none, some (vl y_0), none, some (vi ring_0), some (vl dx_0), none, some (vl dy_0), none, some (zv within_3), some (vi i_4), some (zv x_26), some (zv x_38), some (vl x_52), none, some (vl x_64), none, some (vl x_76), none, some (vl x_88), none, some (vi x_90)] [zv (decide (¬ (within_3 = true)))] σ 0 0 := by
                        exact z_st (by rw [if_pos (c := 0 < (w32 x_90)) h_96]) J_93
                      refine z_zload (M := M_X12_isWithin) dX12_isWithin_260 rfl ?_
                      by_cases h_98 : within_3 = true
                      · refine z_zne_t (M := M_X12_isWithin) (tgt := 269) dX12_isWithin_262 (by decide) h_98 ?_
                        refine z_iconst (M := M_X12_isWithin) dX12_isWithin_269 ?_
                        refine z_goto (M := M_X12_isWithin) (tgt := 275) dX12_isWithin_270 (by decide) ?_
                        exact z_st (by rw [zv_f (p := ¬ (within_3 = true)) (not_not_intro h_98)]) J_97
                      · refine z_zne_f (M := M_X12_isWithin) (tgt := 269) dX12_isWithin_262 (by decide) h_98 ?_
                        refine z_iconst (M := M_X12_isWithin) dX12_isWithin_265 ?_
                        refine z_goto (M := M_X12_isWithin) (tgt := 275) dX12_isWithin_266 (by decide) ?_
                        exact z_st (by rw [zv_t (p := ¬ (within_3 = true)) h_98]) J_97
                    · refine z_if_le_t (M := M_X12_isWithin) (tgt := 273) dX12_isWithin_257 (by decide) rfl (Int.not_lt.mp h_96) ?_
                      refine z_zload (M := M_X12_isWithin) dX12_isWithin_273 rfl ?_
                      exact z_st (by rw [if_neg (c := 0 < (w32 x_90)) h_96]) J_93
                  refine z_iload (M := M_X12_isWithin) dX12_isWithin_223 rfl ?_
                  by_cases h_99 : (w32 (fR_turn x_52 x_64 x_76 x_88 x_0 y_0)) = 0
                  · refine z_if_ne_f (M := M_X12_isWithin) (tgt := 251) dX12_isWithin_225 (by decide) rfl h_99 ?_
                    refine z_lload (M := M_X12_isWithin) dX12_isWithin_228 rfl ?_
                    refine z_lload (M := M_X12_isWithin) dX12_isWithin_230 rfl ?_
                    refine z_lsub (M := M_X12_isWithin) dX12_isWithin_232 ?_
                    refine z_lload (M := M_X12_isWithin) dX12_isWithin_233 rfl ?_
                    refine z_lload (M := M_X12_isWithin) dX12_isWithin_235 rfl ?_
                    refine z_lsub (M := M_X12_isWithin) dX12_isWithin_237 ?_
                    refine z_lload (M := M_X12_isWithin) dX12_isWithin_238 rfl ?_
                    refine z_lload (M := M_X12_isWithin) dX12_isWithin_240 rfl ?_
                    refine z_callS (M := M_X12_isWithin) (M' := M_X12_cross) (as := [vl (x_76 - x_52), vl (x_88 - x_64), vl dx_0, vl dy_0]) (rest := []) rfl rfl dX12_isWithin_242 m_X12_cross t_3265 t_3266 (c_X12_cross hl  rfl) rfl rfl (Nat.le_of_ble_eq_true rfl) (Nat.le_of_ble_eq_true rfl) (Nat.le_of_ble_eq_true rfl) (Nat.le_of_ble_eq_true rfl) ?_
                    refine z_st (st' := [vl (fR_cross (x_76 - x_52) (x_88 - x_64) dx_0 dy_0)]) rfl ?_
                    refine z_callS (M := M_X12_isWithin) (M' := M_X12_signOf) (as := [vl (fR_cross (x_76 - x_52) (x_88 - x_64) dx_0 dy_0)]) (rest := []) rfl rfl dX12_isWithin_245 m_X12_signOf t_3268 t_3269 (c_X12_signOf hl  rfl) rfl rfl (Nat.le_of_ble_eq_true rfl) (Nat.le_of_ble_eq_true rfl) (Nat.le_of_ble_eq_true rfl) (Nat.le_of_ble_eq_true rfl) ?_
                    refine z_st (st' := [vi (fR_signOf (fR_cross (x_76 - x_52) (x_88 - x_64) dx_0 dy_0))]) rfl ?_
                    refine z_goto (M := M_X12_isWithin) (tgt := 253) dX12_isWithin_248 (by decide) ?_
                    exact z_st (by rw [if_pos (c := (w32 (fR_turn x_52 x_64 x_76 x_88 x_0 y_0)) = 0) h_99]) J_89
                  · refine z_if_ne_t (M := M_X12_isWithin) (tgt := 251) dX12_isWithin_225 (by decide) rfl h_99 ?_
                    refine z_iload (M := M_X12_isWithin) dX12_isWithin_251 rfl ?_
                    exact z_st (by rw [if_neg (c := (w32 (fR_turn x_52 x_64 x_76 x_88 x_0 y_0)) = 0) h_99]) J_89
                have H := he_101
                refine z_zload (M := M_X12_isWithin) dX12_isWithin_184 rfl ?_
                rcases if_e H with ⟨h_81, H⟩ | ⟨h_81, H⟩
                · refine z_zeq_f (M := M_X12_isWithin) (tgt := 199) dX12_isWithin_186 (by decide) h_81 ?_
                  refine z_aload_n (M := M_X12_isWithin) dX12_isWithin_189 rfl ?_
                  refine z_getR (M := M_X12_isWithin) (ci := 15) (C := RX12) (T := TX12) (Nf := 135) (ty := tyX12) cl15 dX12_isWithin_190 ly_277 42 (by decide) t_2433 rfl ?_
                  refine z_iload (M := M_X12_isWithin) dX12_isWithin_193 rfl ?_
                  obtain ⟨x_82, x_82_e, hi_83, H⟩ := rd_e H
                  refine z_lald (M := M_X12_isWithin) dX12_isWithin_195 ly_300 rfl rfl rfl hi_83 x_82_e ?_
                  refine z_goto (M := M_X12_isWithin) (tgt := 206) dX12_isWithin_196 (by decide) ?_
                  exact J_103 _ (Option.some.inj H).symm
                · refine z_zeq_t (M := M_X12_isWithin) (tgt := 199) dX12_isWithin_186 (by decide) h_81 ?_
                  refine z_aload_n (M := M_X12_isWithin) dX12_isWithin_199 rfl ?_
                  refine z_getR (M := M_X12_isWithin) (ci := 15) (C := RX12) (T := TX12) (Nf := 135) (ty := tyX12) cl15 dX12_isWithin_200 ly_277 44 (by decide) t_2435 rfl ?_
                  refine z_iload (M := M_X12_isWithin) dX12_isWithin_203 rfl ?_
                  obtain ⟨x_85, x_85_e, hi_86, H⟩ := rd_e H
                  refine z_lald (M := M_X12_isWithin) dX12_isWithin_205 ly_302 rfl rfl rfl hi_86 x_85_e ?_
                  exact J_103 _ (Option.some.inj H).symm
              have H := he_105
              refine z_zload (M := M_X12_isWithin) dX12_isWithin_160 rfl ?_
              rcases if_e H with ⟨h_69, H⟩ | ⟨h_69, H⟩
              · refine z_zeq_f (M := M_X12_isWithin) (tgt := 175) dX12_isWithin_162 (by decide) h_69 ?_
                refine z_aload_n (M := M_X12_isWithin) dX12_isWithin_165 rfl ?_
                refine z_getR (M := M_X12_isWithin) (ci := 15) (C := RX12) (T := TX12) (Nf := 135) (ty := tyX12) cl15 dX12_isWithin_166 ly_277 41 (by decide) t_2432 rfl ?_
                refine z_iload (M := M_X12_isWithin) dX12_isWithin_169 rfl ?_
                obtain ⟨x_70, x_70_e, hi_71, H⟩ := rd_e H
                refine z_lald (M := M_X12_isWithin) dX12_isWithin_171 ly_299 rfl rfl rfl hi_71 x_70_e ?_
                refine z_goto (M := M_X12_isWithin) (tgt := 182) dX12_isWithin_172 (by decide) ?_
                exact J_107 _ (Option.some.inj H).symm
              · refine z_zeq_t (M := M_X12_isWithin) (tgt := 175) dX12_isWithin_162 (by decide) h_69 ?_
                refine z_aload_n (M := M_X12_isWithin) dX12_isWithin_175 rfl ?_
                refine z_getR (M := M_X12_isWithin) (ci := 15) (C := RX12) (T := TX12) (Nf := 135) (ty := tyX12) cl15 dX12_isWithin_176 ly_277 43 (by decide) t_2434 rfl ?_
                refine z_iload (M := M_X12_isWithin) dX12_isWithin_179 rfl ?_
                obtain ⟨x_73, x_73_e, hi_74, H⟩ := rd_e H
                refine z_lald (M := M_X12_isWithin) dX12_isWithin_181 ly_301 rfl rfl rfl hi_74 x_73_e ?_
                exact J_107 _ (Option.some.inj H).symm
            have H := he_109
            refine z_zload (M := M_X12_isWithin) dX12_isWithin_136 rfl ?_
            rcases if_e H with ⟨h_57, H⟩ | ⟨h_57, H⟩
            · refine z_zeq_f (M := M_X12_isWithin) (tgt := 151) dX12_isWithin_138 (by decide) h_57 ?_
              refine z_aload_n (M := M_X12_isWithin) dX12_isWithin_141 rfl ?_
              refine z_getR (M := M_X12_isWithin) (ci := 15) (C := RX12) (T := TX12) (Nf := 135) (ty := tyX12) cl15 dX12_isWithin_142 ly_277 44 (by decide) t_2435 rfl ?_
              refine z_iload (M := M_X12_isWithin) dX12_isWithin_145 rfl ?_
              obtain ⟨x_58, x_58_e, hi_59, H⟩ := rd_e H
              refine z_lald (M := M_X12_isWithin) dX12_isWithin_147 ly_302 rfl rfl rfl hi_59 x_58_e ?_
              refine z_goto (M := M_X12_isWithin) (tgt := 158) dX12_isWithin_148 (by decide) ?_
              exact J_111 _ (Option.some.inj H).symm
            · refine z_zeq_t (M := M_X12_isWithin) (tgt := 151) dX12_isWithin_138 (by decide) h_57 ?_
              refine z_aload_n (M := M_X12_isWithin) dX12_isWithin_151 rfl ?_
              refine z_getR (M := M_X12_isWithin) (ci := 15) (C := RX12) (T := TX12) (Nf := 135) (ty := tyX12) cl15 dX12_isWithin_152 ly_277 42 (by decide) t_2433 rfl ?_
              refine z_iload (M := M_X12_isWithin) dX12_isWithin_155 rfl ?_
              obtain ⟨x_61, x_61_e, hi_62, H⟩ := rd_e H
              refine z_lald (M := M_X12_isWithin) dX12_isWithin_157 ly_300 rfl rfl rfl hi_62 x_61_e ?_
              exact J_111 _ (Option.some.inj H).symm
          have H := he_113
          refine z_zload (M := M_X12_isWithin) dX12_isWithin_112 rfl ?_
          rcases if_e H with ⟨h_45, H⟩ | ⟨h_45, H⟩
          · refine z_zeq_f (M := M_X12_isWithin) (tgt := 127) dX12_isWithin_114 (by decide) h_45 ?_
            refine z_aload_n (M := M_X12_isWithin) dX12_isWithin_117 rfl ?_
            refine z_getR (M := M_X12_isWithin) (ci := 15) (C := RX12) (T := TX12) (Nf := 135) (ty := tyX12) cl15 dX12_isWithin_118 ly_277 43 (by decide) t_2434 rfl ?_
            refine z_iload (M := M_X12_isWithin) dX12_isWithin_121 rfl ?_
            obtain ⟨x_46, x_46_e, hi_47, H⟩ := rd_e H
            refine z_lald (M := M_X12_isWithin) dX12_isWithin_123 ly_301 rfl rfl rfl hi_47 x_46_e ?_
            refine z_goto (M := M_X12_isWithin) (tgt := 134) dX12_isWithin_124 (by decide) ?_
            exact J_115 _ (Option.some.inj H).symm
          · refine z_zeq_t (M := M_X12_isWithin) (tgt := 127) dX12_isWithin_114 (by decide) h_45 ?_
            refine z_aload_n (M := M_X12_isWithin) dX12_isWithin_127 rfl ?_
            refine z_getR (M := M_X12_isWithin) (ci := 15) (C := RX12) (T := TX12) (Nf := 135) (ty := tyX12) cl15 dX12_isWithin_128 ly_277 41 (by decide) t_2432 rfl ?_
            refine z_iload (M := M_X12_isWithin) dX12_isWithin_131 rfl ?_
            obtain ⟨x_49, x_49_e, hi_50, H⟩ := rd_e H
            refine z_lald (M := M_X12_isWithin) dX12_isWithin_133 ly_299 rfl rfl rfl hi_50 x_49_e ?_
            exact J_115 _ (Option.some.inj H).symm
      have H := he_117
      refine z_aload_n (M := M_X12_isWithin) dX12_isWithin_64 rfl ?_
      refine z_getR (M := M_X12_isWithin) (ci := 15) (C := RX12) (T := TX12) (Nf := 135) (ty := tyX12) cl15 dX12_isWithin_65 ly_277 44 (by decide) t_2435 rfl ?_
      refine z_iload (M := M_X12_isWithin) dX12_isWithin_68 rfl ?_
      obtain ⟨x_27, x_27_e, hi_28, H⟩ := rd_e H
      refine z_lald (M := M_X12_isWithin) dX12_isWithin_70 ly_302 rfl rfl rfl hi_28 x_27_e ?_
      refine z_lload_n (M := M_X12_isWithin) dX12_isWithin_71 rfl ?_
      refine z_lcmp (M := M_X12_isWithin) dX12_isWithin_72 ?_
      rcases if_e H with ⟨h_29, H⟩ | ⟨h_29, H⟩
      · refine z_lif_gt_t (M := M_X12_isWithin) (tgt := 95) dX12_isWithin_73 (by decide) rfl rfl h_29 ?_
        refine z_zconst (M := M_X12_isWithin) (b := true) dX12_isWithin_95 rfl ?_
        refine z_goto (M := M_X12_isWithin) (tgt := 100) dX12_isWithin_96 (by decide) ?_
        exact J_119 _ (Option.some.inj H).symm
      · refine z_lif_gt_f (M := M_X12_isWithin) (tgt := 95) dX12_isWithin_73 (by decide) rfl rfl (Int.not_lt.mp h_29) ?_
        refine z_aload_n (M := M_X12_isWithin) dX12_isWithin_76 rfl ?_
        refine z_getR (M := M_X12_isWithin) (ci := 15) (C := RX12) (T := TX12) (Nf := 135) (ty := tyX12) cl15 dX12_isWithin_77 ly_277 44 (by decide) t_2435 rfl ?_
        refine z_iload (M := M_X12_isWithin) dX12_isWithin_80 rfl ?_
        obtain ⟨x_31, x_31_e, hi_32, H⟩ := rd_e H
        refine z_lald (M := M_X12_isWithin) dX12_isWithin_82 ly_302 rfl rfl rfl hi_32 x_31_e ?_
        refine z_lload_n (M := M_X12_isWithin) dX12_isWithin_83 rfl ?_
        refine z_lcmp (M := M_X12_isWithin) dX12_isWithin_84 ?_
        rcases if_e H with ⟨h_33, H⟩ | ⟨h_33, H⟩
        · refine z_lif_ne_f (M := M_X12_isWithin) (tgt := 99) dX12_isWithin_85 (by decide) rfl rfl h_33 ?_
          refine z_lload (M := M_X12_isWithin) dX12_isWithin_88 rfl ?_
          refine z_lconst (M := M_X12_isWithin) (m := 0) dX12_isWithin_90 (by decide +kernel) ?_
          refine z_lcmp (M := M_X12_isWithin) dX12_isWithin_91 ?_
          rcases if_e H with ⟨h_34, H⟩ | ⟨h_34, H⟩
          · refine z_lif_ge_f (M := M_X12_isWithin) (tgt := 99) dX12_isWithin_92 (by decide) rfl (by decide +kernel) h_34 ?_
            refine z_zconst (M := M_X12_isWithin) (b := true) dX12_isWithin_95 rfl ?_
            refine z_goto (M := M_X12_isWithin) (tgt := 100) dX12_isWithin_96 (by decide) ?_
            exact J_119 _ (Option.some.inj H).symm
          · refine z_lif_ge_t (M := M_X12_isWithin) (tgt := 99) dX12_isWithin_92 (by decide) rfl (by decide +kernel) (Int.not_lt.mp h_34) ?_
            refine z_zconst (M := M_X12_isWithin) (b := false) dX12_isWithin_99 rfl ?_
            exact J_119 _ (Option.some.inj H).symm
        · refine z_lif_ne_t (M := M_X12_isWithin) (tgt := 99) dX12_isWithin_85 (by decide) rfl rfl h_33 ?_
          refine z_zconst (M := M_X12_isWithin) (b := false) dX12_isWithin_99 rfl ?_
          exact J_119 _ (Option.some.inj H).symm
    have H := he_121
    refine z_aload_n (M := M_X12_isWithin) dX12_isWithin_26 rfl ?_
    refine z_getR (M := M_X12_isWithin) (ci := 15) (C := RX12) (T := TX12) (Nf := 135) (ty := tyX12) cl15 dX12_isWithin_27 ly_277 42 (by decide) t_2433 rfl ?_
    refine z_iload (M := M_X12_isWithin) dX12_isWithin_30 rfl ?_
    obtain ⟨x_15, x_15_e, hi_16, H⟩ := rd_e H
    refine z_lald (M := M_X12_isWithin) dX12_isWithin_32 ly_300 rfl rfl rfl hi_16 x_15_e ?_
    refine z_lload_n (M := M_X12_isWithin) dX12_isWithin_33 rfl ?_
    refine z_lcmp (M := M_X12_isWithin) dX12_isWithin_34 ?_
    rcases if_e H with ⟨h_17, H⟩ | ⟨h_17, H⟩
    · refine z_lif_gt_t (M := M_X12_isWithin) (tgt := 57) dX12_isWithin_35 (by decide) rfl rfl h_17 ?_
      refine z_zconst (M := M_X12_isWithin) (b := true) dX12_isWithin_57 rfl ?_
      refine z_goto (M := M_X12_isWithin) (tgt := 62) dX12_isWithin_58 (by decide) ?_
      exact J_123 _ (Option.some.inj H).symm
    · refine z_lif_gt_f (M := M_X12_isWithin) (tgt := 57) dX12_isWithin_35 (by decide) rfl rfl (Int.not_lt.mp h_17) ?_
      refine z_aload_n (M := M_X12_isWithin) dX12_isWithin_38 rfl ?_
      refine z_getR (M := M_X12_isWithin) (ci := 15) (C := RX12) (T := TX12) (Nf := 135) (ty := tyX12) cl15 dX12_isWithin_39 ly_277 42 (by decide) t_2433 rfl ?_
      refine z_iload (M := M_X12_isWithin) dX12_isWithin_42 rfl ?_
      obtain ⟨x_19, x_19_e, hi_20, H⟩ := rd_e H
      refine z_lald (M := M_X12_isWithin) dX12_isWithin_44 ly_300 rfl rfl rfl hi_20 x_19_e ?_
      refine z_lload_n (M := M_X12_isWithin) dX12_isWithin_45 rfl ?_
      refine z_lcmp (M := M_X12_isWithin) dX12_isWithin_46 ?_
      rcases if_e H with ⟨h_21, H⟩ | ⟨h_21, H⟩
      · refine z_lif_ne_f (M := M_X12_isWithin) (tgt := 61) dX12_isWithin_47 (by decide) rfl rfl h_21 ?_
        refine z_lload (M := M_X12_isWithin) dX12_isWithin_50 rfl ?_
        refine z_lconst (M := M_X12_isWithin) (m := 0) dX12_isWithin_52 (by decide +kernel) ?_
        refine z_lcmp (M := M_X12_isWithin) dX12_isWithin_53 ?_
        rcases if_e H with ⟨h_22, H⟩ | ⟨h_22, H⟩
        · refine z_lif_ge_f (M := M_X12_isWithin) (tgt := 61) dX12_isWithin_54 (by decide) rfl (by decide +kernel) h_22 ?_
          refine z_zconst (M := M_X12_isWithin) (b := true) dX12_isWithin_57 rfl ?_
          refine z_goto (M := M_X12_isWithin) (tgt := 62) dX12_isWithin_58 (by decide) ?_
          exact J_123 _ (Option.some.inj H).symm
        · refine z_lif_ge_t (M := M_X12_isWithin) (tgt := 61) dX12_isWithin_54 (by decide) rfl (by decide +kernel) (Int.not_lt.mp h_22) ?_
          refine z_zconst (M := M_X12_isWithin) (b := false) dX12_isWithin_61 rfl ?_
          exact J_123 _ (Option.some.inj H).symm
      · refine z_lif_ne_t (M := M_X12_isWithin) (tgt := 61) dX12_isWithin_47 (by decide) rfl rfl h_21 ?_
        refine z_zconst (M := M_X12_isWithin) (b := false) dX12_isWithin_61 rfl ?_
        exact J_123 _ (Option.some.inj H).symm
  · refine z_icmp_ge_t (M := M_X12_isWithin) (tgt := 283) dX12_isWithin_23 (by decide) rfl rfl (Int.not_lt.mp h_14) ?_
    exact J_127 _ _ (K_11 _ (Option.some.inj H).symm).symm
theorem c_X12_isOnRing (hl : l.stackTraces = false) {σ : SG} {x_0 : Int} {y_0 : Int} {ring_0 : Int} {r : Bool}  (H : fR_isOnRing σ x_0 y_0 ring_0 = some r) : en_S l E M_X12_isOnRing 4 0 0 [vr 277, vl x_0, vl y_0, vi ring_0] σ (pS (some (zv r)) σ) := by
  unfold fR_isOnRing at H
  refine z_mk (lv := [some (vr 277), some (vl x_0), none, some (vl y_0), none, some (vi ring_0), none, none]) m_X12_isOnRing rfl hl (Nat.le_of_ble_eq_true rfl) rfl ?_
  refine z_zconst (M := M_X12_isOnRing) (b := false) dX12_isOnRing_0 rfl ?_
  refine z_zstore (M := M_X12_isOnRing) (lv' := [some (vr 277), some (vl x_0), none, some (vl y_0), none, some (vi ring_0), some (zv false), none]) dX12_isOnRing_1 (Nat.le_of_ble_eq_true rfl) rfl rfl ?_
  refine z_aload_n (M := M_X12_isOnRing) dX12_isOnRing_3 rfl ?_
  refine z_getR (M := M_X12_isOnRing) (ci := 15) (C := RX12) (T := TX12) (Nf := 135) (ty := tyX12) cl15 dX12_isOnRing_4 ly_277 56 (by decide) t_2447 rfl ?_
  refine z_iload (M := M_X12_isOnRing) dX12_isOnRing_7 rfl ?_
  obtain ⟨x_1, x_1_e, hi_2, H⟩ := rd_e H
  refine z_iald (M := M_X12_isOnRing) dX12_isOnRing_9 ly_310 rfl rfl rfl hi_2 x_1_e ?_
  refine z_istore (M := M_X12_isOnRing) (lv' := [some (vr 277), some (vl x_0), none, some (vl y_0), none, some (vi ring_0), some (zv false), some (vi x_1)]) dX12_isOnRing_10 (Nat.le_of_ble_eq_true rfl) rfl rfl ?_
  obtain ⟨rl_8, hw_5, hk_6⟩ := bd_e H
  have J_31 : ∀ on_29 i_30, rl_8 = (on_29, i_30) → YY l E M_X12_isOnRing 4 0 0 (pS (some (zv r)) σ) 47 [some (vr 277), some (vl x_0), none, some (vl y_0), none, some (vi ring_0), some (zv on_29), some (vi i_30)] [] σ 0 0 := by
    intro on_29 i_30 e
    have H := hk_6
    rw [e] at H
    refine z_zload (M := M_X12_isOnRing) dX12_isOnRing_47 rfl ?_
    cases H
    exact z_zret (M := M_X12_isOnRing) dX12_isOnRing_49 rfl (Nat.le_of_ble_eq_true rfl) (Nat.le_of_ble_eq_true rfl) ⟨rfl, rfl⟩
  refine whl_go hw_5 (fun (on_3, i_4) => YY l E M_X12_isOnRing 4 0 0 (pS (some (zv r)) σ) 12 [some (vr 277), some (vl x_0), none, some (vl y_0), none, some (vi ring_0), some (zv on_3), some (vi i_4)] [] σ 0 0) ?_
  rintro ⟨on_3, i_4⟩ o_9 H K_10 K_11
  refine z_iload (M := M_X12_isOnRing) dX12_isOnRing_12 rfl ?_
  refine z_aload_n (M := M_X12_isOnRing) dX12_isOnRing_14 rfl ?_
  refine z_getR (M := M_X12_isOnRing) (ci := 15) (C := RX12) (T := TX12) (Nf := 135) (ty := tyX12) cl15 dX12_isOnRing_15 ly_277 56 (by decide) t_2447 rfl ?_
  refine z_iload (M := M_X12_isOnRing) dX12_isOnRing_18 rfl ?_
  refine z_iconst (M := M_X12_isOnRing) dX12_isOnRing_20 ?_
  refine z_iadd (M := M_X12_isOnRing) dX12_isOnRing_21 ?_
  obtain ⟨x_20, x_20_e, hi_21, H⟩ := rd_e H
  refine z_iald (M := M_X12_isOnRing) dX12_isOnRing_22 ly_310 rfl rfl rfl hi_21 x_20_e ?_
  rcases if_e H with ⟨h_22, H⟩ | ⟨h_22, H⟩
  · refine z_icmp_ge_f (M := M_X12_isOnRing) (tgt := 47) dX12_isOnRing_23 (by decide) rfl rfl h_22 ?_
    refine z_zload (M := M_X12_isOnRing) dX12_isOnRing_26 rfl ?_
    rcases if_e H with ⟨h_23, H⟩ | ⟨h_23, H⟩
    · refine z_zne_t (M := M_X12_isOnRing) (tgt := 47) dX12_isOnRing_28 (by decide) h_23 ?_
      exact J_31 _ _ (K_11 _ (Option.some.inj H).symm).symm
    · refine z_zne_f (M := M_X12_isOnRing) (tgt := 47) dX12_isOnRing_28 (by decide) h_23 ?_
      refine z_aload_n (M := M_X12_isOnRing) dX12_isOnRing_31 rfl ?_
      refine z_iload (M := M_X12_isOnRing) dX12_isOnRing_32 rfl ?_
      refine z_lload_n (M := M_X12_isOnRing) dX12_isOnRing_34 rfl ?_
      refine z_lload_n (M := M_X12_isOnRing) dX12_isOnRing_35 rfl ?_
      obtain ⟨x_26, hc_25, H⟩ := bd_e H
      refine z_callV (M := M_X12_isOnRing) (M' := M_X12_isOn) (as := [vi i_4, vl x_0, vl y_0]) (rest := []) rfl rfl dX12_isOnRing_36 m_X12_isOn t_3309 t_3311 s_242 (c_X12_isOn hl  hc_25) rfl rfl ly_277 rfl (Nat.le_of_ble_eq_true rfl) (Nat.le_of_ble_eq_true rfl) (Nat.le_of_ble_eq_true rfl) (Nat.le_of_ble_eq_true rfl) ?_
      refine z_st (st' := [zv x_26]) rfl ?_
      refine z_zstore (M := M_X12_isOnRing) (lv' := [some (vr 277), some (vl x_0), none, some (vl y_0), none, some (vi ring_0), some (zv x_26), some (vi i_4)]) dX12_isOnRing_39 (Nat.le_of_ble_eq_true rfl) rfl rfl ?_
      refine z_iinc (M := M_X12_isOnRing) (lv' := [some (vr 277), some (vl x_0), none, some (vl y_0), none, some (vi ring_0), some (zv x_26), some (vi (i_4 + 1))]) dX12_isOnRing_41 rfl (Nat.le_of_ble_eq_true rfl) rfl rfl ?_
      refine z_goto (M := M_X12_isOnRing) (tgt := 12) dX12_isOnRing_44 (by decide) ?_
      exact K_10 _ (Option.some.inj H).symm
  · refine z_icmp_ge_t (M := M_X12_isOnRing) (tgt := 47) dX12_isOnRing_23 (by decide) rfl rfl (Int.not_lt.mp h_22) ?_
    exact J_31 _ _ (K_11 _ (Option.some.inj H).symm).symm
theorem c_X12_liesIn (hl : l.stackTraces = false) {σ : SG} {ring_0 : Int} {other_0 : Int} {r : Bool}  (H : fR_liesIn σ ring_0 other_0 = some r) : en_S l E M_X12_liesIn 5 0 0 [vr 277, vi ring_0, vi other_0] σ (pS (some (zv r)) σ) := by
  unfold fR_liesIn at H
  refine z_mk (lv := [some (vr 277), some (vi ring_0), some (vi other_0), none, none]) m_X12_liesIn rfl hl (Nat.le_of_ble_eq_true rfl) rfl ?_
  refine z_aload_n (M := M_X12_liesIn) dX12_liesIn_0 rfl ?_
  refine z_getR (M := M_X12_liesIn) (ci := 15) (C := RX12) (T := TX12) (Nf := 135) (ty := tyX12) cl15 dX12_liesIn_1 ly_277 56 (by decide) t_2447 rfl ?_
  refine z_iload_n (M := M_X12_liesIn) dX12_liesIn_4 rfl ?_
  obtain ⟨x_1, x_1_e, hi_2, H⟩ := rd_e H
  refine z_iald (M := M_X12_liesIn) dX12_liesIn_5 ly_310 rfl rfl rfl hi_2 x_1_e ?_
  refine z_istore_n (M := M_X12_liesIn) (lv' := [some (vr 277), some (vi ring_0), some (vi other_0), some (vi x_1), none]) dX12_liesIn_6 (Nat.le_of_ble_eq_true rfl) rfl rfl ?_
  refine z_iload_n (M := M_X12_liesIn) dX12_liesIn_7 rfl ?_
  refine z_istore (M := M_X12_liesIn) (lv' := [some (vr 277), some (vi ring_0), some (vi other_0), some (vi x_1), some (vi x_1)]) dX12_liesIn_8 (Nat.le_of_ble_eq_true rfl) rfl rfl ?_
  obtain ⟨rl_7, hw_4, hk_5, hk_6⟩ := bx_e H
  have J_44 : ∀ i_29, rl_7 = (.inl i_29) → YY l E M_X12_liesIn 5 0 0 (pS (some (zv r)) σ) 73 [some (vr 277), some (vi ring_0), some (vi other_0), some (vi x_1), some (vi i_29)] [] σ 0 0 := by
    intro i_29 e
    have H := hk_5 _ e
    refine z_aload_n (M := M_X12_liesIn) dX12_liesIn_73 rfl ?_
    refine z_aload_n (M := M_X12_liesIn) dX12_liesIn_74 rfl ?_
    refine z_getR (M := M_X12_liesIn) (ci := 15) (C := RX12) (T := TX12) (Nf := 135) (ty := tyX12) cl15 dX12_liesIn_75 ly_277 41 (by decide) t_2432 rfl ?_
    refine z_iload_n (M := M_X12_liesIn) dX12_liesIn_78 rfl ?_
    obtain ⟨x_30, x_30_e, hi_31, H⟩ := rd_e H
    refine z_lald (M := M_X12_liesIn) dX12_liesIn_79 ly_299 rfl rfl rfl hi_31 x_30_e ?_
    refine z_aload_n (M := M_X12_liesIn) dX12_liesIn_80 rfl ?_
    refine z_getR (M := M_X12_liesIn) (ci := 15) (C := RX12) (T := TX12) (Nf := 135) (ty := tyX12) cl15 dX12_liesIn_81 ly_277 42 (by decide) t_2433 rfl ?_
    refine z_iload_n (M := M_X12_liesIn) dX12_liesIn_84 rfl ?_
    obtain ⟨x_32, x_32_e, hi_33, H⟩ := rd_e H
    refine z_lald (M := M_X12_liesIn) dX12_liesIn_85 ly_300 rfl rfl rfl hi_33 x_32_e ?_
    refine z_iload_n (M := M_X12_liesIn) dX12_liesIn_86 rfl ?_
    refine z_aload_n (M := M_X12_liesIn) dX12_liesIn_87 rfl ?_
    refine z_getR (M := M_X12_liesIn) (ci := 15) (C := RX12) (T := TX12) (Nf := 135) (ty := tyX12) cl15 dX12_liesIn_88 ly_277 43 (by decide) t_2434 rfl ?_
    refine z_iload_n (M := M_X12_liesIn) dX12_liesIn_91 rfl ?_
    obtain ⟨x_34, x_34_e, hi_35, H⟩ := rd_e H
    refine z_lald (M := M_X12_liesIn) dX12_liesIn_92 ly_301 rfl rfl rfl hi_35 x_34_e ?_
    refine z_aload_n (M := M_X12_liesIn) dX12_liesIn_93 rfl ?_
    refine z_getR (M := M_X12_liesIn) (ci := 15) (C := RX12) (T := TX12) (Nf := 135) (ty := tyX12) cl15 dX12_liesIn_94 ly_277 41 (by decide) t_2432 rfl ?_
    refine z_iload_n (M := M_X12_liesIn) dX12_liesIn_97 rfl ?_
    obtain ⟨x_36, x_36_e, hi_37, H⟩ := rd_e H
    refine z_lald (M := M_X12_liesIn) dX12_liesIn_98 ly_299 rfl rfl rfl hi_37 x_36_e ?_
    refine z_lsub (M := M_X12_liesIn) dX12_liesIn_99 ?_
    refine z_aload_n (M := M_X12_liesIn) dX12_liesIn_100 rfl ?_
    refine z_getR (M := M_X12_liesIn) (ci := 15) (C := RX12) (T := TX12) (Nf := 135) (ty := tyX12) cl15 dX12_liesIn_101 ly_277 44 (by decide) t_2435 rfl ?_
    refine z_iload_n (M := M_X12_liesIn) dX12_liesIn_104 rfl ?_
    obtain ⟨x_38, x_38_e, hi_39, H⟩ := rd_e H
    refine z_lald (M := M_X12_liesIn) dX12_liesIn_105 ly_302 rfl rfl rfl hi_39 x_38_e ?_
    refine z_aload_n (M := M_X12_liesIn) dX12_liesIn_106 rfl ?_
    refine z_getR (M := M_X12_liesIn) (ci := 15) (C := RX12) (T := TX12) (Nf := 135) (ty := tyX12) cl15 dX12_liesIn_107 ly_277 42 (by decide) t_2433 rfl ?_
    refine z_iload_n (M := M_X12_liesIn) dX12_liesIn_110 rfl ?_
    obtain ⟨x_40, x_40_e, hi_41, H⟩ := rd_e H
    refine z_lald (M := M_X12_liesIn) dX12_liesIn_111 ly_300 rfl rfl rfl hi_41 x_40_e ?_
    refine z_lsub (M := M_X12_liesIn) dX12_liesIn_112 ?_
    obtain ⟨x_43, hc_42, H⟩ := bd_e H
    refine z_callV (M := M_X12_liesIn) (M' := M_X12_isWithin) (as := [vl x_30, vl x_32, vi other_0, vl (x_34 - x_36), vl (x_38 - x_40)]) (rest := []) rfl rfl dX12_liesIn_113 m_X12_isWithin t_3313 t_3315 s_243 (c_X12_isWithin hl  hc_42) rfl rfl ly_277 rfl (Nat.le_of_ble_eq_true rfl) (Nat.le_of_ble_eq_true rfl) (Nat.le_of_ble_eq_true rfl) (Nat.le_of_ble_eq_true rfl) ?_
    refine z_st (st' := [zv x_43]) rfl ?_
    cases H
    exact z_zret (M := M_X12_liesIn) dX12_liesIn_116 rfl (Nat.le_of_ble_eq_true rfl) (Nat.le_of_ble_eq_true rfl) ⟨rfl, rfl⟩
  refine whl_go hw_4 (fun i_3 => YY l E M_X12_liesIn 5 0 0 (pS (some (zv r)) σ) 10 [some (vr 277), some (vi ring_0), some (vi other_0), some (vi x_1), some (vi i_3)] [] σ 0 0) ?_
  rintro i_3 o_8 H K_9 K_10
  refine z_iload (M := M_X12_liesIn) dX12_liesIn_10 rfl ?_
  refine z_aload_n (M := M_X12_liesIn) dX12_liesIn_12 rfl ?_
  refine z_getR (M := M_X12_liesIn) (ci := 15) (C := RX12) (T := TX12) (Nf := 135) (ty := tyX12) cl15 dX12_liesIn_13 ly_277 56 (by decide) t_2447 rfl ?_
  refine z_iload_n (M := M_X12_liesIn) dX12_liesIn_16 rfl ?_
  refine z_iconst (M := M_X12_liesIn) dX12_liesIn_17 ?_
  refine z_iadd (M := M_X12_liesIn) dX12_liesIn_18 ?_
  obtain ⟨x_11, x_11_e, hi_12, H⟩ := rd_e H
  refine z_iald (M := M_X12_liesIn) dX12_liesIn_19 ly_310 rfl rfl rfl hi_12 x_11_e ?_
  rcases if_e H with ⟨h_13, H⟩ | ⟨h_13, H⟩
  · refine z_icmp_ge_f (M := M_X12_liesIn) (tgt := 73) dX12_liesIn_20 (by decide) rfl rfl h_13 ?_
    refine z_aload_n (M := M_X12_liesIn) dX12_liesIn_23 rfl ?_
    refine z_aload_n (M := M_X12_liesIn) dX12_liesIn_24 rfl ?_
    refine z_getR (M := M_X12_liesIn) (ci := 15) (C := RX12) (T := TX12) (Nf := 135) (ty := tyX12) cl15 dX12_liesIn_25 ly_277 41 (by decide) t_2432 rfl ?_
    refine z_iload (M := M_X12_liesIn) dX12_liesIn_28 rfl ?_
    obtain ⟨x_14, x_14_e, hi_15, H⟩ := rd_e H
    refine z_lald (M := M_X12_liesIn) dX12_liesIn_30 ly_299 rfl rfl rfl hi_15 x_14_e ?_
    refine z_aload_n (M := M_X12_liesIn) dX12_liesIn_31 rfl ?_
    refine z_getR (M := M_X12_liesIn) (ci := 15) (C := RX12) (T := TX12) (Nf := 135) (ty := tyX12) cl15 dX12_liesIn_32 ly_277 42 (by decide) t_2433 rfl ?_
    refine z_iload (M := M_X12_liesIn) dX12_liesIn_35 rfl ?_
    obtain ⟨x_16, x_16_e, hi_17, H⟩ := rd_e H
    refine z_lald (M := M_X12_liesIn) dX12_liesIn_37 ly_300 rfl rfl rfl hi_17 x_16_e ?_
    refine z_iload_n (M := M_X12_liesIn) dX12_liesIn_38 rfl ?_
    obtain ⟨x_19, hc_18, H⟩ := bd_e H
    refine z_callV (M := M_X12_liesIn) (M' := M_X12_isOnRing) (as := [vl x_14, vl x_16, vi other_0]) (rest := []) rfl rfl dX12_liesIn_39 m_X12_isOnRing t_3305 t_3307 s_241 (c_X12_isOnRing hl  hc_18) rfl rfl ly_277 rfl (Nat.le_of_ble_eq_true rfl) (Nat.le_of_ble_eq_true rfl) (Nat.le_of_ble_eq_true rfl) (Nat.le_of_ble_eq_true rfl) ?_
    refine z_st (st' := [zv x_19]) rfl ?_
    rcases if_e H with ⟨h_20, H⟩ | ⟨h_20, H⟩
    · refine z_zne_t (M := M_X12_liesIn) (tgt := 67) dX12_liesIn_42 (by decide) h_20 ?_
      refine z_iinc (M := M_X12_liesIn) (lv' := [some (vr 277), some (vi ring_0), some (vi other_0), some (vi x_1), some (vi (i_3 + 1))]) dX12_liesIn_67 rfl (Nat.le_of_ble_eq_true rfl) rfl rfl ?_
      refine z_goto (M := M_X12_liesIn) (tgt := 10) dX12_liesIn_70 (by decide) ?_
      exact K_9 _ (Option.some.inj H).symm
    · refine z_zne_f (M := M_X12_liesIn) (tgt := 67) dX12_liesIn_42 (by decide) h_20 ?_
      refine z_aload_n (M := M_X12_liesIn) dX12_liesIn_45 rfl ?_
      refine z_aload_n (M := M_X12_liesIn) dX12_liesIn_46 rfl ?_
      refine z_getR (M := M_X12_liesIn) (ci := 15) (C := RX12) (T := TX12) (Nf := 135) (ty := tyX12) cl15 dX12_liesIn_47 ly_277 41 (by decide) t_2432 rfl ?_
      refine z_iload (M := M_X12_liesIn) dX12_liesIn_50 rfl ?_
      obtain ⟨x_22, x_22_e, hi_23, H⟩ := rd_e H
      refine z_lald (M := M_X12_liesIn) dX12_liesIn_52 ly_299 rfl rfl rfl hi_23 x_22_e ?_
      refine z_aload_n (M := M_X12_liesIn) dX12_liesIn_53 rfl ?_
      refine z_getR (M := M_X12_liesIn) (ci := 15) (C := RX12) (T := TX12) (Nf := 135) (ty := tyX12) cl15 dX12_liesIn_54 ly_277 42 (by decide) t_2433 rfl ?_
      refine z_iload (M := M_X12_liesIn) dX12_liesIn_57 rfl ?_
      obtain ⟨x_24, x_24_e, hi_25, H⟩ := rd_e H
      refine z_lald (M := M_X12_liesIn) dX12_liesIn_59 ly_300 rfl rfl rfl hi_25 x_24_e ?_
      refine z_iload_n (M := M_X12_liesIn) dX12_liesIn_60 rfl ?_
      refine z_lconst (M := M_X12_liesIn) (m := 0) dX12_liesIn_61 (by decide +kernel) ?_
      refine z_lconst (M := M_X12_liesIn) (m := 0) dX12_liesIn_62 (by decide +kernel) ?_
      obtain ⟨x_27, hc_26, H⟩ := bd_e H
      refine z_callV (M := M_X12_liesIn) (M' := M_X12_isWithin) (as := [vl x_22, vl x_24, vi other_0, vl 0, vl 0]) (rest := []) rfl rfl dX12_liesIn_63 m_X12_isWithin t_3313 t_3315 s_243 (c_X12_isWithin hl  hc_26) rfl rfl ly_277 rfl (Nat.le_of_ble_eq_true rfl) (Nat.le_of_ble_eq_true rfl) (Nat.le_of_ble_eq_true rfl) (Nat.le_of_ble_eq_true rfl) ?_
      refine z_st (st' := [zv x_27]) rfl ?_
      have H := congrArg some (hk_6 _ ((K_10 _ (Option.some.inj H).symm).symm))
      cases H
      exact z_zret (M := M_X12_liesIn) dX12_liesIn_66 rfl (Nat.le_of_ble_eq_true rfl) (Nat.le_of_ble_eq_true rfl) ⟨rfl, rfl⟩
  · refine z_icmp_ge_t (M := M_X12_liesIn) (tgt := 73) dX12_liesIn_20 (by decide) rfl rfl (Int.not_lt.mp h_13) ?_
    exact J_44 _ (K_10 _ (Option.some.inj H).symm).symm
theorem c_X12_root (hl : l.stackTraces = false) {σ : SG} {k_0 : Int} {r : Int}  (H : fR_root σ k_0 = some r) : en_S l E M_X12_root 1 0 0 [vr 277, vi k_0] σ (pS (some (vi r)) σ) := by
  unfold fR_root at H
  refine z_mk (lv := [some (vr 277), some (vi k_0), none]) m_X12_root rfl hl (Nat.le_of_ble_eq_true rfl) rfl ?_
  refine z_iload_n (M := M_X12_root) dX12_root_0 rfl ?_
  refine z_istore_n (M := M_X12_root) (lv' := [some (vr 277), some (vi k_0), some (vi k_0)]) dX12_root_1 (Nat.le_of_ble_eq_true rfl) rfl rfl ?_
  obtain ⟨rl_5, hw_2, hk_3⟩ := bd_e H
  have J_17 : ∀ r_16, rl_5 = r_16 → YY l E M_X12_root 1 0 0 (pS (some (vi r)) σ) 22 [some (vr 277), some (vi k_0), some (vi r_16)] [] σ 0 0 := by
    intro r_16 e
    have H := hk_3
    rw [e] at H
    refine z_iload_n (M := M_X12_root) dX12_root_22 rfl ?_
    cases H
    exact z_iret (M := M_X12_root) dX12_root_23 rfl (Nat.le_of_ble_eq_true rfl) (Nat.le_of_ble_eq_true rfl) ⟨rfl, rfl⟩
  refine whl_go hw_2 (fun r_1 => YY l E M_X12_root 1 0 0 (pS (some (vi r)) σ) 2 [some (vr 277), some (vi k_0), some (vi r_1)] [] σ 0 0) ?_
  rintro r_1 o_6 H K_7 K_8
  refine z_aload_n (M := M_X12_root) dX12_root_2 rfl ?_
  refine z_getR (M := M_X12_root) (ci := 15) (C := RX12) (T := TX12) (Nf := 135) (ty := tyX12) cl15 dX12_root_3 ly_277 66 (by decide) t_2457 rfl ?_
  refine z_iload_n (M := M_X12_root) dX12_root_6 rfl ?_
  obtain ⟨x_9, x_9_e, hi_10, H⟩ := rd_e H
  refine z_iald (M := M_X12_root) dX12_root_7 ly_316 rfl rfl rfl hi_10 x_9_e ?_
  refine z_iload_n (M := M_X12_root) dX12_root_8 rfl ?_
  rcases if_e H with ⟨h_11, H⟩ | ⟨h_11, H⟩
  · refine z_icmp_eq_f (M := M_X12_root) (tgt := 22) dX12_root_9 (by decide) rfl rfl h_11 ?_
    refine z_aload_n (M := M_X12_root) dX12_root_12 rfl ?_
    refine z_getR (M := M_X12_root) (ci := 15) (C := RX12) (T := TX12) (Nf := 135) (ty := tyX12) cl15 dX12_root_13 ly_277 66 (by decide) t_2457 rfl ?_
    refine z_iload_n (M := M_X12_root) dX12_root_16 rfl ?_
    obtain ⟨x_12, x_12_e, hi_13, H⟩ := rd_e H
    refine z_iald (M := M_X12_root) dX12_root_17 ly_316 rfl rfl rfl hi_13 x_12_e ?_
    refine z_istore_n (M := M_X12_root) (lv' := [some (vr 277), some (vi k_0), some (vi x_12)]) dX12_root_18 (Nat.le_of_ble_eq_true rfl) rfl rfl ?_
    refine z_goto (M := M_X12_root) (tgt := 2) dX12_root_19 (by decide) ?_
    exact K_7 _ (Option.some.inj H).symm
  · refine z_icmp_eq_t (M := M_X12_root) (tgt := 22) dX12_root_9 (by decide) rfl rfl (Decidable.not_not.mp h_11) ?_
    exact J_17 _ (K_8 _ (Option.some.inj H).symm).symm
theorem c_X12_touch (hl : l.stackTraces = false) {σ : SG} {r : Int} {σ' : SG}  (H : fR_touch σ = some (r, σ')) : en_S l E M_X12_touch 1 0 0 [vr 277] σ (pS (some (vi r)) σ') := by
  unfold fR_touch at H
  refine z_mk (lv := [some (vr 277), none]) m_X12_touch rfl hl (Nat.le_of_ble_eq_true rfl) rfl ?_
  refine z_iconst (M := M_X12_touch) dX12_touch_0 ?_
  refine z_istore_n (M := M_X12_touch) (lv' := [some (vr 277), some (vi 0)]) dX12_touch_1 (Nat.le_of_ble_eq_true rfl) rfl rfl ?_
  obtain ⟨rl_5, hw_2, hk_3, hk_4⟩ := bx_e H
  have J_37 : ∀ k_29, rl_5 = (.inl k_29) → YY l E M_X12_touch 1 0 0 (pS (some (vi r)) σ') 46 [some (vr 277), some (vi k_29)] [] σ 0 0 := by
    intro k_29 e
    have H := hk_3 _ e
    refine z_aload_n (M := M_X12_touch) dX12_touch_46 rfl ?_
    refine z_getR (M := M_X12_touch) (ci := 15) (C := RX12) (T := TX12) (Nf := 135) (ty := tyX12) cl15 dX12_touch_47 ly_277 60 (by decide) t_2451 rfl ?_
    refine z_aload_n (M := M_X12_touch) dX12_touch_50 rfl ?_
    refine z_getI (M := M_X12_touch) (ci := 15) (C := RX12) (T := TX12) (Nf := 135) (ty := tyX12) cl15 dX12_touch_51 ly_277 62 (by decide) t_2453 rfl rfl ?_
    refine z_aload_n (M := M_X12_touch) dX12_touch_54 rfl ?_
    refine z_getL (M := M_X12_touch) (ci := 15) (C := RX12) (T := TX12) (Nf := 135) (ty := tyX12) cl15 dX12_touch_55 ly_277 50 (by decide) t_2441 rfl rfl ?_
    obtain ⟨σ_30, σ_30_e, hi_31, H⟩ := wa_e H
    refine z_last (M := M_X12_touch) dX12_touch_58 ly_312 rfl rfl rfl hi_31 σ_30_e ?_
    refine z_aload_n (M := M_X12_touch) dX12_touch_59 rfl ?_
    refine z_getR (M := M_X12_touch) (ci := 15) (C := RX12) (T := TX12) (Nf := 135) (ty := tyX12) cl15 dX12_touch_60 ly_277 61 (by decide) t_2452 rfl ?_
    refine z_aload_n (M := M_X12_touch) dX12_touch_63 rfl ?_
    refine z_getI (M := M_X12_touch) (ci := 15) (C := RX12) (T := TX12) (Nf := 135) (ty := tyX12) cl15 dX12_touch_64 ly_277 62 (by decide) t_2453 rfl rfl ?_
    refine z_aload_n (M := M_X12_touch) dX12_touch_67 rfl ?_
    refine z_getL (M := M_X12_touch) (ci := 15) (C := RX12) (T := TX12) (Nf := 135) (ty := tyX12) cl15 dX12_touch_68 ly_277 51 (by decide) t_2442 rfl rfl ?_
    obtain ⟨σ_32, σ_32_e, hi_33, H⟩ := wa_e H
    refine z_last (M := M_X12_touch) dX12_touch_71 ly_313 rfl rfl rfl hi_33 σ_32_e ?_
    refine z_aload_n (M := M_X12_touch) dX12_touch_72 rfl ?_
    refine z_getR (M := M_X12_touch) (ci := 15) (C := RX12) (T := TX12) (Nf := 135) (ty := tyX12) cl15 dX12_touch_73 ly_277 66 (by decide) t_2457 rfl ?_
    refine z_sipush (M := M_X12_touch) dX12_touch_76 (by decide +kernel) ?_
    refine z_aload_n (M := M_X12_touch) dX12_touch_79 rfl ?_
    refine z_getI (M := M_X12_touch) (ci := 15) (C := RX12) (T := TX12) (Nf := 135) (ty := tyX12) cl15 dX12_touch_80 ly_277 62 (by decide) t_2453 rfl rfl ?_
    refine z_iadd (M := M_X12_touch) dX12_touch_83 ?_
    refine z_sipush (M := M_X12_touch) dX12_touch_84 (by decide +kernel) ?_
    refine z_aload_n (M := M_X12_touch) dX12_touch_87 rfl ?_
    refine z_getI (M := M_X12_touch) (ci := 15) (C := RX12) (T := TX12) (Nf := 135) (ty := tyX12) cl15 dX12_touch_88 ly_277 62 (by decide) t_2453 rfl rfl ?_
    refine z_iadd (M := M_X12_touch) dX12_touch_91 ?_
    obtain ⟨σ_34, σ_34_e, hi_35, H⟩ := wa_e H
    refine z_iast (M := M_X12_touch) dX12_touch_92 ly_316 rfl rfl rfl hi_35 σ_34_e ?_
    refine z_aload_n (M := M_X12_touch) dX12_touch_93 rfl ?_
    refine z_dup (M := M_X12_touch) dX12_touch_94 rfl ?_
    refine z_getI (M := M_X12_touch) (ci := 15) (C := RX12) (T := TX12) (Nf := 135) (ty := tyX12) cl15 dX12_touch_95 ly_277 62 (by decide) t_2453 rfl rfl ?_
    refine z_iconst (M := M_X12_touch) dX12_touch_98 ?_
    refine z_iadd (M := M_X12_touch) dX12_touch_99 ?_
    obtain ⟨σ_36, σ_36_e, H⟩ := wf_e H
    refine z_putI (M := M_X12_touch) (ci := 15) (C := RX12) (T := TX12) (Nf := 135) (ty := tyX12) cl15 dX12_touch_100 ly_277 62 (by decide) t_2453 rfl rfl rfl rfl σ_36_e ?_
    refine z_aload_n (M := M_X12_touch) dX12_touch_103 rfl ?_
    refine z_getI (M := M_X12_touch) (ci := 15) (C := RX12) (T := TX12) (Nf := 135) (ty := tyX12) cl15 dX12_touch_104 ly_277 62 (by decide) t_2453 rfl rfl ?_
    refine z_iconst (M := M_X12_touch) dX12_touch_107 ?_
    refine z_isub (M := M_X12_touch) dX12_touch_108 ?_
    cases H
    exact z_iret (M := M_X12_touch) dX12_touch_109 rfl (Nat.le_of_ble_eq_true rfl) (Nat.le_of_ble_eq_true rfl) ⟨rfl, rfl⟩
  refine whl_go hw_2 (fun k_1 => YY l E M_X12_touch 1 0 0 (pS (some (vi r)) σ') 2 [some (vr 277), some (vi k_1)] [] σ 0 0) ?_
  rintro k_1 o_6 H K_7 K_8
  refine z_iload_n (M := M_X12_touch) dX12_touch_2 rfl ?_
  refine z_aload_n (M := M_X12_touch) dX12_touch_3 rfl ?_
  refine z_getI (M := M_X12_touch) (ci := 15) (C := RX12) (T := TX12) (Nf := 135) (ty := tyX12) cl15 dX12_touch_4 ly_277 62 (by decide) t_2453 rfl rfl ?_
  rcases if_e H with ⟨h_9, H⟩ | ⟨h_9, H⟩
  · refine z_icmp_ge_f (M := M_X12_touch) (tgt := 46) dX12_touch_7 (by decide) rfl rfl h_9 ?_
    refine z_aload_n (M := M_X12_touch) dX12_touch_10 rfl ?_
    refine z_getR (M := M_X12_touch) (ci := 15) (C := RX12) (T := TX12) (Nf := 135) (ty := tyX12) cl15 dX12_touch_11 ly_277 60 (by decide) t_2451 rfl ?_
    refine z_iload_n (M := M_X12_touch) dX12_touch_14 rfl ?_
    obtain ⟨x_20, x_20_e, hi_21, H⟩ := rd_e H
    refine z_lald (M := M_X12_touch) dX12_touch_15 ly_312 rfl rfl rfl hi_21 x_20_e ?_
    refine z_aload_n (M := M_X12_touch) dX12_touch_16 rfl ?_
    refine z_getL (M := M_X12_touch) (ci := 15) (C := RX12) (T := TX12) (Nf := 135) (ty := tyX12) cl15 dX12_touch_17 ly_277 50 (by decide) t_2441 rfl rfl ?_
    refine z_lcmp (M := M_X12_touch) dX12_touch_20 ?_
    rcases if_e H with ⟨h_22, H⟩ | ⟨h_22, H⟩
    · refine z_lif_ne_f (M := M_X12_touch) (tgt := 40) dX12_touch_21 (by decide) rfl rfl h_22 ?_
      refine z_aload_n (M := M_X12_touch) dX12_touch_24 rfl ?_
      refine z_getR (M := M_X12_touch) (ci := 15) (C := RX12) (T := TX12) (Nf := 135) (ty := tyX12) cl15 dX12_touch_25 ly_277 61 (by decide) t_2452 rfl ?_
      refine z_iload_n (M := M_X12_touch) dX12_touch_28 rfl ?_
      obtain ⟨x_23, x_23_e, hi_24, H⟩ := rd_e H
      refine z_lald (M := M_X12_touch) dX12_touch_29 ly_313 rfl rfl rfl hi_24 x_23_e ?_
      refine z_aload_n (M := M_X12_touch) dX12_touch_30 rfl ?_
      refine z_getL (M := M_X12_touch) (ci := 15) (C := RX12) (T := TX12) (Nf := 135) (ty := tyX12) cl15 dX12_touch_31 ly_277 51 (by decide) t_2442 rfl rfl ?_
      refine z_lcmp (M := M_X12_touch) dX12_touch_34 ?_
      rcases if_e H with ⟨h_25, H⟩ | ⟨h_25, H⟩
      · refine z_lif_ne_f (M := M_X12_touch) (tgt := 40) dX12_touch_35 (by decide) rfl rfl h_25 ?_
        refine z_iload_n (M := M_X12_touch) dX12_touch_38 rfl ?_
        have H := congrArg some (hk_4 _ ((K_8 _ (Option.some.inj H).symm).symm))
        cases H
        exact z_iret (M := M_X12_touch) dX12_touch_39 rfl (Nat.le_of_ble_eq_true rfl) (Nat.le_of_ble_eq_true rfl) ⟨rfl, rfl⟩
      · refine z_lif_ne_t (M := M_X12_touch) (tgt := 40) dX12_touch_35 (by decide) rfl rfl h_25 ?_
        refine z_iinc (M := M_X12_touch) (lv' := [some (vr 277), some (vi (k_1 + 1))]) dX12_touch_40 rfl (Nat.le_of_ble_eq_true rfl) rfl rfl ?_
        refine z_goto (M := M_X12_touch) (tgt := 2) dX12_touch_43 (by decide) ?_
        exact K_7 _ (Option.some.inj H).symm
    · refine z_lif_ne_t (M := M_X12_touch) (tgt := 40) dX12_touch_21 (by decide) rfl rfl h_22 ?_
      refine z_iinc (M := M_X12_touch) (lv' := [some (vr 277), some (vi (k_1 + 1))]) dX12_touch_40 rfl (Nat.le_of_ble_eq_true rfl) rfl rfl ?_
      refine z_goto (M := M_X12_touch) (tgt := 2) dX12_touch_43 (by decide) ?_
      exact K_7 _ (Option.some.inj H).symm
  · refine z_icmp_ge_t (M := M_X12_touch) (tgt := 46) dX12_touch_7 (by decide) rfl rfl (Int.not_lt.mp h_9) ?_
    exact J_37 _ (K_8 _ (Option.some.inj H).symm).symm
theorem c_X12_rounds (hl : l.stackTraces = false) {σ : SG} {ring_0 : Int} {touch_0 : Int} {r : Bool} {σ' : SG}  (H : fR_rounds σ ring_0 touch_0 = some (r, σ')) : en_S l E M_X12_rounds 2 0 0 [vr 277, vi ring_0, vi touch_0] σ (pS (some (zv r)) σ') := by
  unfold fR_rounds at H
  refine z_mk (lv := [some (vr 277), some (vi ring_0), some (vi touch_0), none, none]) m_X12_rounds rfl hl (Nat.le_of_ble_eq_true rfl) rfl ?_
  refine z_iconst (M := M_X12_rounds) dX12_rounds_0 ?_
  refine z_istore_n (M := M_X12_rounds) (lv' := [some (vr 277), some (vi ring_0), some (vi touch_0), some (vi 0), none]) dX12_rounds_1 (Nat.le_of_ble_eq_true rfl) rfl rfl ?_
  obtain ⟨rl_5, hw_2, hk_3, hk_4⟩ := bx_e H
  have J_43 : ∀ k_29, rl_5 = (.inl k_29) → YY l E M_X12_rounds 2 0 0 (pS (some (zv r)) σ') 38 [some (vr 277), some (vi ring_0), some (vi touch_0), some (vi k_29), none] [] σ 0 0 := by
    intro k_29 e
    have H := hk_3 _ e
    refine z_aload_n (M := M_X12_rounds) dX12_rounds_38 rfl ?_
    refine z_getR (M := M_X12_rounds) (ci := 15) (C := RX12) (T := TX12) (Nf := 135) (ty := tyX12) cl15 dX12_rounds_39 ly_277 63 (by decide) t_2454 rfl ?_
    refine z_aload_n (M := M_X12_rounds) dX12_rounds_42 rfl ?_
    refine z_getI (M := M_X12_rounds) (ci := 15) (C := RX12) (T := TX12) (Nf := 135) (ty := tyX12) cl15 dX12_rounds_43 ly_277 65 (by decide) t_2456 rfl rfl ?_
    refine z_iload_n (M := M_X12_rounds) dX12_rounds_46 rfl ?_
    obtain ⟨σ_30, σ_30_e, hi_31, H⟩ := wa_e H
    refine z_iast (M := M_X12_rounds) dX12_rounds_47 ly_314 rfl rfl rfl hi_31 σ_30_e ?_
    refine z_aload_n (M := M_X12_rounds) dX12_rounds_48 rfl ?_
    refine z_getR (M := M_X12_rounds) (ci := 15) (C := RX12) (T := TX12) (Nf := 135) (ty := tyX12) cl15 dX12_rounds_49 ly_277 64 (by decide) t_2455 rfl ?_
    refine z_aload_n (M := M_X12_rounds) dX12_rounds_52 rfl ?_
    refine z_getI (M := M_X12_rounds) (ci := 15) (C := RX12) (T := TX12) (Nf := 135) (ty := tyX12) cl15 dX12_rounds_53 ly_277 65 (by decide) t_2456 rfl rfl ?_
    refine z_iload_n (M := M_X12_rounds) dX12_rounds_56 rfl ?_
    obtain ⟨σ_32, σ_32_e, hi_33, H⟩ := wa_e H
    refine z_iast (M := M_X12_rounds) dX12_rounds_57 ly_315 rfl rfl rfl hi_33 σ_32_e ?_
    refine z_aload_n (M := M_X12_rounds) dX12_rounds_58 rfl ?_
    refine z_dup (M := M_X12_rounds) dX12_rounds_59 rfl ?_
    refine z_getI (M := M_X12_rounds) (ci := 15) (C := RX12) (T := TX12) (Nf := 135) (ty := tyX12) cl15 dX12_rounds_60 ly_277 65 (by decide) t_2456 rfl rfl ?_
    refine z_iconst (M := M_X12_rounds) dX12_rounds_63 ?_
    refine z_iadd (M := M_X12_rounds) dX12_rounds_64 ?_
    obtain ⟨σ_34, σ_34_e, H⟩ := wf_e H
    refine z_putI (M := M_X12_rounds) (ci := 15) (C := RX12) (T := TX12) (Nf := 135) (ty := tyX12) cl15 dX12_rounds_65 ly_277 65 (by decide) t_2456 rfl rfl rfl rfl σ_34_e ?_
    refine z_aload_n (M := M_X12_rounds) dX12_rounds_68 rfl ?_
    refine z_iload_n (M := M_X12_rounds) dX12_rounds_69 rfl ?_
    obtain ⟨x_36, hc_35, H⟩ := bd_e H
    refine z_callV (M := M_X12_rounds) (M' := M_X12_root) (as := [vi ring_0]) (rest := []) rfl rfl dX12_rounds_70 m_X12_root t_3329 t_3331 s_247 (c_X12_root hl  hc_35) rfl rfl ly_277 rfl (Nat.le_of_ble_eq_true rfl) (Nat.le_of_ble_eq_true rfl) (Nat.le_of_ble_eq_true rfl) (Nat.le_of_ble_eq_true rfl) ?_
    refine z_st (st' := [vi x_36]) rfl ?_
    refine z_istore_n (M := M_X12_rounds) (lv' := [some (vr 277), some (vi ring_0), some (vi touch_0), some (vi x_36), none]) dX12_rounds_73 (Nat.le_of_ble_eq_true rfl) rfl rfl ?_
    refine z_aload_n (M := M_X12_rounds) dX12_rounds_74 rfl ?_
    refine z_sipush (M := M_X12_rounds) dX12_rounds_75 (by decide +kernel) ?_
    refine z_iload_n (M := M_X12_rounds) dX12_rounds_78 rfl ?_
    refine z_iadd (M := M_X12_rounds) dX12_rounds_79 ?_
    obtain ⟨x_38, hc_37, H⟩ := bd_e H
    refine z_callV (M := M_X12_rounds) (M' := M_X12_root) (as := [vi (2048 + touch_0)]) (rest := []) rfl rfl dX12_rounds_80 m_X12_root t_3329 t_3331 s_247 (c_X12_root hl  hc_37) rfl rfl ly_277 rfl (Nat.le_of_ble_eq_true rfl) (Nat.le_of_ble_eq_true rfl) (Nat.le_of_ble_eq_true rfl) (Nat.le_of_ble_eq_true rfl) ?_
    refine z_st (st' := [vi x_38]) rfl ?_
    refine z_istore (M := M_X12_rounds) (lv' := [some (vr 277), some (vi ring_0), some (vi touch_0), some (vi x_36), some (vi x_38)]) dX12_rounds_83 (Nat.le_of_ble_eq_true rfl) rfl rfl ?_
    refine z_aload_n (M := M_X12_rounds) dX12_rounds_85 rfl ?_
    refine z_getR (M := M_X12_rounds) (ci := 15) (C := RX12) (T := TX12) (Nf := 135) (ty := tyX12) cl15 dX12_rounds_86 ly_277 66 (by decide) t_2457 rfl ?_
    refine z_iload_n (M := M_X12_rounds) dX12_rounds_89 rfl ?_
    refine z_iload (M := M_X12_rounds) dX12_rounds_90 rfl ?_
    obtain ⟨σ_39, σ_39_e, hi_40, H⟩ := wa_e H
    refine z_iast (M := M_X12_rounds) dX12_rounds_92 ly_316 rfl rfl rfl hi_40 σ_39_e ?_
    have J_41 : YY l E M_X12_rounds 2 0 0 (pS (some (zv r)) σ') 104 [some (vr 277), some (vi ring_0), some (vi touch_0), some (vi x_36), some (vi x_38)] [zv (decide ((w32 x_36) = (w32 x_38)))] σ_39 0 0 := by
      cases H
      exact z_zret (M := M_X12_rounds) dX12_rounds_104 rfl (Nat.le_of_ble_eq_true rfl) (Nat.le_of_ble_eq_true rfl) ⟨rfl, rfl⟩
    refine z_iload_n (M := M_X12_rounds) dX12_rounds_93 rfl ?_
    refine z_iload (M := M_X12_rounds) dX12_rounds_94 rfl ?_
    by_cases h_42 : (w32 x_36) = (w32 x_38)
    · refine z_icmp_ne_f (M := M_X12_rounds) (tgt := 103) dX12_rounds_96 (by decide) rfl rfl h_42 ?_
      refine z_iconst (M := M_X12_rounds) dX12_rounds_99 ?_
      refine z_goto (M := M_X12_rounds) (tgt := 104) dX12_rounds_100 (by decide) ?_
      exact z_st (by rw [zv_t (p := (w32 x_36) = (w32 x_38)) h_42]) J_41
    · refine z_icmp_ne_t (M := M_X12_rounds) (tgt := 103) dX12_rounds_96 (by decide) rfl rfl h_42 ?_
      refine z_iconst (M := M_X12_rounds) dX12_rounds_103 ?_
      exact z_st (by rw [zv_f (p := (w32 x_36) = (w32 x_38)) h_42]) J_41
  refine whl_go hw_2 (fun k_1 => YY l E M_X12_rounds 2 0 0 (pS (some (zv r)) σ') 2 [some (vr 277), some (vi ring_0), some (vi touch_0), some (vi k_1), none] [] σ 0 0) ?_
  rintro k_1 o_6 H K_7 K_8
  refine z_iload_n (M := M_X12_rounds) dX12_rounds_2 rfl ?_
  refine z_aload_n (M := M_X12_rounds) dX12_rounds_3 rfl ?_
  refine z_getI (M := M_X12_rounds) (ci := 15) (C := RX12) (T := TX12) (Nf := 135) (ty := tyX12) cl15 dX12_rounds_4 ly_277 65 (by decide) t_2456 rfl rfl ?_
  rcases if_e H with ⟨h_9, H⟩ | ⟨h_9, H⟩
  · refine z_icmp_ge_f (M := M_X12_rounds) (tgt := 38) dX12_rounds_7 (by decide) rfl rfl h_9 ?_
    refine z_aload_n (M := M_X12_rounds) dX12_rounds_10 rfl ?_
    refine z_getR (M := M_X12_rounds) (ci := 15) (C := RX12) (T := TX12) (Nf := 135) (ty := tyX12) cl15 dX12_rounds_11 ly_277 63 (by decide) t_2454 rfl ?_
    refine z_iload_n (M := M_X12_rounds) dX12_rounds_14 rfl ?_
    obtain ⟨x_20, x_20_e, hi_21, H⟩ := rd_e H
    refine z_iald (M := M_X12_rounds) dX12_rounds_15 ly_314 rfl rfl rfl hi_21 x_20_e ?_
    refine z_iload_n (M := M_X12_rounds) dX12_rounds_16 rfl ?_
    rcases if_e H with ⟨h_22, H⟩ | ⟨h_22, H⟩
    · refine z_icmp_ne_f (M := M_X12_rounds) (tgt := 32) dX12_rounds_17 (by decide) rfl rfl h_22 ?_
      refine z_aload_n (M := M_X12_rounds) dX12_rounds_20 rfl ?_
      refine z_getR (M := M_X12_rounds) (ci := 15) (C := RX12) (T := TX12) (Nf := 135) (ty := tyX12) cl15 dX12_rounds_21 ly_277 64 (by decide) t_2455 rfl ?_
      refine z_iload_n (M := M_X12_rounds) dX12_rounds_24 rfl ?_
      obtain ⟨x_23, x_23_e, hi_24, H⟩ := rd_e H
      refine z_iald (M := M_X12_rounds) dX12_rounds_25 ly_315 rfl rfl rfl hi_24 x_23_e ?_
      refine z_iload_n (M := M_X12_rounds) dX12_rounds_26 rfl ?_
      rcases if_e H with ⟨h_25, H⟩ | ⟨h_25, H⟩
      · refine z_icmp_ne_f (M := M_X12_rounds) (tgt := 32) dX12_rounds_27 (by decide) rfl rfl h_25 ?_
        refine z_zconst (M := M_X12_rounds) (b := false) dX12_rounds_30 rfl ?_
        have H := congrArg some (hk_4 _ ((K_8 _ (Option.some.inj H).symm).symm))
        cases H
        exact z_zret (M := M_X12_rounds) dX12_rounds_31 rfl (Nat.le_of_ble_eq_true rfl) (Nat.le_of_ble_eq_true rfl) ⟨rfl, rfl⟩
      · refine z_icmp_ne_t (M := M_X12_rounds) (tgt := 32) dX12_rounds_27 (by decide) rfl rfl h_25 ?_
        refine z_iinc (M := M_X12_rounds) (lv' := [some (vr 277), some (vi ring_0), some (vi touch_0), some (vi (k_1 + 1)), none]) dX12_rounds_32 rfl (Nat.le_of_ble_eq_true rfl) rfl rfl ?_
        refine z_goto (M := M_X12_rounds) (tgt := 2) dX12_rounds_35 (by decide) ?_
        exact K_7 _ (Option.some.inj H).symm
    · refine z_icmp_ne_t (M := M_X12_rounds) (tgt := 32) dX12_rounds_17 (by decide) rfl rfl h_22 ?_
      refine z_iinc (M := M_X12_rounds) (lv' := [some (vr 277), some (vi ring_0), some (vi touch_0), some (vi (k_1 + 1)), none]) dX12_rounds_32 rfl (Nat.le_of_ble_eq_true rfl) rfl rfl ?_
      refine z_goto (M := M_X12_rounds) (tgt := 2) dX12_rounds_35 (by decide) ?_
      exact K_7 _ (Option.some.inj H).symm
  · refine z_icmp_ge_t (M := M_X12_rounds) (tgt := 38) dX12_rounds_7 (by decide) rfl rfl (Int.not_lt.mp h_9) ?_
    exact J_43 _ (K_8 _ (Option.some.inj H).symm).symm
theorem c_X12_isSplit (hl : l.stackTraces = false) {σ : SG} {from_0 : Int} {to_0 : Int} {r : Bool} {σ' : SG}  (H : fR_isSplit σ from_0 to_0 = some (r, σ')) : en_S l E M_X12_isSplit 4 0 0 [vr 277, vi from_0, vi to_0] σ (pS (some (zv r)) σ') := by
  unfold fR_isSplit at H
  refine z_mk (lv := [some (vr 277), some (vi from_0), some (vi to_0), none, none, none, none]) m_X12_isSplit rfl hl (Nat.le_of_ble_eq_true rfl) rfl ?_
  refine z_aload_n (M := M_X12_isSplit) dX12_isSplit_0 rfl ?_
  refine z_iconst (M := M_X12_isSplit) dX12_isSplit_1 ?_
  obtain ⟨σ_1, σ_1_e, H⟩ := wf_e H
  refine z_putI (M := M_X12_isSplit) (ci := 15) (C := RX12) (T := TX12) (Nf := 135) (ty := tyX12) cl15 dX12_isSplit_2 ly_277 62 (by decide) t_2453 rfl rfl rfl rfl σ_1_e ?_
  refine z_aload_n (M := M_X12_isSplit) dX12_isSplit_5 rfl ?_
  refine z_iconst (M := M_X12_isSplit) dX12_isSplit_6 ?_
  obtain ⟨σ_2, σ_2_e, H⟩ := wf_e H
  refine z_putI (M := M_X12_isSplit) (ci := 15) (C := RX12) (T := TX12) (Nf := 135) (ty := tyX12) cl15 dX12_isSplit_7 ly_277 65 (by decide) t_2456 rfl rfl rfl rfl σ_2_e ?_
  refine z_iconst (M := M_X12_isSplit) dX12_isSplit_10 ?_
  refine z_istore_n (M := M_X12_isSplit) (lv' := [some (vr 277), some (vi from_0), some (vi to_0), some (vi 0), none, none, none]) dX12_isSplit_11 (Nat.le_of_ble_eq_true rfl) rfl rfl ?_
  obtain ⟨rl_8, hw_5, hk_6⟩ := bd_e H
  have J_98 : ∀ r_17 σ_18, rl_8 = (r_17, σ_18) → YY l E M_X12_isSplit 4 0 0 (pS (some (zv r)) σ') 33 [some (vr 277), some (vi from_0), some (vi to_0), some (vi r_17), none, none, none] [] σ_18 0 0 := by
    intro r_17 σ_18 e
    have H := hk_6
    rw [e] at H
    refine z_iload_n (M := M_X12_isSplit) dX12_isSplit_33 rfl ?_
    refine z_istore_n (M := M_X12_isSplit) (lv' := [some (vr 277), some (vi from_0), some (vi to_0), some (vi from_0), none, none, none]) dX12_isSplit_34 (Nat.le_of_ble_eq_true rfl) rfl rfl ?_
    obtain ⟨rl_24, hw_21, hk_22, hk_23⟩ := bx_e H
    have J_97 : ∀ i_95 σ_96, rl_24 = (.inl (i_95, σ_96)) → YY l E M_X12_isSplit 4 0 0 (pS (some (zv r)) σ') 135 [some (vr 277), some (vi from_0), some (vi to_0), some (vi i_95), none, none, none] [] σ_96 0 0 := by
      intro i_95 σ_96 e
      have H := hk_22 _ e
      refine z_zconst (M := M_X12_isSplit) (b := false) dX12_isSplit_135 rfl ?_
      cases H
      exact z_zret (M := M_X12_isSplit) dX12_isSplit_136 rfl (Nat.le_of_ble_eq_true rfl) (Nat.le_of_ble_eq_true rfl) ⟨rfl, rfl⟩
    refine whl_go hw_21 (fun (i_19, σ_20) => YY l E M_X12_isSplit 4 0 0 (pS (some (zv r)) σ') 35 [some (vr 277), some (vi from_0), some (vi to_0), some (vi i_19), none, none, none] [] σ_20 0 0) ?_
    rintro ⟨i_19, σ_20⟩ o_25 H K_26 K_27
    refine z_iload_n (M := M_X12_isSplit) dX12_isSplit_35 rfl ?_
    refine z_iload_n (M := M_X12_isSplit) dX12_isSplit_36 rfl ?_
    rcases if_e H with ⟨h_28, H⟩ | ⟨h_28, H⟩
    · refine z_icmp_ge_f (M := M_X12_isSplit) (tgt := 135) dX12_isSplit_37 (by decide) rfl rfl h_28 ?_
      refine z_iload_n (M := M_X12_isSplit) dX12_isSplit_40 rfl ?_
      refine z_iconst (M := M_X12_isSplit) dX12_isSplit_41 ?_
      refine z_iadd (M := M_X12_isSplit) dX12_isSplit_42 ?_
      refine z_istore (M := M_X12_isSplit) (lv' := [some (vr 277), some (vi from_0), some (vi to_0), some (vi i_19), some (vi (i_19 + 1)), none, none]) dX12_isSplit_43 (Nat.le_of_ble_eq_true rfl) rfl rfl ?_
      obtain ⟨rl_34, hw_31, hk_32, hk_33⟩ := bx_e H
      have J_93 : ∀ j_90 σ_91, rl_34 = (.inl (j_90, σ_91)) → YY l E M_X12_isSplit 4 0 0 (pS (some (zv r)) σ') 129 [some (vr 277), some (vi from_0), some (vi to_0), some (vi i_19), some (vi j_90), none, none] [] σ_91 0 0 := by
        intro j_90 σ_91 e
        have H := hk_32 _ e
        refine z_iinc (M := M_X12_isSplit) (lv' := [some (vr 277), some (vi from_0), some (vi to_0), some (vi (i_19 + 1)), some (vi j_90), none, none]) dX12_isSplit_129 rfl (Nat.le_of_ble_eq_true rfl) rfl rfl ?_
        refine z_goto (M := M_X12_isSplit) (tgt := 35) dX12_isSplit_132 (by decide) ?_
        refine z_le (lv' := [some (vr 277), some (vi from_0), some (vi to_0), some (vi (i_19 + 1)), none, none, none]) ⟨Or.inr rfl, Or.inr rfl, Or.inr rfl, Or.inr rfl, Or.inl rfl, Or.inl rfl, Or.inl rfl, trivial⟩ ?_
        exact K_26 _ (Option.some.inj H).symm
      refine whl_go hw_31 (fun (j_29, σ_30) => YY l E M_X12_isSplit 4 0 0 (pS (some (zv r)) σ') 45 [some (vr 277), some (vi from_0), some (vi to_0), some (vi i_19), some (vi j_29), none, none] [] σ_30 0 0) ?_
      rintro ⟨j_29, σ_30⟩ o_35 H K_36 K_37
      refine z_iload (M := M_X12_isSplit) dX12_isSplit_45 rfl ?_
      refine z_iload_n (M := M_X12_isSplit) dX12_isSplit_47 rfl ?_
      rcases if_e H with ⟨h_38, H⟩ | ⟨h_38, H⟩
      · refine z_icmp_ge_f (M := M_X12_isSplit) (tgt := 129) dX12_isSplit_48 (by decide) rfl rfl h_38 ?_
        refine z_aload_n (M := M_X12_isSplit) dX12_isSplit_51 rfl ?_
        refine z_getR (M := M_X12_isSplit) (ci := 15) (C := RX12) (T := TX12) (Nf := 135) (ty := tyX12) cl15 dX12_isSplit_52 ly_277 45 (by decide) t_2436 rfl ?_
        refine z_iload_n (M := M_X12_isSplit) dX12_isSplit_55 rfl ?_
        obtain ⟨x_52, x_52_e, hi_53, H⟩ := rd_e H
        refine z_iald (M := M_X12_isSplit) dX12_isSplit_56 ly_303 rfl rfl rfl hi_53 x_52_e ?_
        refine z_aload_n (M := M_X12_isSplit) dX12_isSplit_57 rfl ?_
        refine z_getR (M := M_X12_isSplit) (ci := 15) (C := RX12) (T := TX12) (Nf := 135) (ty := tyX12) cl15 dX12_isSplit_58 ly_277 45 (by decide) t_2436 rfl ?_
        refine z_iload (M := M_X12_isSplit) dX12_isSplit_61 rfl ?_
        obtain ⟨x_54, x_54_e, hi_55, H⟩ := rd_e H
        refine z_iald (M := M_X12_isSplit) dX12_isSplit_63 ly_303 rfl rfl rfl hi_55 x_54_e ?_
        rcases if_e H with ⟨h_56, H⟩ | ⟨h_56, H⟩
        · refine z_icmp_eq_t (M := M_X12_isSplit) (tgt := 123) dX12_isSplit_64 (by decide) rfl rfl h_56 ?_
          refine z_iinc (M := M_X12_isSplit) (lv' := [some (vr 277), some (vi from_0), some (vi to_0), some (vi i_19), some (vi (j_29 + 1)), none, none]) dX12_isSplit_123 rfl (Nat.le_of_ble_eq_true rfl) rfl rfl ?_
          refine z_goto (M := M_X12_isSplit) (tgt := 45) dX12_isSplit_126 (by decide) ?_
          exact K_36 _ (Option.some.inj H).symm
        · refine z_icmp_eq_f (M := M_X12_isSplit) (tgt := 123) dX12_isSplit_64 (by decide) rfl rfl h_56 ?_
          refine z_aload_n (M := M_X12_isSplit) dX12_isSplit_67 rfl ?_
          refine z_iload_n (M := M_X12_isSplit) dX12_isSplit_68 rfl ?_
          refine z_iload (M := M_X12_isSplit) dX12_isSplit_69 rfl ?_
          obtain ⟨⟨x_60, σ_59⟩, hc_58, H⟩ := bd_e H
          refine z_callV (M := M_X12_isSplit) (M' := M_X12_meet) (as := [vi i_19, vi j_29]) (rest := []) rfl rfl dX12_isSplit_71 m_X12_meet t_3258 t_3260 s_233 (c_X12_meet hl  hc_58) rfl rfl ly_277 rfl (Nat.le_of_ble_eq_true rfl) (Nat.le_of_ble_eq_true rfl) (Nat.le_of_ble_eq_true rfl) (Nat.le_of_ble_eq_true rfl) ?_
          refine z_st (st' := [vi x_60]) rfl ?_
          rcases if_e H with ⟨h_61, H⟩ | ⟨h_61, H⟩
          · refine z_if_ne_f (M := M_X12_isSplit) (tgt := 80) dX12_isSplit_74 (by decide) rfl h_61 ?_
            refine z_goto (M := M_X12_isSplit) (tgt := 123) dX12_isSplit_77 (by decide) ?_
            refine z_iinc (M := M_X12_isSplit) (lv' := [some (vr 277), some (vi from_0), some (vi to_0), some (vi i_19), some (vi (j_29 + 1)), none, none]) dX12_isSplit_123 rfl (Nat.le_of_ble_eq_true rfl) rfl rfl ?_
            refine z_goto (M := M_X12_isSplit) (tgt := 45) dX12_isSplit_126 (by decide) ?_
            exact K_36 _ (Option.some.inj H).symm
          · refine z_if_ne_t (M := M_X12_isSplit) (tgt := 80) dX12_isSplit_74 (by decide) rfl h_61 ?_
            refine z_aload_n (M := M_X12_isSplit) dX12_isSplit_80 rfl ?_
            obtain ⟨⟨x_65, σ_64⟩, hc_63, H⟩ := bd_e H
            refine z_callV (M := M_X12_isSplit) (M' := M_X12_touch) (as := []) (rest := []) rfl rfl dX12_isSplit_81 m_X12_touch t_3321 t_3323 s_245 (c_X12_touch hl  hc_63) rfl rfl ly_277 rfl (Nat.le_of_ble_eq_true rfl) (Nat.le_of_ble_eq_true rfl) (Nat.le_of_ble_eq_true rfl) (Nat.le_of_ble_eq_true rfl) ?_
            refine z_st (st' := [vi x_65]) rfl ?_
            refine z_istore (M := M_X12_isSplit) (lv' := [some (vr 277), some (vi from_0), some (vi to_0), some (vi i_19), some (vi j_29), some (vi x_65), none]) dX12_isSplit_84 (Nat.le_of_ble_eq_true rfl) rfl rfl ?_
            refine z_aload_n (M := M_X12_isSplit) dX12_isSplit_86 rfl ?_
            refine z_aload_n (M := M_X12_isSplit) dX12_isSplit_87 rfl ?_
            refine z_getR (M := M_X12_isSplit) (ci := 15) (C := RX12) (T := TX12) (Nf := 135) (ty := tyX12) cl15 dX12_isSplit_88 ly_277 45 (by decide) t_2436 rfl ?_
            refine z_iload_n (M := M_X12_isSplit) dX12_isSplit_91 rfl ?_
            obtain ⟨x_66, x_66_e, hi_67, H⟩ := rd_e H
            refine z_iald (M := M_X12_isSplit) dX12_isSplit_92 ly_303 rfl rfl rfl hi_67 x_66_e ?_
            refine z_iload (M := M_X12_isSplit) dX12_isSplit_93 rfl ?_
            obtain ⟨⟨x_70, σ_69⟩, hc_68, H⟩ := bd_e H
            refine z_callV (M := M_X12_isSplit) (M' := M_X12_rounds) (as := [vi x_66, vi x_65]) (rest := []) rfl rfl dX12_isSplit_95 m_X12_rounds t_3325 t_3327 s_246 (c_X12_rounds hl  hc_68) rfl rfl ly_277 rfl (Nat.le_of_ble_eq_true rfl) (Nat.le_of_ble_eq_true rfl) (Nat.le_of_ble_eq_true rfl) (Nat.le_of_ble_eq_true rfl) ?_
            refine z_st (st' := [zv x_70]) rfl ?_
            refine z_zstore (M := M_X12_isSplit) (lv' := [some (vr 277), some (vi from_0), some (vi to_0), some (vi i_19), some (vi j_29), some (vi x_65), some (zv x_70)]) dX12_isSplit_98 (Nat.le_of_ble_eq_true rfl) rfl rfl ?_
            refine z_aload_n (M := M_X12_isSplit) dX12_isSplit_100 rfl ?_
            refine z_aload_n (M := M_X12_isSplit) dX12_isSplit_101 rfl ?_
            refine z_getR (M := M_X12_isSplit) (ci := 15) (C := RX12) (T := TX12) (Nf := 135) (ty := tyX12) cl15 dX12_isSplit_102 ly_277 45 (by decide) t_2436 rfl ?_
            refine z_iload (M := M_X12_isSplit) dX12_isSplit_105 rfl ?_
            obtain ⟨x_81, x_81_e, hi_82, H⟩ := rd_e H
            refine z_iald (M := M_X12_isSplit) dX12_isSplit_107 ly_303 rfl rfl rfl hi_82 x_81_e ?_
            refine z_iload (M := M_X12_isSplit) dX12_isSplit_108 rfl ?_
            obtain ⟨⟨x_85, σ_84⟩, hc_83, H⟩ := bd_e H
            refine z_callV (M := M_X12_isSplit) (M' := M_X12_rounds) (as := [vi x_81, vi x_65]) (rest := []) rfl rfl dX12_isSplit_110 m_X12_rounds t_3325 t_3327 s_246 (c_X12_rounds hl  hc_83) rfl rfl ly_277 rfl (Nat.le_of_ble_eq_true rfl) (Nat.le_of_ble_eq_true rfl) (Nat.le_of_ble_eq_true rfl) (Nat.le_of_ble_eq_true rfl) ?_
            refine z_st (st' := [zv x_85]) rfl ?_
            rcases if_e H with ⟨h_86, H⟩ | ⟨h_86, H⟩
            · refine z_zne_t (M := M_X12_isSplit) (tgt := 121) dX12_isSplit_113 (by decide) h_86 ?_
              refine z_zconst (M := M_X12_isSplit) (b := true) dX12_isSplit_121 rfl ?_
              have H := congrArg some (hk_33 _ ((K_37 _ (Option.some.inj H).symm).symm))
              have H := congrArg some (hk_23 _ ((K_27 _ (Option.some.inj H).symm).symm))
              cases H
              exact z_zret (M := M_X12_isSplit) dX12_isSplit_122 rfl (Nat.le_of_ble_eq_true rfl) (Nat.le_of_ble_eq_true rfl) ⟨rfl, rfl⟩
            · refine z_zne_f (M := M_X12_isSplit) (tgt := 121) dX12_isSplit_113 (by decide) h_86 ?_
              refine z_zload (M := M_X12_isSplit) dX12_isSplit_116 rfl ?_
              rcases if_e H with ⟨h_87, H⟩ | ⟨h_87, H⟩
              · refine z_zeq_f (M := M_X12_isSplit) (tgt := 123) dX12_isSplit_118 (by decide) h_87 ?_
                refine z_zconst (M := M_X12_isSplit) (b := true) dX12_isSplit_121 rfl ?_
                have H := congrArg some (hk_33 _ ((K_37 _ (Option.some.inj H).symm).symm))
                have H := congrArg some (hk_23 _ ((K_27 _ (Option.some.inj H).symm).symm))
                cases H
                exact z_zret (M := M_X12_isSplit) dX12_isSplit_122 rfl (Nat.le_of_ble_eq_true rfl) (Nat.le_of_ble_eq_true rfl) ⟨rfl, rfl⟩
              · refine z_zeq_t (M := M_X12_isSplit) (tgt := 123) dX12_isSplit_118 (by decide) h_87 ?_
                refine z_iinc (M := M_X12_isSplit) (lv' := [some (vr 277), some (vi from_0), some (vi to_0), some (vi i_19), some (vi (j_29 + 1)), some (vi x_65), some (zv x_70)]) dX12_isSplit_123 rfl (Nat.le_of_ble_eq_true rfl) rfl rfl ?_
                refine z_goto (M := M_X12_isSplit) (tgt := 45) dX12_isSplit_126 (by decide) ?_
                refine z_le (lv' := [some (vr 277), some (vi from_0), some (vi to_0), some (vi i_19), some (vi (j_29 + 1)), none, none]) ⟨Or.inr rfl, Or.inr rfl, Or.inr rfl, Or.inr rfl, Or.inr rfl, Or.inl rfl, Or.inl rfl, trivial⟩ ?_
                exact K_36 _ (Option.some.inj H).symm
      · refine z_icmp_ge_t (M := M_X12_isSplit) (tgt := 129) dX12_isSplit_48 (by decide) rfl rfl (Int.not_lt.mp h_38) ?_
        exact J_93 _ _ (K_37 _ (Option.some.inj H).symm).symm
    · refine z_icmp_ge_t (M := M_X12_isSplit) (tgt := 135) dX12_isSplit_37 (by decide) rfl rfl (Int.not_lt.mp h_28) ?_
      exact J_97 _ _ (K_27 _ (Option.some.inj H).symm).symm
  refine whl_go hw_5 (fun (r_3, σ_4) => YY l E M_X12_isSplit 4 0 0 (pS (some (zv r)) σ') 12 [some (vr 277), some (vi from_0), some (vi to_0), some (vi r_3), none, none, none] [] σ_4 0 0) ?_
  rintro ⟨r_3, σ_4⟩ o_9 H K_10 K_11
  refine z_iload_n (M := M_X12_isSplit) dX12_isSplit_12 rfl ?_
  refine z_aload_n (M := M_X12_isSplit) dX12_isSplit_13 rfl ?_
  refine z_getI (M := M_X12_isSplit) (ci := 15) (C := RX12) (T := TX12) (Nf := 135) (ty := tyX12) cl15 dX12_isSplit_14 ly_277 57 (by decide) t_2448 rfl rfl ?_
  rcases if_e H with ⟨h_12, H⟩ | ⟨h_12, H⟩
  · refine z_icmp_ge_f (M := M_X12_isSplit) (tgt := 33) dX12_isSplit_17 (by decide) rfl rfl h_12 ?_
    refine z_aload_n (M := M_X12_isSplit) dX12_isSplit_20 rfl ?_
    refine z_getR (M := M_X12_isSplit) (ci := 15) (C := RX12) (T := TX12) (Nf := 135) (ty := tyX12) cl15 dX12_isSplit_21 ly_277 66 (by decide) t_2457 rfl ?_
    refine z_iload_n (M := M_X12_isSplit) dX12_isSplit_24 rfl ?_
    refine z_iload_n (M := M_X12_isSplit) dX12_isSplit_25 rfl ?_
    obtain ⟨σ_13, σ_13_e, hi_14, H⟩ := wa_e H
    refine z_iast (M := M_X12_isSplit) dX12_isSplit_26 ly_316 rfl rfl rfl hi_14 σ_13_e ?_
    refine z_iinc (M := M_X12_isSplit) (lv' := [some (vr 277), some (vi from_0), some (vi to_0), some (vi (r_3 + 1)), none, none, none]) dX12_isSplit_27 rfl (Nat.le_of_ble_eq_true rfl) rfl rfl ?_
    refine z_goto (M := M_X12_isSplit) (tgt := 12) dX12_isSplit_30 (by decide) ?_
    exact K_10 _ (Option.some.inj H).symm
  · refine z_icmp_ge_t (M := M_X12_isSplit) (tgt := 33) dX12_isSplit_17 (by decide) rfl rfl (Int.not_lt.mp h_12) ?_
    exact J_98 _ _ (K_11 _ (Option.some.inj H).symm).symm
theorem c_X12_judgePart (hl : l.stackTraces = false) {σ : SG} {part_0 : Int} {r : Int} {σ' : SG}  (H : fR_judgePart σ part_0 = some (r, σ')) : en_S l E M_X12_judgePart 6 0 0 [vr 277, vi part_0] σ (pS (some (vi r)) σ') := by
  unfold fR_judgePart at H
  refine z_mk (lv := [some (vr 277), some (vi part_0), none, none, none, none, none, none, none]) m_X12_judgePart rfl hl (Nat.le_of_ble_eq_true rfl) rfl ?_
  refine z_aload_n (M := M_X12_judgePart) dX12_judgePart_0 rfl ?_
  refine z_getR (M := M_X12_judgePart) (ci := 15) (C := RX12) (T := TX12) (Nf := 135) (ty := tyX12) cl15 dX12_judgePart_1 ly_277 58 (by decide) t_2449 rfl ?_
  refine z_iload_n (M := M_X12_judgePart) dX12_judgePart_4 rfl ?_
  obtain ⟨x_1, x_1_e, hi_2, H⟩ := rd_e H
  refine z_iald (M := M_X12_judgePart) dX12_judgePart_5 ly_311 rfl rfl rfl hi_2 x_1_e ?_
  refine z_istore_n (M := M_X12_judgePart) (lv' := [some (vr 277), some (vi part_0), some (vi x_1), none, none, none, none, none, none]) dX12_judgePart_6 (Nat.le_of_ble_eq_true rfl) rfl rfl ?_
  refine z_aload_n (M := M_X12_judgePart) dX12_judgePart_7 rfl ?_
  refine z_getR (M := M_X12_judgePart) (ci := 15) (C := RX12) (T := TX12) (Nf := 135) (ty := tyX12) cl15 dX12_judgePart_8 ly_277 58 (by decide) t_2449 rfl ?_
  refine z_iload_n (M := M_X12_judgePart) dX12_judgePart_11 rfl ?_
  refine z_iconst (M := M_X12_judgePart) dX12_judgePart_12 ?_
  refine z_iadd (M := M_X12_judgePart) dX12_judgePart_13 ?_
  obtain ⟨x_3, x_3_e, hi_4, H⟩ := rd_e H
  refine z_iald (M := M_X12_judgePart) dX12_judgePart_14 ly_311 rfl rfl rfl hi_4 x_3_e ?_
  refine z_istore_n (M := M_X12_judgePart) (lv' := [some (vr 277), some (vi part_0), some (vi x_1), some (vi x_3), none, none, none, none, none]) dX12_judgePart_15 (Nat.le_of_ble_eq_true rfl) rfl rfl ?_
  refine z_iload_n (M := M_X12_judgePart) dX12_judgePart_16 rfl ?_
  refine z_istore (M := M_X12_judgePart) (lv' := [some (vr 277), some (vi part_0), some (vi x_1), some (vi x_3), some (vi x_1), none, none, none, none]) dX12_judgePart_17 (Nat.le_of_ble_eq_true rfl) rfl rfl ?_
  obtain ⟨rl_10, hw_7, hk_8, hk_9⟩ := bx_e H
  have J_197 : ∀ r_55 σ_56, rl_10 = (.inl (r_55, σ_56)) → YY l E M_X12_judgePart 6 0 0 (pS (some (vi r)) σ') 104 [some (vr 277), some (vi part_0), some (vi x_1), some (vi x_3), some (vi r_55), none, none, none, none] [] σ_56 0 0 := by
    intro r_55 σ_56 e
    have H := hk_8 _ e
    refine z_aload_n (M := M_X12_judgePart) dX12_judgePart_104 rfl ?_
    refine z_getR (M := M_X12_judgePart) (ci := 15) (C := RX12) (T := TX12) (Nf := 135) (ty := tyX12) cl15 dX12_judgePart_105 ly_277 56 (by decide) t_2447 rfl ?_
    refine z_iload_n (M := M_X12_judgePart) dX12_judgePart_108 rfl ?_
    obtain ⟨x_57, x_57_e, hi_58, H⟩ := rd_e H
    refine z_iald (M := M_X12_judgePart) dX12_judgePart_109 ly_310 rfl rfl rfl hi_58 x_57_e ?_
    refine z_istore (M := M_X12_judgePart) (lv' := [some (vr 277), some (vi part_0), some (vi x_1), some (vi x_3), some (vi x_57), none, none, none, none]) dX12_judgePart_110 (Nat.le_of_ble_eq_true rfl) rfl rfl ?_
    refine z_aload_n (M := M_X12_judgePart) dX12_judgePart_112 rfl ?_
    refine z_getR (M := M_X12_judgePart) (ci := 15) (C := RX12) (T := TX12) (Nf := 135) (ty := tyX12) cl15 dX12_judgePart_113 ly_277 56 (by decide) t_2447 rfl ?_
    refine z_iload_n (M := M_X12_judgePart) dX12_judgePart_116 rfl ?_
    obtain ⟨x_59, x_59_e, hi_60, H⟩ := rd_e H
    refine z_iald (M := M_X12_judgePart) dX12_judgePart_117 ly_310 rfl rfl rfl hi_60 x_59_e ?_
    refine z_istore (M := M_X12_judgePart) (lv' := [some (vr 277), some (vi part_0), some (vi x_1), some (vi x_3), some (vi x_57), some (vi x_59), none, none, none]) dX12_judgePart_118 (Nat.le_of_ble_eq_true rfl) rfl rfl ?_
    refine z_iload (M := M_X12_judgePart) dX12_judgePart_120 rfl ?_
    refine z_istore (M := M_X12_judgePart) (lv' := [some (vr 277), some (vi part_0), some (vi x_1), some (vi x_3), some (vi x_57), some (vi x_59), some (vi x_57), none, none]) dX12_judgePart_122 (Nat.le_of_ble_eq_true rfl) rfl rfl ?_
    obtain ⟨rl_66, hw_63, hk_64, hk_65⟩ := bx_e H
    have J_196 : ∀ i_95 σ_96, rl_66 = (.inl (i_95, σ_96)) → YY l E M_X12_judgePart 6 0 0 (pS (some (vi r)) σ') 182 [some (vr 277), some (vi part_0), some (vi x_1), some (vi x_3), some (vi x_57), some (vi x_59), some (vi i_95), none, none] [] σ_96 0 0 := by
      intro i_95 σ_96 e
      have H := hk_64 _ e
      refine z_iload_n (M := M_X12_judgePart) dX12_judgePart_182 rfl ?_
      refine z_iconst (M := M_X12_judgePart) dX12_judgePart_183 ?_
      refine z_iadd (M := M_X12_judgePart) dX12_judgePart_184 ?_
      refine z_istore (M := M_X12_judgePart) (lv' := [some (vr 277), some (vi part_0), some (vi x_1), some (vi x_3), some (vi x_57), some (vi x_59), some (vi (x_1 + 1)), none, none]) dX12_judgePart_185 (Nat.le_of_ble_eq_true rfl) rfl rfl ?_
      obtain ⟨rl_102, hw_99, hk_100, hk_101⟩ := bx_e H
      have J_195 : ∀ r_115 σ_116, rl_102 = (.inl (r_115, σ_116)) → YY l E M_X12_judgePart 6 0 0 (pS (some (vi r)) σ') 218 [some (vr 277), some (vi part_0), some (vi x_1), some (vi x_3), some (vi x_57), some (vi x_59), some (vi r_115), none, none] [] σ_116 0 0 := by
        intro r_115 σ_116 e
        have H := hk_100 _ e
        refine z_iload_n (M := M_X12_judgePart) dX12_judgePart_218 rfl ?_
        refine z_iconst (M := M_X12_judgePart) dX12_judgePart_219 ?_
        refine z_iadd (M := M_X12_judgePart) dX12_judgePart_220 ?_
        refine z_istore (M := M_X12_judgePart) (lv' := [some (vr 277), some (vi part_0), some (vi x_1), some (vi x_3), some (vi x_57), some (vi x_59), some (vi (x_1 + 1)), none, none]) dX12_judgePart_221 (Nat.le_of_ble_eq_true rfl) rfl rfl ?_
        obtain ⟨rl_122, hw_119, hk_120, hk_121⟩ := bx_e H
        have J_194 : ∀ r_186 σ_187, rl_122 = (.inl (r_186, σ_187)) → YY l E M_X12_judgePart 6 0 0 (pS (some (vi r)) σ') 307 [some (vr 277), some (vi part_0), some (vi x_1), some (vi x_3), some (vi x_57), some (vi x_59), some (vi r_186), none, none] [] σ_187 0 0 := by
          intro r_186 σ_187 e
          have H := hk_120 _ e
          refine z_aload_n (M := M_X12_judgePart) dX12_judgePart_307 rfl ?_
          refine z_iload (M := M_X12_judgePart) dX12_judgePart_308 rfl ?_
          refine z_iload (M := M_X12_judgePart) dX12_judgePart_310 rfl ?_
          obtain ⟨⟨x_190, σ_189⟩, hc_188, H⟩ := bd_e H
          refine z_callV (M := M_X12_judgePart) (M' := M_X12_isSplit) (as := [vi x_57, vi x_59]) (rest := []) rfl rfl dX12_judgePart_312 m_X12_isSplit t_3317 t_3319 s_244 (c_X12_isSplit hl  hc_188) rfl rfl ly_277 rfl (Nat.le_of_ble_eq_true rfl) (Nat.le_of_ble_eq_true rfl) (Nat.le_of_ble_eq_true rfl) (Nat.le_of_ble_eq_true rfl) ?_
          refine z_st (st' := [zv x_190]) rfl ?_
          rcases if_e H with ⟨h_191, H⟩ | ⟨h_191, H⟩
          · refine z_zne_t (M := M_X12_judgePart) (tgt := 320) dX12_judgePart_315 (by decide) h_191 ?_
            refine z_aload_n (M := M_X12_judgePart) dX12_judgePart_320 rfl ?_
            refine z_getR (M := M_X12_judgePart) (ci := 15) (C := RX12) (T := TX12) (Nf := 135) (ty := tyX12) cl15 dX12_judgePart_321 ly_277 14 (by decide) t_2405 rfl ?_
            refine z_iconst (M := M_X12_judgePart) dX12_judgePart_324 ?_
            refine z_iload_n (M := M_X12_judgePart) dX12_judgePart_325 rfl ?_
            obtain ⟨σ_192, σ_192_e, hi_193, H⟩ := wa_e H
            refine z_iast (M := M_X12_judgePart) dX12_judgePart_326 ly_285 rfl (by decide +kernel) rfl hi_193 σ_192_e ?_
            refine z_bipush (M := M_X12_judgePart) dX12_judgePart_327 (by decide +kernel) ?_
            cases H
            exact z_iret (M := M_X12_judgePart) dX12_judgePart_329 rfl (Nat.le_of_ble_eq_true rfl) (Nat.le_of_ble_eq_true rfl) ⟨rfl, rfl⟩
          · refine z_zne_f (M := M_X12_judgePart) (tgt := 320) dX12_judgePart_315 (by decide) h_191 ?_
            refine z_iconst (M := M_X12_judgePart) dX12_judgePart_318 ?_
            cases H
            exact z_iret (M := M_X12_judgePart) dX12_judgePart_319 rfl (Nat.le_of_ble_eq_true rfl) (Nat.le_of_ble_eq_true rfl) ⟨rfl, rfl⟩
        refine whl_go hw_119 (fun (r_117, σ_118) => YY l E M_X12_judgePart 6 0 0 (pS (some (vi r)) σ') 223 [some (vr 277), some (vi part_0), some (vi x_1), some (vi x_3), some (vi x_57), some (vi x_59), some (vi r_117), none, none] [] σ_118 0 0) ?_
        rintro ⟨r_117, σ_118⟩ o_123 H K_124 K_125
        refine z_iload (M := M_X12_judgePart) dX12_judgePart_223 rfl ?_
        refine z_iload_n (M := M_X12_judgePart) dX12_judgePart_225 rfl ?_
        rcases if_e H with ⟨h_126, H⟩ | ⟨h_126, H⟩
        · refine z_icmp_ge_f (M := M_X12_judgePart) (tgt := 307) dX12_judgePart_226 (by decide) rfl rfl h_126 ?_
          refine z_iload (M := M_X12_judgePart) dX12_judgePart_229 rfl ?_
          refine z_iconst (M := M_X12_judgePart) dX12_judgePart_231 ?_
          refine z_iadd (M := M_X12_judgePart) dX12_judgePart_232 ?_
          refine z_istore (M := M_X12_judgePart) (lv' := [some (vr 277), some (vi part_0), some (vi x_1), some (vi x_3), some (vi x_57), some (vi x_59), some (vi r_117), some (vi (r_117 + 1)), none]) dX12_judgePart_233 (Nat.le_of_ble_eq_true rfl) rfl rfl ?_
          obtain ⟨rl_132, hw_129, hk_130, hk_131⟩ := bx_e H
          have J_184 : ∀ q_181 σ_182, rl_132 = (.inl (q_181, σ_182)) → YY l E M_X12_judgePart 6 0 0 (pS (some (vi r)) σ') 301 [some (vr 277), some (vi part_0), some (vi x_1), some (vi x_3), some (vi x_57), some (vi x_59), some (vi r_117), some (vi q_181), none] [] σ_182 0 0 := by
            intro q_181 σ_182 e
            have H := hk_130 _ e
            refine z_iinc (M := M_X12_judgePart) (lv' := [some (vr 277), some (vi part_0), some (vi x_1), some (vi x_3), some (vi x_57), some (vi x_59), some (vi (r_117 + 1)), some (vi q_181), none]) dX12_judgePart_301 rfl (Nat.le_of_ble_eq_true rfl) rfl rfl ?_
            refine z_goto (M := M_X12_judgePart) (tgt := 223) dX12_judgePart_304 (by decide) ?_
            refine z_le (lv' := [some (vr 277), some (vi part_0), some (vi x_1), some (vi x_3), some (vi x_57), some (vi x_59), some (vi (r_117 + 1)), none, none]) ⟨Or.inr rfl, Or.inr rfl, Or.inr rfl, Or.inr rfl, Or.inr rfl, Or.inr rfl, Or.inr rfl, Or.inl rfl, Or.inl rfl, trivial⟩ ?_
            exact K_124 _ (Option.some.inj H).symm
          refine whl_go hw_129 (fun (q_127, σ_128) => YY l E M_X12_judgePart 6 0 0 (pS (some (vi r)) σ') 235 [some (vr 277), some (vi part_0), some (vi x_1), some (vi x_3), some (vi x_57), some (vi x_59), some (vi r_117), some (vi q_127), none] [] σ_128 0 0) ?_
          rintro ⟨q_127, σ_128⟩ o_133 H K_134 K_135
          refine z_iload (M := M_X12_judgePart) dX12_judgePart_235 rfl ?_
          refine z_iload_n (M := M_X12_judgePart) dX12_judgePart_237 rfl ?_
          rcases if_e H with ⟨h_136, H⟩ | ⟨h_136, H⟩
          · refine z_icmp_ge_f (M := M_X12_judgePart) (tgt := 301) dX12_judgePart_238 (by decide) rfl rfl h_136 ?_
            refine z_aload_n (M := M_X12_judgePart) dX12_judgePart_241 rfl ?_
            refine z_iload (M := M_X12_judgePart) dX12_judgePart_242 rfl ?_
            refine z_iload (M := M_X12_judgePart) dX12_judgePart_244 rfl ?_
            obtain ⟨x_156, hc_155, H⟩ := bd_e H
            refine z_callV (M := M_X12_judgePart) (M' := M_X12_liesIn) (as := [vi r_117, vi q_127]) (rest := []) rfl rfl dX12_judgePart_246 m_X12_liesIn t_3301 t_3303 s_240 (c_X12_liesIn hl  hc_155) rfl rfl ly_277 rfl (Nat.le_of_ble_eq_true rfl) (Nat.le_of_ble_eq_true rfl) (Nat.le_of_ble_eq_true rfl) (Nat.le_of_ble_eq_true rfl) ?_
            refine z_st (st' := [zv x_156]) rfl ?_
            rcases if_e H with ⟨h_157, H⟩ | ⟨h_157, H⟩
            · refine z_zne_t (M := M_X12_judgePart) (tgt := 266) dX12_judgePart_249 (by decide) h_157 ?_
              refine z_aload_n (M := M_X12_judgePart) dX12_judgePart_266 rfl ?_
              refine z_getR (M := M_X12_judgePart) (ci := 15) (C := RX12) (T := TX12) (Nf := 135) (ty := tyX12) cl15 dX12_judgePart_267 ly_277 14 (by decide) t_2405 rfl ?_
              refine z_iconst (M := M_X12_judgePart) dX12_judgePart_270 ?_
              refine z_iload_n (M := M_X12_judgePart) dX12_judgePart_271 rfl ?_
              obtain ⟨σ_158, σ_158_e, hi_159, H⟩ := wa_e H
              refine z_iast (M := M_X12_judgePart) dX12_judgePart_272 ly_285 rfl (by decide +kernel) rfl hi_159 σ_158_e ?_
              refine z_aload_n (M := M_X12_judgePart) dX12_judgePart_273 rfl ?_
              refine z_getR (M := M_X12_judgePart) (ci := 15) (C := RX12) (T := TX12) (Nf := 135) (ty := tyX12) cl15 dX12_judgePart_274 ly_277 14 (by decide) t_2405 rfl ?_
              refine z_iconst (M := M_X12_judgePart) dX12_judgePart_277 ?_
              refine z_aload_n (M := M_X12_judgePart) dX12_judgePart_278 rfl ?_
              refine z_getR (M := M_X12_judgePart) (ci := 15) (C := RX12) (T := TX12) (Nf := 135) (ty := tyX12) cl15 dX12_judgePart_279 ly_277 55 (by decide) t_2446 rfl ?_
              refine z_iload (M := M_X12_judgePart) dX12_judgePart_282 rfl ?_
              obtain ⟨x_160, x_160_e, hi_161, H⟩ := rd_e H
              refine z_iald (M := M_X12_judgePart) dX12_judgePart_284 ly_309 rfl rfl rfl hi_161 x_160_e ?_
              obtain ⟨σ_162, σ_162_e, hi_163, H⟩ := wa_e H
              refine z_iast (M := M_X12_judgePart) dX12_judgePart_285 ly_285 rfl (by decide +kernel) rfl hi_163 σ_162_e ?_
              refine z_aload_n (M := M_X12_judgePart) dX12_judgePart_286 rfl ?_
              refine z_bipush (M := M_X12_judgePart) dX12_judgePart_287 (by decide +kernel) ?_
              refine z_iload (M := M_X12_judgePart) dX12_judgePart_289 rfl ?_
              obtain ⟨⟨x_166, σ_165⟩, hc_164, H⟩ := bd_e H
              refine z_callV (M := M_X12_judgePart) (M' := M_X12_tellRing) (as := [vi 7, vi r_117]) (rest := []) rfl rfl dX12_judgePart_291 m_X12_tellRing t_3250 t_3252 s_231 (c_X12_tellRing hl  hc_164) rfl rfl ly_277 rfl (Nat.le_of_ble_eq_true rfl) (Nat.le_of_ble_eq_true rfl) (Nat.le_of_ble_eq_true rfl) (Nat.le_of_ble_eq_true rfl) ?_
              refine z_st (st' := [vi x_166]) rfl ?_
              have H := congrArg some (hk_131 _ ((K_135 _ (Option.some.inj H).symm).symm))
              have H := congrArg some (hk_121 _ ((K_125 _ (Option.some.inj H).symm).symm))
              cases H
              exact z_iret (M := M_X12_judgePart) dX12_judgePart_294 rfl (Nat.le_of_ble_eq_true rfl) (Nat.le_of_ble_eq_true rfl) ⟨rfl, rfl⟩
            · refine z_zne_f (M := M_X12_judgePart) (tgt := 266) dX12_judgePart_249 (by decide) h_157 ?_
              refine z_aload_n (M := M_X12_judgePart) dX12_judgePart_252 rfl ?_
              refine z_iload (M := M_X12_judgePart) dX12_judgePart_253 rfl ?_
              refine z_iload (M := M_X12_judgePart) dX12_judgePart_255 rfl ?_
              obtain ⟨x_168, hc_167, H⟩ := bd_e H
              refine z_callV (M := M_X12_judgePart) (M' := M_X12_liesIn) (as := [vi q_127, vi r_117]) (rest := []) rfl rfl dX12_judgePart_257 m_X12_liesIn t_3301 t_3303 s_240 (c_X12_liesIn hl  hc_167) rfl rfl ly_277 rfl (Nat.le_of_ble_eq_true rfl) (Nat.le_of_ble_eq_true rfl) (Nat.le_of_ble_eq_true rfl) (Nat.le_of_ble_eq_true rfl) ?_
              refine z_st (st' := [zv x_168]) rfl ?_
              rcases if_e H with ⟨h_169, H⟩ | ⟨h_169, H⟩
              · refine z_zne_t (M := M_X12_judgePart) (tgt := 266) dX12_judgePart_260 (by decide) h_169 ?_
                refine z_aload_n (M := M_X12_judgePart) dX12_judgePart_266 rfl ?_
                refine z_getR (M := M_X12_judgePart) (ci := 15) (C := RX12) (T := TX12) (Nf := 135) (ty := tyX12) cl15 dX12_judgePart_267 ly_277 14 (by decide) t_2405 rfl ?_
                refine z_iconst (M := M_X12_judgePart) dX12_judgePart_270 ?_
                refine z_iload_n (M := M_X12_judgePart) dX12_judgePart_271 rfl ?_
                obtain ⟨σ_170, σ_170_e, hi_171, H⟩ := wa_e H
                refine z_iast (M := M_X12_judgePart) dX12_judgePart_272 ly_285 rfl (by decide +kernel) rfl hi_171 σ_170_e ?_
                refine z_aload_n (M := M_X12_judgePart) dX12_judgePart_273 rfl ?_
                refine z_getR (M := M_X12_judgePart) (ci := 15) (C := RX12) (T := TX12) (Nf := 135) (ty := tyX12) cl15 dX12_judgePart_274 ly_277 14 (by decide) t_2405 rfl ?_
                refine z_iconst (M := M_X12_judgePart) dX12_judgePart_277 ?_
                refine z_aload_n (M := M_X12_judgePart) dX12_judgePart_278 rfl ?_
                refine z_getR (M := M_X12_judgePart) (ci := 15) (C := RX12) (T := TX12) (Nf := 135) (ty := tyX12) cl15 dX12_judgePart_279 ly_277 55 (by decide) t_2446 rfl ?_
                refine z_iload (M := M_X12_judgePart) dX12_judgePart_282 rfl ?_
                obtain ⟨x_172, x_172_e, hi_173, H⟩ := rd_e H
                refine z_iald (M := M_X12_judgePart) dX12_judgePart_284 ly_309 rfl rfl rfl hi_173 x_172_e ?_
                obtain ⟨σ_174, σ_174_e, hi_175, H⟩ := wa_e H
                refine z_iast (M := M_X12_judgePart) dX12_judgePart_285 ly_285 rfl (by decide +kernel) rfl hi_175 σ_174_e ?_
                refine z_aload_n (M := M_X12_judgePart) dX12_judgePart_286 rfl ?_
                refine z_bipush (M := M_X12_judgePart) dX12_judgePart_287 (by decide +kernel) ?_
                refine z_iload (M := M_X12_judgePart) dX12_judgePart_289 rfl ?_
                obtain ⟨⟨x_178, σ_177⟩, hc_176, H⟩ := bd_e H
                refine z_callV (M := M_X12_judgePart) (M' := M_X12_tellRing) (as := [vi 7, vi r_117]) (rest := []) rfl rfl dX12_judgePart_291 m_X12_tellRing t_3250 t_3252 s_231 (c_X12_tellRing hl  hc_176) rfl rfl ly_277 rfl (Nat.le_of_ble_eq_true rfl) (Nat.le_of_ble_eq_true rfl) (Nat.le_of_ble_eq_true rfl) (Nat.le_of_ble_eq_true rfl) ?_
                refine z_st (st' := [vi x_178]) rfl ?_
                have H := congrArg some (hk_131 _ ((K_135 _ (Option.some.inj H).symm).symm))
                have H := congrArg some (hk_121 _ ((K_125 _ (Option.some.inj H).symm).symm))
                cases H
                exact z_iret (M := M_X12_judgePart) dX12_judgePart_294 rfl (Nat.le_of_ble_eq_true rfl) (Nat.le_of_ble_eq_true rfl) ⟨rfl, rfl⟩
              · refine z_zne_f (M := M_X12_judgePart) (tgt := 266) dX12_judgePart_260 (by decide) h_169 ?_
                refine z_goto (M := M_X12_judgePart) (tgt := 295) dX12_judgePart_263 (by decide) ?_
                refine z_iinc (M := M_X12_judgePart) (lv' := [some (vr 277), some (vi part_0), some (vi x_1), some (vi x_3), some (vi x_57), some (vi x_59), some (vi r_117), some (vi (q_127 + 1)), none]) dX12_judgePart_295 rfl (Nat.le_of_ble_eq_true rfl) rfl rfl ?_
                refine z_goto (M := M_X12_judgePart) (tgt := 235) dX12_judgePart_298 (by decide) ?_
                exact K_134 _ (Option.some.inj H).symm
          · refine z_icmp_ge_t (M := M_X12_judgePart) (tgt := 301) dX12_judgePart_238 (by decide) rfl rfl (Int.not_lt.mp h_136) ?_
            exact J_184 _ _ (K_135 _ (Option.some.inj H).symm).symm
        · refine z_icmp_ge_t (M := M_X12_judgePart) (tgt := 307) dX12_judgePart_226 (by decide) rfl rfl (Int.not_lt.mp h_126) ?_
          exact J_194 _ _ (K_125 _ (Option.some.inj H).symm).symm
      refine whl_go hw_99 (fun (r_97, σ_98) => YY l E M_X12_judgePart 6 0 0 (pS (some (vi r)) σ') 187 [some (vr 277), some (vi part_0), some (vi x_1), some (vi x_3), some (vi x_57), some (vi x_59), some (vi r_97), none, none] [] σ_98 0 0) ?_
      rintro ⟨r_97, σ_98⟩ o_103 H K_104 K_105
      refine z_iload (M := M_X12_judgePart) dX12_judgePart_187 rfl ?_
      refine z_iload_n (M := M_X12_judgePart) dX12_judgePart_189 rfl ?_
      rcases if_e H with ⟨h_106, H⟩ | ⟨h_106, H⟩
      · refine z_icmp_ge_f (M := M_X12_judgePart) (tgt := 218) dX12_judgePart_190 (by decide) rfl rfl h_106 ?_
        refine z_aload_n (M := M_X12_judgePart) dX12_judgePart_193 rfl ?_
        refine z_iload (M := M_X12_judgePart) dX12_judgePart_194 rfl ?_
        refine z_iload_n (M := M_X12_judgePart) dX12_judgePart_196 rfl ?_
        obtain ⟨x_108, hc_107, H⟩ := bd_e H
        refine z_callV (M := M_X12_judgePart) (M' := M_X12_liesIn) (as := [vi r_97, vi x_1]) (rest := []) rfl rfl dX12_judgePart_197 m_X12_liesIn t_3301 t_3303 s_240 (c_X12_liesIn hl  hc_107) rfl rfl ly_277 rfl (Nat.le_of_ble_eq_true rfl) (Nat.le_of_ble_eq_true rfl) (Nat.le_of_ble_eq_true rfl) (Nat.le_of_ble_eq_true rfl) ?_
        refine z_st (st' := [zv x_108]) rfl ?_
        rcases if_e H with ⟨h_109, H⟩ | ⟨h_109, H⟩
        · refine z_zne_t (M := M_X12_judgePart) (tgt := 212) dX12_judgePart_200 (by decide) h_109 ?_
          refine z_iinc (M := M_X12_judgePart) (lv' := [some (vr 277), some (vi part_0), some (vi x_1), some (vi x_3), some (vi x_57), some (vi x_59), some (vi (r_97 + 1)), none, none]) dX12_judgePart_212 rfl (Nat.le_of_ble_eq_true rfl) rfl rfl ?_
          refine z_goto (M := M_X12_judgePart) (tgt := 187) dX12_judgePart_215 (by decide) ?_
          exact K_104 _ (Option.some.inj H).symm
        · refine z_zne_f (M := M_X12_judgePart) (tgt := 212) dX12_judgePart_200 (by decide) h_109 ?_
          refine z_aload_n (M := M_X12_judgePart) dX12_judgePart_203 rfl ?_
          refine z_bipush (M := M_X12_judgePart) dX12_judgePart_204 (by decide +kernel) ?_
          refine z_iload (M := M_X12_judgePart) dX12_judgePart_206 rfl ?_
          obtain ⟨⟨x_113, σ_112⟩, hc_111, H⟩ := bd_e H
          refine z_callV (M := M_X12_judgePart) (M' := M_X12_tellRing) (as := [vi 6, vi r_97]) (rest := []) rfl rfl dX12_judgePart_208 m_X12_tellRing t_3250 t_3252 s_231 (c_X12_tellRing hl  hc_111) rfl rfl ly_277 rfl (Nat.le_of_ble_eq_true rfl) (Nat.le_of_ble_eq_true rfl) (Nat.le_of_ble_eq_true rfl) (Nat.le_of_ble_eq_true rfl) ?_
          refine z_st (st' := [vi x_113]) rfl ?_
          have H := congrArg some (hk_101 _ ((K_105 _ (Option.some.inj H).symm).symm))
          cases H
          exact z_iret (M := M_X12_judgePart) dX12_judgePart_211 rfl (Nat.le_of_ble_eq_true rfl) (Nat.le_of_ble_eq_true rfl) ⟨rfl, rfl⟩
      · refine z_icmp_ge_t (M := M_X12_judgePart) (tgt := 218) dX12_judgePart_190 (by decide) rfl rfl (Int.not_lt.mp h_106) ?_
        exact J_195 _ _ (K_105 _ (Option.some.inj H).symm).symm
    refine whl_go hw_63 (fun (i_61, σ_62) => YY l E M_X12_judgePart 6 0 0 (pS (some (vi r)) σ') 124 [some (vr 277), some (vi part_0), some (vi x_1), some (vi x_3), some (vi x_57), some (vi x_59), some (vi i_61), none, none] [] σ_62 0 0) ?_
    rintro ⟨i_61, σ_62⟩ o_67 H K_68 K_69
    refine z_iload (M := M_X12_judgePart) dX12_judgePart_124 rfl ?_
    refine z_iload (M := M_X12_judgePart) dX12_judgePart_126 rfl ?_
    rcases if_e H with ⟨h_70, H⟩ | ⟨h_70, H⟩
    · refine z_icmp_ge_f (M := M_X12_judgePart) (tgt := 182) dX12_judgePart_128 (by decide) rfl rfl h_70 ?_
      refine z_iload (M := M_X12_judgePart) dX12_judgePart_131 rfl ?_
      refine z_iconst (M := M_X12_judgePart) dX12_judgePart_133 ?_
      refine z_iadd (M := M_X12_judgePart) dX12_judgePart_134 ?_
      refine z_istore (M := M_X12_judgePart) (lv' := [some (vr 277), some (vi part_0), some (vi x_1), some (vi x_3), some (vi x_57), some (vi x_59), some (vi i_61), some (vi (i_61 + 1)), none]) dX12_judgePart_135 (Nat.le_of_ble_eq_true rfl) rfl rfl ?_
      obtain ⟨rl_76, hw_73, hk_74, hk_75⟩ := bx_e H
      have J_93 : ∀ j_90 σ_91, rl_76 = (.inl (j_90, σ_91)) → YY l E M_X12_judgePart 6 0 0 (pS (some (vi r)) σ') 176 [some (vr 277), some (vi part_0), some (vi x_1), some (vi x_3), some (vi x_57), some (vi x_59), some (vi i_61), some (vi j_90), none] [] σ_91 0 0 := by
        intro j_90 σ_91 e
        have H := hk_74 _ e
        refine z_iinc (M := M_X12_judgePart) (lv' := [some (vr 277), some (vi part_0), some (vi x_1), some (vi x_3), some (vi x_57), some (vi x_59), some (vi (i_61 + 1)), some (vi j_90), none]) dX12_judgePart_176 rfl (Nat.le_of_ble_eq_true rfl) rfl rfl ?_
        refine z_goto (M := M_X12_judgePart) (tgt := 124) dX12_judgePart_179 (by decide) ?_
        refine z_le (lv' := [some (vr 277), some (vi part_0), some (vi x_1), some (vi x_3), some (vi x_57), some (vi x_59), some (vi (i_61 + 1)), none, none]) ⟨Or.inr rfl, Or.inr rfl, Or.inr rfl, Or.inr rfl, Or.inr rfl, Or.inr rfl, Or.inr rfl, Or.inl rfl, Or.inl rfl, trivial⟩ ?_
        exact K_68 _ (Option.some.inj H).symm
      refine whl_go hw_73 (fun (j_71, σ_72) => YY l E M_X12_judgePart 6 0 0 (pS (some (vi r)) σ') 137 [some (vr 277), some (vi part_0), some (vi x_1), some (vi x_3), some (vi x_57), some (vi x_59), some (vi i_61), some (vi j_71), none] [] σ_72 0 0) ?_
      rintro ⟨j_71, σ_72⟩ o_77 H K_78 K_79
      refine z_iload (M := M_X12_judgePart) dX12_judgePart_137 rfl ?_
      refine z_iload (M := M_X12_judgePart) dX12_judgePart_139 rfl ?_
      rcases if_e H with ⟨h_80, H⟩ | ⟨h_80, H⟩
      · refine z_icmp_ge_f (M := M_X12_judgePart) (tgt := 176) dX12_judgePart_141 (by decide) rfl rfl h_80 ?_
        refine z_aload_n (M := M_X12_judgePart) dX12_judgePart_144 rfl ?_
        refine z_iload (M := M_X12_judgePart) dX12_judgePart_145 rfl ?_
        refine z_iload (M := M_X12_judgePart) dX12_judgePart_147 rfl ?_
        obtain ⟨⟨x_83, σ_82⟩, hc_81, H⟩ := bd_e H
        refine z_callV (M := M_X12_judgePart) (M' := M_X12_wrongPair) (as := [vi i_61, vi j_71]) (rest := []) rfl rfl dX12_judgePart_149 m_X12_wrongPair t_3254 t_3256 s_232 (c_X12_wrongPair hl  hc_81) rfl rfl ly_277 rfl (Nat.le_of_ble_eq_true rfl) (Nat.le_of_ble_eq_true rfl) (Nat.le_of_ble_eq_true rfl) (Nat.le_of_ble_eq_true rfl) ?_
        refine z_st (st' := [vi x_83]) rfl ?_
        refine z_istore (M := M_X12_judgePart) (lv' := [some (vr 277), some (vi part_0), some (vi x_1), some (vi x_3), some (vi x_57), some (vi x_59), some (vi i_61), some (vi j_71), some (vi x_83)]) dX12_judgePart_152 (Nat.le_of_ble_eq_true rfl) rfl rfl ?_
        refine z_iload (M := M_X12_judgePart) dX12_judgePart_154 rfl ?_
        rcases if_e H with ⟨h_84, H⟩ | ⟨h_84, H⟩
        · refine z_if_le_f (M := M_X12_judgePart) (tgt := 170) dX12_judgePart_156 (by decide) rfl h_84 ?_
          refine z_aload_n (M := M_X12_judgePart) dX12_judgePart_159 rfl ?_
          refine z_iload (M := M_X12_judgePart) dX12_judgePart_160 rfl ?_
          refine z_iload (M := M_X12_judgePart) dX12_judgePart_162 rfl ?_
          refine z_iload (M := M_X12_judgePart) dX12_judgePart_164 rfl ?_
          obtain ⟨⟨x_87, σ_86⟩, hc_85, H⟩ := bd_e H
          refine z_callV (M := M_X12_judgePart) (M' := M_X12_tellPair) (as := [vi x_83, vi i_61, vi j_71]) (rest := []) rfl rfl dX12_judgePart_166 m_X12_tellPair t_3297 t_3299 s_239 (c_X12_tellPair hl  hc_85) rfl rfl ly_277 rfl (Nat.le_of_ble_eq_true rfl) (Nat.le_of_ble_eq_true rfl) (Nat.le_of_ble_eq_true rfl) (Nat.le_of_ble_eq_true rfl) ?_
          refine z_st (st' := [vi x_87]) rfl ?_
          have H := congrArg some (hk_75 _ ((K_79 _ (Option.some.inj H).symm).symm))
          have H := congrArg some (hk_65 _ ((K_69 _ (Option.some.inj H).symm).symm))
          cases H
          exact z_iret (M := M_X12_judgePart) dX12_judgePart_169 rfl (Nat.le_of_ble_eq_true rfl) (Nat.le_of_ble_eq_true rfl) ⟨rfl, rfl⟩
        · refine z_if_le_t (M := M_X12_judgePart) (tgt := 170) dX12_judgePart_156 (by decide) rfl (Int.not_lt.mp h_84) ?_
          refine z_iinc (M := M_X12_judgePart) (lv' := [some (vr 277), some (vi part_0), some (vi x_1), some (vi x_3), some (vi x_57), some (vi x_59), some (vi i_61), some (vi (j_71 + 1)), some (vi x_83)]) dX12_judgePart_170 rfl (Nat.le_of_ble_eq_true rfl) rfl rfl ?_
          refine z_goto (M := M_X12_judgePart) (tgt := 137) dX12_judgePart_173 (by decide) ?_
          refine z_le (lv' := [some (vr 277), some (vi part_0), some (vi x_1), some (vi x_3), some (vi x_57), some (vi x_59), some (vi i_61), some (vi (j_71 + 1)), none]) ⟨Or.inr rfl, Or.inr rfl, Or.inr rfl, Or.inr rfl, Or.inr rfl, Or.inr rfl, Or.inr rfl, Or.inr rfl, Or.inl rfl, trivial⟩ ?_
          exact K_78 _ (Option.some.inj H).symm
      · refine z_icmp_ge_t (M := M_X12_judgePart) (tgt := 176) dX12_judgePart_141 (by decide) rfl rfl (Int.not_lt.mp h_80) ?_
        exact J_93 _ _ (K_79 _ (Option.some.inj H).symm).symm
    · refine z_icmp_ge_t (M := M_X12_judgePart) (tgt := 182) dX12_judgePart_128 (by decide) rfl rfl (Int.not_lt.mp h_70) ?_
      exact J_196 _ _ (K_69 _ (Option.some.inj H).symm).symm
  refine whl_go hw_7 (fun (r_5, σ_6) => YY l E M_X12_judgePart 6 0 0 (pS (some (vi r)) σ') 19 [some (vr 277), some (vi part_0), some (vi x_1), some (vi x_3), some (vi r_5), none, none, none, none] [] σ_6 0 0) ?_
  rintro ⟨r_5, σ_6⟩ o_11 H K_12 K_13
  refine z_iload (M := M_X12_judgePart) dX12_judgePart_19 rfl ?_
  refine z_iload_n (M := M_X12_judgePart) dX12_judgePart_21 rfl ?_
  rcases if_e H with ⟨h_14, H⟩ | ⟨h_14, H⟩
  · refine z_icmp_ge_f (M := M_X12_judgePart) (tgt := 104) dX12_judgePart_22 (by decide) rfl rfl h_14 ?_
    refine z_aload_n (M := M_X12_judgePart) dX12_judgePart_25 rfl ?_
    refine z_getR (M := M_X12_judgePart) (ci := 15) (C := RX12) (T := TX12) (Nf := 135) (ty := tyX12) cl15 dX12_judgePart_26 ly_277 52 (by decide) t_2443 rfl ?_
    refine z_iload (M := M_X12_judgePart) dX12_judgePart_29 rfl ?_
    obtain ⟨x_15, x_15_e, hi_16, H⟩ := rd_e H
    refine z_iald (M := M_X12_judgePart) dX12_judgePart_31 ly_306 rfl rfl rfl hi_16 x_15_e ?_
    refine z_istore (M := M_X12_judgePart) (lv' := [some (vr 277), some (vi part_0), some (vi x_1), some (vi x_3), some (vi r_5), some (vi x_15), none, none, none]) dX12_judgePart_32 (Nat.le_of_ble_eq_true rfl) rfl rfl ?_
    refine z_aload_n (M := M_X12_judgePart) dX12_judgePart_34 rfl ?_
    refine z_getR (M := M_X12_judgePart) (ci := 15) (C := RX12) (T := TX12) (Nf := 135) (ty := tyX12) cl15 dX12_judgePart_35 ly_277 53 (by decide) t_2444 rfl ?_
    refine z_iload (M := M_X12_judgePart) dX12_judgePart_38 rfl ?_
    obtain ⟨x_31, x_31_e, hi_32, H⟩ := rd_e H
    refine z_iald (M := M_X12_judgePart) dX12_judgePart_40 ly_307 rfl rfl rfl hi_32 x_31_e ?_
    rcases if_e H with ⟨h_33, H⟩ | ⟨h_33, H⟩
    · refine z_if_eq_t (M := M_X12_judgePart) (tgt := 65) dX12_judgePart_41 (by decide) rfl h_33 ?_
      refine z_aload_n (M := M_X12_judgePart) dX12_judgePart_65 rfl ?_
      refine z_iconst (M := M_X12_judgePart) dX12_judgePart_66 ?_
      refine z_iload (M := M_X12_judgePart) dX12_judgePart_67 rfl ?_
      obtain ⟨⟨x_36, σ_35⟩, hc_34, H⟩ := bd_e H
      refine z_callV (M := M_X12_judgePart) (M' := M_X12_tellRing) (as := [vi 1, vi r_5]) (rest := []) rfl rfl dX12_judgePart_69 m_X12_tellRing t_3250 t_3252 s_231 (c_X12_tellRing hl  hc_34) rfl rfl ly_277 rfl (Nat.le_of_ble_eq_true rfl) (Nat.le_of_ble_eq_true rfl) (Nat.le_of_ble_eq_true rfl) (Nat.le_of_ble_eq_true rfl) ?_
      refine z_st (st' := [vi x_36]) rfl ?_
      have H := congrArg some (hk_9 _ ((K_13 _ (Option.some.inj H).symm).symm))
      cases H
      exact z_iret (M := M_X12_judgePart) dX12_judgePart_72 rfl (Nat.le_of_ble_eq_true rfl) (Nat.le_of_ble_eq_true rfl) ⟨rfl, rfl⟩
    · refine z_if_eq_f (M := M_X12_judgePart) (tgt := 65) dX12_judgePart_41 (by decide) rfl h_33 ?_
      refine z_aload_n (M := M_X12_judgePart) dX12_judgePart_44 rfl ?_
      refine z_iload (M := M_X12_judgePart) dX12_judgePart_45 rfl ?_
      refine z_iload (M := M_X12_judgePart) dX12_judgePart_47 rfl ?_
      refine z_aload_n (M := M_X12_judgePart) dX12_judgePart_49 rfl ?_
      refine z_getR (M := M_X12_judgePart) (ci := 15) (C := RX12) (T := TX12) (Nf := 135) (ty := tyX12) cl15 dX12_judgePart_50 ly_277 53 (by decide) t_2444 rfl ?_
      refine z_iload (M := M_X12_judgePart) dX12_judgePart_53 rfl ?_
      obtain ⟨x_37, x_37_e, hi_38, H⟩ := rd_e H
      refine z_iald (M := M_X12_judgePart) dX12_judgePart_55 ly_307 rfl rfl rfl hi_38 x_37_e ?_
      refine z_iadd (M := M_X12_judgePart) dX12_judgePart_56 ?_
      refine z_iconst (M := M_X12_judgePart) dX12_judgePart_57 ?_
      refine z_isub (M := M_X12_judgePart) dX12_judgePart_58 ?_
      obtain ⟨x_40, hc_39, H⟩ := bd_e H
      refine z_callV (M := M_X12_judgePart) (M' := M_X12_isSame) (as := [vi x_15, vi ((x_15 + x_37) - 1)]) (rest := []) rfl rfl dX12_judgePart_59 m_X12_isSame t_3230 t_3232 s_226 (c_X12_isSame hl  hc_39) rfl rfl ly_277 rfl (Nat.le_of_ble_eq_true rfl) (Nat.le_of_ble_eq_true rfl) (Nat.le_of_ble_eq_true rfl) (Nat.le_of_ble_eq_true rfl) ?_
      refine z_st (st' := [zv x_40]) rfl ?_
      rcases if_e H with ⟨h_41, H⟩ | ⟨h_41, H⟩
      · refine z_zne_t (M := M_X12_judgePart) (tgt := 73) dX12_judgePart_62 (by decide) h_41 ?_
        refine z_aload_n (M := M_X12_judgePart) dX12_judgePart_73 rfl ?_
        refine z_iload (M := M_X12_judgePart) dX12_judgePart_74 rfl ?_
        refine z_aload_n (M := M_X12_judgePart) dX12_judgePart_76 rfl ?_
        refine z_getR (M := M_X12_judgePart) (ci := 15) (C := RX12) (T := TX12) (Nf := 135) (ty := tyX12) cl15 dX12_judgePart_77 ly_277 53 (by decide) t_2444 rfl ?_
        refine z_iload (M := M_X12_judgePart) dX12_judgePart_80 rfl ?_
        obtain ⟨x_42, x_42_e, hi_43, H⟩ := rd_e H
        refine z_iald (M := M_X12_judgePart) dX12_judgePart_82 ly_307 rfl rfl rfl hi_43 x_42_e ?_
        obtain ⟨x_45, hc_44, H⟩ := bd_e H
        refine z_callV (M := M_X12_judgePart) (M' := M_X12_different) (as := [vi x_15, vi x_42]) (rest := []) rfl rfl dX12_judgePart_83 m_X12_different t_3226 t_3228 s_225 (c_X12_different hl  hc_44) rfl rfl ly_277 rfl (Nat.le_of_ble_eq_true rfl) (Nat.le_of_ble_eq_true rfl) (Nat.le_of_ble_eq_true rfl) (Nat.le_of_ble_eq_true rfl) ?_
        refine z_st (st' := [vi x_45]) rfl ?_
        refine z_iconst (M := M_X12_judgePart) dX12_judgePart_86 ?_
        rcases if_e H with ⟨h_46, H⟩ | ⟨h_46, H⟩
        · refine z_icmp_ge_f (M := M_X12_judgePart) (tgt := 98) dX12_judgePart_87 (by decide) rfl (by decide +kernel) h_46 ?_
          refine z_aload_n (M := M_X12_judgePart) dX12_judgePart_90 rfl ?_
          refine z_iconst (M := M_X12_judgePart) dX12_judgePart_91 ?_
          refine z_iload (M := M_X12_judgePart) dX12_judgePart_92 rfl ?_
          obtain ⟨⟨x_49, σ_48⟩, hc_47, H⟩ := bd_e H
          refine z_callV (M := M_X12_judgePart) (M' := M_X12_tellRing) (as := [vi 2, vi r_5]) (rest := []) rfl rfl dX12_judgePart_94 m_X12_tellRing t_3250 t_3252 s_231 (c_X12_tellRing hl  hc_47) rfl rfl ly_277 rfl (Nat.le_of_ble_eq_true rfl) (Nat.le_of_ble_eq_true rfl) (Nat.le_of_ble_eq_true rfl) (Nat.le_of_ble_eq_true rfl) ?_
          refine z_st (st' := [vi x_49]) rfl ?_
          have H := congrArg some (hk_9 _ ((K_13 _ (Option.some.inj H).symm).symm))
          cases H
          exact z_iret (M := M_X12_judgePart) dX12_judgePart_97 rfl (Nat.le_of_ble_eq_true rfl) (Nat.le_of_ble_eq_true rfl) ⟨rfl, rfl⟩
        · refine z_icmp_ge_t (M := M_X12_judgePart) (tgt := 98) dX12_judgePart_87 (by decide) rfl (by decide +kernel) (Int.not_lt.mp h_46) ?_
          refine z_iinc (M := M_X12_judgePart) (lv' := [some (vr 277), some (vi part_0), some (vi x_1), some (vi x_3), some (vi (r_5 + 1)), some (vi x_15), none, none, none]) dX12_judgePart_98 rfl (Nat.le_of_ble_eq_true rfl) rfl rfl ?_
          refine z_goto (M := M_X12_judgePart) (tgt := 19) dX12_judgePart_101 (by decide) ?_
          refine z_le (lv' := [some (vr 277), some (vi part_0), some (vi x_1), some (vi x_3), some (vi (r_5 + 1)), none, none, none, none]) ⟨Or.inr rfl, Or.inr rfl, Or.inr rfl, Or.inr rfl, Or.inr rfl, Or.inl rfl, Or.inl rfl, Or.inl rfl, Or.inl rfl, trivial⟩ ?_
          exact K_12 _ (Option.some.inj H).symm
      · refine z_zne_f (M := M_X12_judgePart) (tgt := 73) dX12_judgePart_62 (by decide) h_41 ?_
        refine z_aload_n (M := M_X12_judgePart) dX12_judgePart_65 rfl ?_
        refine z_iconst (M := M_X12_judgePart) dX12_judgePart_66 ?_
        refine z_iload (M := M_X12_judgePart) dX12_judgePart_67 rfl ?_
        obtain ⟨⟨x_53, σ_52⟩, hc_51, H⟩ := bd_e H
        refine z_callV (M := M_X12_judgePart) (M' := M_X12_tellRing) (as := [vi 1, vi r_5]) (rest := []) rfl rfl dX12_judgePart_69 m_X12_tellRing t_3250 t_3252 s_231 (c_X12_tellRing hl  hc_51) rfl rfl ly_277 rfl (Nat.le_of_ble_eq_true rfl) (Nat.le_of_ble_eq_true rfl) (Nat.le_of_ble_eq_true rfl) (Nat.le_of_ble_eq_true rfl) ?_
        refine z_st (st' := [vi x_53]) rfl ?_
        have H := congrArg some (hk_9 _ ((K_13 _ (Option.some.inj H).symm).symm))
        cases H
        exact z_iret (M := M_X12_judgePart) dX12_judgePart_72 rfl (Nat.le_of_ble_eq_true rfl) (Nat.le_of_ble_eq_true rfl) ⟨rfl, rfl⟩
  · refine z_icmp_ge_t (M := M_X12_judgePart) (tgt := 104) dX12_judgePart_22 (by decide) rfl rfl (Int.not_lt.mp h_14) ?_
    exact J_197 _ _ (K_13 _ (Option.some.inj H).symm).symm
theorem c_X12_isInside (hl : l.stackTraces = false) {σ : SG} {part_0 : Int} {other_0 : Int} {r : Bool}  (H : fR_isInside σ part_0 other_0 = some r) : en_S l E M_X12_isInside 6 0 0 [vr 277, vi part_0, vi other_0] σ (pS (some (zv r)) σ) := by
  unfold fR_isInside at H
  refine z_mk (lv := [some (vr 277), some (vi part_0), some (vi other_0), none, none, none]) m_X12_isInside rfl hl (Nat.le_of_ble_eq_true rfl) rfl ?_
  refine z_aload_n (M := M_X12_isInside) dX12_isInside_0 rfl ?_
  refine z_getR (M := M_X12_isInside) (ci := 15) (C := RX12) (T := TX12) (Nf := 135) (ty := tyX12) cl15 dX12_isInside_1 ly_277 58 (by decide) t_2449 rfl ?_
  refine z_iload_n (M := M_X12_isInside) dX12_isInside_4 rfl ?_
  obtain ⟨x_1, x_1_e, hi_2, H⟩ := rd_e H
  refine z_iald (M := M_X12_isInside) dX12_isInside_5 ly_311 rfl rfl rfl hi_2 x_1_e ?_
  refine z_istore_n (M := M_X12_isInside) (lv' := [some (vr 277), some (vi part_0), some (vi other_0), some (vi x_1), none, none]) dX12_isInside_6 (Nat.le_of_ble_eq_true rfl) rfl rfl ?_
  refine z_aload_n (M := M_X12_isInside) dX12_isInside_7 rfl ?_
  refine z_getR (M := M_X12_isInside) (ci := 15) (C := RX12) (T := TX12) (Nf := 135) (ty := tyX12) cl15 dX12_isInside_8 ly_277 58 (by decide) t_2449 rfl ?_
  refine z_iload_n (M := M_X12_isInside) dX12_isInside_11 rfl ?_
  obtain ⟨x_3, x_3_e, hi_4, H⟩ := rd_e H
  refine z_iald (M := M_X12_isInside) dX12_isInside_12 ly_311 rfl rfl rfl hi_4 x_3_e ?_
  refine z_istore (M := M_X12_isInside) (lv' := [some (vr 277), some (vi part_0), some (vi other_0), some (vi x_1), some (vi x_3), none]) dX12_isInside_13 (Nat.le_of_ble_eq_true rfl) rfl rfl ?_
  refine z_iload_n (M := M_X12_isInside) dX12_isInside_15 rfl ?_
  refine z_aload_n (M := M_X12_isInside) dX12_isInside_16 rfl ?_
  refine z_getR (M := M_X12_isInside) (ci := 15) (C := RX12) (T := TX12) (Nf := 135) (ty := tyX12) cl15 dX12_isInside_17 ly_277 58 (by decide) t_2449 rfl ?_
  refine z_iload_n (M := M_X12_isInside) dX12_isInside_20 rfl ?_
  refine z_iconst (M := M_X12_isInside) dX12_isInside_21 ?_
  refine z_iadd (M := M_X12_isInside) dX12_isInside_22 ?_
  obtain ⟨x_18, x_18_e, hi_19, H⟩ := rd_e H
  refine z_iald (M := M_X12_isInside) dX12_isInside_23 ly_311 rfl rfl rfl hi_19 x_18_e ?_
  rcases if_e H with ⟨h_20, H⟩ | ⟨h_20, H⟩
  · refine z_icmp_eq_t (M := M_X12_isInside) (tgt := 50) dX12_isInside_24 (by decide) rfl rfl h_20 ?_
    refine z_zconst (M := M_X12_isInside) (b := false) dX12_isInside_50 rfl ?_
    cases H
    exact z_zret (M := M_X12_isInside) dX12_isInside_51 rfl (Nat.le_of_ble_eq_true rfl) (Nat.le_of_ble_eq_true rfl) ⟨rfl, rfl⟩
  · refine z_icmp_eq_f (M := M_X12_isInside) (tgt := 50) dX12_isInside_24 (by decide) rfl rfl h_20 ?_
    refine z_iload (M := M_X12_isInside) dX12_isInside_27 rfl ?_
    refine z_aload_n (M := M_X12_isInside) dX12_isInside_29 rfl ?_
    refine z_getR (M := M_X12_isInside) (ci := 15) (C := RX12) (T := TX12) (Nf := 135) (ty := tyX12) cl15 dX12_isInside_30 ly_277 58 (by decide) t_2449 rfl ?_
    refine z_iload_n (M := M_X12_isInside) dX12_isInside_33 rfl ?_
    refine z_iconst (M := M_X12_isInside) dX12_isInside_34 ?_
    refine z_iadd (M := M_X12_isInside) dX12_isInside_35 ?_
    obtain ⟨x_21, x_21_e, hi_22, H⟩ := rd_e H
    refine z_iald (M := M_X12_isInside) dX12_isInside_36 ly_311 rfl rfl rfl hi_22 x_21_e ?_
    rcases if_e H with ⟨h_23, H⟩ | ⟨h_23, H⟩
    · refine z_icmp_eq_t (M := M_X12_isInside) (tgt := 50) dX12_isInside_37 (by decide) rfl rfl h_23 ?_
      refine z_zconst (M := M_X12_isInside) (b := false) dX12_isInside_50 rfl ?_
      cases H
      exact z_zret (M := M_X12_isInside) dX12_isInside_51 rfl (Nat.le_of_ble_eq_true rfl) (Nat.le_of_ble_eq_true rfl) ⟨rfl, rfl⟩
    · refine z_icmp_eq_f (M := M_X12_isInside) (tgt := 50) dX12_isInside_37 (by decide) rfl rfl h_23 ?_
      refine z_aload_n (M := M_X12_isInside) dX12_isInside_40 rfl ?_
      refine z_iload_n (M := M_X12_isInside) dX12_isInside_41 rfl ?_
      refine z_iload (M := M_X12_isInside) dX12_isInside_42 rfl ?_
      obtain ⟨x_25, hc_24, H⟩ := bd_e H
      refine z_callV (M := M_X12_isInside) (M' := M_X12_liesIn) (as := [vi x_1, vi x_3]) (rest := []) rfl rfl dX12_isInside_44 m_X12_liesIn t_3301 t_3303 s_240 (c_X12_liesIn hl  hc_24) rfl rfl ly_277 rfl (Nat.le_of_ble_eq_true rfl) (Nat.le_of_ble_eq_true rfl) (Nat.le_of_ble_eq_true rfl) (Nat.le_of_ble_eq_true rfl) ?_
      refine z_st (st' := [zv x_25]) rfl ?_
      rcases if_e H with ⟨h_26, H⟩ | ⟨h_26, H⟩
      · refine z_zne_t (M := M_X12_isInside) (tgt := 52) dX12_isInside_47 (by decide) h_26 ?_
        refine z_iload (M := M_X12_isInside) dX12_isInside_52 rfl ?_
        refine z_iconst (M := M_X12_isInside) dX12_isInside_54 ?_
        refine z_iadd (M := M_X12_isInside) dX12_isInside_55 ?_
        refine z_istore (M := M_X12_isInside) (lv' := [some (vr 277), some (vi part_0), some (vi other_0), some (vi x_1), some (vi x_3), some (vi (x_3 + 1))]) dX12_isInside_56 (Nat.le_of_ble_eq_true rfl) rfl rfl ?_
        obtain ⟨rl_31, hw_28, hk_29, hk_30⟩ := bx_e H
        have J_44 : ∀ r_43, rl_31 = (.inl r_43) → YY l E M_X12_isInside 6 0 0 (pS (some (zv r)) σ) 89 [some (vr 277), some (vi part_0), some (vi other_0), some (vi x_1), some (vi x_3), some (vi r_43)] [] σ 0 0 := by
          intro r_43 e
          have H := hk_29 _ e
          refine z_zconst (M := M_X12_isInside) (b := true) dX12_isInside_89 rfl ?_
          cases H
          exact z_zret (M := M_X12_isInside) dX12_isInside_90 rfl (Nat.le_of_ble_eq_true rfl) (Nat.le_of_ble_eq_true rfl) ⟨rfl, rfl⟩
        refine whl_go hw_28 (fun r_27 => YY l E M_X12_isInside 6 0 0 (pS (some (zv r)) σ) 58 [some (vr 277), some (vi part_0), some (vi other_0), some (vi x_1), some (vi x_3), some (vi r_27)] [] σ 0 0) ?_
        rintro r_27 o_32 H K_33 K_34
        refine z_iload (M := M_X12_isInside) dX12_isInside_58 rfl ?_
        refine z_aload_n (M := M_X12_isInside) dX12_isInside_60 rfl ?_
        refine z_getR (M := M_X12_isInside) (ci := 15) (C := RX12) (T := TX12) (Nf := 135) (ty := tyX12) cl15 dX12_isInside_61 ly_277 58 (by decide) t_2449 rfl ?_
        refine z_iload_n (M := M_X12_isInside) dX12_isInside_64 rfl ?_
        refine z_iconst (M := M_X12_isInside) dX12_isInside_65 ?_
        refine z_iadd (M := M_X12_isInside) dX12_isInside_66 ?_
        obtain ⟨x_35, x_35_e, hi_36, H⟩ := rd_e H
        refine z_iald (M := M_X12_isInside) dX12_isInside_67 ly_311 rfl rfl rfl hi_36 x_35_e ?_
        rcases if_e H with ⟨h_37, H⟩ | ⟨h_37, H⟩
        · refine z_icmp_ge_f (M := M_X12_isInside) (tgt := 89) dX12_isInside_68 (by decide) rfl rfl h_37 ?_
          refine z_aload_n (M := M_X12_isInside) dX12_isInside_71 rfl ?_
          refine z_iload_n (M := M_X12_isInside) dX12_isInside_72 rfl ?_
          refine z_iload (M := M_X12_isInside) dX12_isInside_73 rfl ?_
          obtain ⟨x_39, hc_38, H⟩ := bd_e H
          refine z_callV (M := M_X12_isInside) (M' := M_X12_liesIn) (as := [vi x_1, vi r_27]) (rest := []) rfl rfl dX12_isInside_75 m_X12_liesIn t_3301 t_3303 s_240 (c_X12_liesIn hl  hc_38) rfl rfl ly_277 rfl (Nat.le_of_ble_eq_true rfl) (Nat.le_of_ble_eq_true rfl) (Nat.le_of_ble_eq_true rfl) (Nat.le_of_ble_eq_true rfl) ?_
          refine z_st (st' := [zv x_39]) rfl ?_
          rcases if_e H with ⟨h_40, H⟩ | ⟨h_40, H⟩
          · refine z_zeq_f (M := M_X12_isInside) (tgt := 83) dX12_isInside_78 (by decide) h_40 ?_
            refine z_zconst (M := M_X12_isInside) (b := false) dX12_isInside_81 rfl ?_
            have H := congrArg some (hk_30 _ ((K_34 _ (Option.some.inj H).symm).symm))
            cases H
            exact z_zret (M := M_X12_isInside) dX12_isInside_82 rfl (Nat.le_of_ble_eq_true rfl) (Nat.le_of_ble_eq_true rfl) ⟨rfl, rfl⟩
          · refine z_zeq_t (M := M_X12_isInside) (tgt := 83) dX12_isInside_78 (by decide) h_40 ?_
            refine z_iinc (M := M_X12_isInside) (lv' := [some (vr 277), some (vi part_0), some (vi other_0), some (vi x_1), some (vi x_3), some (vi (r_27 + 1))]) dX12_isInside_83 rfl (Nat.le_of_ble_eq_true rfl) rfl rfl ?_
            refine z_goto (M := M_X12_isInside) (tgt := 58) dX12_isInside_86 (by decide) ?_
            exact K_33 _ (Option.some.inj H).symm
        · refine z_icmp_ge_t (M := M_X12_isInside) (tgt := 89) dX12_isInside_68 (by decide) rfl rfl (Int.not_lt.mp h_37) ?_
          exact J_44 _ (K_34 _ (Option.some.inj H).symm).symm
      · refine z_zne_f (M := M_X12_isInside) (tgt := 52) dX12_isInside_47 (by decide) h_26 ?_
        refine z_zconst (M := M_X12_isInside) (b := false) dX12_isInside_50 rfl ?_
        cases H
        exact z_zret (M := M_X12_isInside) dX12_isInside_51 rfl (Nat.le_of_ble_eq_true rfl) (Nat.le_of_ble_eq_true rfl) ⟨rfl, rfl⟩
theorem c_X12_judgeParts (hl : l.stackTraces = false) {σ : SG} {r : Int} {σ' : SG}  (H : fR_judgeParts σ = some (r, σ')) : en_S l E M_X12_judgeParts 7 0 0 [vr 277] σ (pS (some (vi r)) σ') := by
  unfold fR_judgeParts at H
  refine z_mk (lv := [some (vr 277), none, none, none]) m_X12_judgeParts rfl hl (Nat.le_of_ble_eq_true rfl) rfl ?_
  refine z_iconst (M := M_X12_judgeParts) dX12_judgeParts_0 ?_
  refine z_istore_n (M := M_X12_judgeParts) (lv' := [some (vr 277), some (vi 0), none, none]) dX12_judgeParts_1 (Nat.le_of_ble_eq_true rfl) rfl rfl ?_
  obtain ⟨rl_6, hw_3, hk_4, hk_5⟩ := bx_e H
  have J_123 : ∀ p_17 σ_18, rl_6 = (.inl (p_17, σ_18)) → YY l E M_X12_judgeParts 7 0 0 (pS (some (vi r)) σ') 28 [some (vr 277), some (vi p_17), none, none] [] σ_18 0 0 := by
    intro p_17 σ_18 e
    have H := hk_4 _ e
    refine z_iconst (M := M_X12_judgeParts) dX12_judgeParts_28 ?_
    refine z_istore_n (M := M_X12_judgeParts) (lv' := [some (vr 277), some (vi 0), none, none]) dX12_judgeParts_29 (Nat.le_of_ble_eq_true rfl) rfl rfl ?_
    obtain ⟨rl_24, hw_21, hk_22, hk_23⟩ := bx_e H
    have J_122 : ∀ i_63 σ_64, rl_24 = (.inl (i_63, σ_64)) → YY l E M_X12_judgeParts 7 0 0 (pS (some (vi r)) σ') 112 [some (vr 277), some (vi i_63), none, none] [] σ_64 0 0 := by
      intro i_63 σ_64 e
      have H := hk_22 _ e
      refine z_iconst (M := M_X12_judgeParts) dX12_judgeParts_112 ?_
      refine z_istore_n (M := M_X12_judgeParts) (lv' := [some (vr 277), some (vi 0), none, none]) dX12_judgeParts_113 (Nat.le_of_ble_eq_true rfl) rfl rfl ?_
      obtain ⟨rl_70, hw_67, hk_68, hk_69⟩ := bx_e H
      have J_121 : ∀ p_119 σ_120, rl_70 = (.inl (p_119, σ_120)) → YY l E M_X12_judgeParts 7 0 0 (pS (some (vi r)) σ') 184 [some (vr 277), some (vi p_119), none, none] [] σ_120 0 0 := by
        intro p_119 σ_120 e
        have H := hk_68 _ e
        refine z_iconst (M := M_X12_judgeParts) dX12_judgeParts_184 ?_
        cases H
        exact z_iret (M := M_X12_judgeParts) dX12_judgeParts_185 rfl (Nat.le_of_ble_eq_true rfl) (Nat.le_of_ble_eq_true rfl) ⟨rfl, rfl⟩
      refine whl_go hw_67 (fun (p_65, σ_66) => YY l E M_X12_judgeParts 7 0 0 (pS (some (vi r)) σ') 114 [some (vr 277), some (vi p_65), none, none] [] σ_66 0 0) ?_
      rintro ⟨p_65, σ_66⟩ o_71 H K_72 K_73
      refine z_iload_n (M := M_X12_judgeParts) dX12_judgeParts_114 rfl ?_
      refine z_aload_n (M := M_X12_judgeParts) dX12_judgeParts_115 rfl ?_
      refine z_getI (M := M_X12_judgeParts) (ci := 15) (C := RX12) (T := TX12) (Nf := 135) (ty := tyX12) cl15 dX12_judgeParts_116 ly_277 59 (by decide) t_2450 rfl rfl ?_
      rcases if_e H with ⟨h_74, H⟩ | ⟨h_74, H⟩
      · refine z_icmp_ge_f (M := M_X12_judgeParts) (tgt := 184) dX12_judgeParts_119 (by decide) rfl rfl h_74 ?_
        refine z_iload_n (M := M_X12_judgeParts) dX12_judgeParts_122 rfl ?_
        refine z_iconst (M := M_X12_judgeParts) dX12_judgeParts_123 ?_
        refine z_iadd (M := M_X12_judgeParts) dX12_judgeParts_124 ?_
        refine z_istore_n (M := M_X12_judgeParts) (lv' := [some (vr 277), some (vi p_65), some (vi (p_65 + 1)), none]) dX12_judgeParts_125 (Nat.le_of_ble_eq_true rfl) rfl rfl ?_
        obtain ⟨rl_80, hw_77, hk_78, hk_79⟩ := bx_e H
        have J_117 : ∀ q_114 σ_115, rl_80 = (.inl (q_114, σ_115)) → YY l E M_X12_judgeParts 7 0 0 (pS (some (vi r)) σ') 178 [some (vr 277), some (vi p_65), some (vi q_114), none] [] σ_115 0 0 := by
          intro q_114 σ_115 e
          have H := hk_78 _ e
          refine z_iinc (M := M_X12_judgeParts) (lv' := [some (vr 277), some (vi (p_65 + 1)), some (vi q_114), none]) dX12_judgeParts_178 rfl (Nat.le_of_ble_eq_true rfl) rfl rfl ?_
          refine z_goto (M := M_X12_judgeParts) (tgt := 114) dX12_judgeParts_181 (by decide) ?_
          refine z_le (lv' := [some (vr 277), some (vi (p_65 + 1)), none, none]) ⟨Or.inr rfl, Or.inr rfl, Or.inl rfl, Or.inl rfl, trivial⟩ ?_
          exact K_72 _ (Option.some.inj H).symm
        refine whl_go hw_77 (fun (q_75, σ_76) => YY l E M_X12_judgeParts 7 0 0 (pS (some (vi r)) σ') 126 [some (vr 277), some (vi p_65), some (vi q_75), none] [] σ_76 0 0) ?_
        rintro ⟨q_75, σ_76⟩ o_81 H K_82 K_83
        refine z_iload_n (M := M_X12_judgeParts) dX12_judgeParts_126 rfl ?_
        refine z_aload_n (M := M_X12_judgeParts) dX12_judgeParts_127 rfl ?_
        refine z_getI (M := M_X12_judgeParts) (ci := 15) (C := RX12) (T := TX12) (Nf := 135) (ty := tyX12) cl15 dX12_judgeParts_128 ly_277 59 (by decide) t_2450 rfl rfl ?_
        rcases if_e H with ⟨h_84, H⟩ | ⟨h_84, H⟩
        · refine z_icmp_ge_f (M := M_X12_judgeParts) (tgt := 178) dX12_judgeParts_131 (by decide) rfl rfl h_84 ?_
          refine z_aload_n (M := M_X12_judgeParts) dX12_judgeParts_134 rfl ?_
          refine z_iload_n (M := M_X12_judgeParts) dX12_judgeParts_135 rfl ?_
          refine z_iload_n (M := M_X12_judgeParts) dX12_judgeParts_136 rfl ?_
          obtain ⟨x_99, hc_98, H⟩ := bd_e H
          refine z_callV (M := M_X12_judgeParts) (M' := M_X12_isInside) (as := [vi p_65, vi q_75]) (rest := []) rfl rfl dX12_judgeParts_137 m_X12_isInside t_3333 t_3335 s_248 (c_X12_isInside hl  hc_98) rfl rfl ly_277 rfl (Nat.le_of_ble_eq_true rfl) (Nat.le_of_ble_eq_true rfl) (Nat.le_of_ble_eq_true rfl) (Nat.le_of_ble_eq_true rfl) ?_
          refine z_st (st' := [zv x_99]) rfl ?_
          rcases if_e H with ⟨h_100, H⟩ | ⟨h_100, H⟩
          · refine z_zne_t (M := M_X12_judgeParts) (tgt := 155) dX12_judgeParts_140 (by decide) h_100 ?_
            refine z_aload_n (M := M_X12_judgeParts) dX12_judgeParts_155 rfl ?_
            refine z_getR (M := M_X12_judgeParts) (ci := 15) (C := RX12) (T := TX12) (Nf := 135) (ty := tyX12) cl15 dX12_judgeParts_156 ly_277 14 (by decide) t_2405 rfl ?_
            refine z_iconst (M := M_X12_judgeParts) dX12_judgeParts_159 ?_
            refine z_iload_n (M := M_X12_judgeParts) dX12_judgeParts_160 rfl ?_
            obtain ⟨σ_101, σ_101_e, hi_102, H⟩ := wa_e H
            refine z_iast (M := M_X12_judgeParts) dX12_judgeParts_161 ly_285 rfl (by decide +kernel) rfl hi_102 σ_101_e ?_
            refine z_aload_n (M := M_X12_judgeParts) dX12_judgeParts_162 rfl ?_
            refine z_getR (M := M_X12_judgeParts) (ci := 15) (C := RX12) (T := TX12) (Nf := 135) (ty := tyX12) cl15 dX12_judgeParts_163 ly_277 14 (by decide) t_2405 rfl ?_
            refine z_iconst (M := M_X12_judgeParts) dX12_judgeParts_166 ?_
            refine z_iload_n (M := M_X12_judgeParts) dX12_judgeParts_167 rfl ?_
            obtain ⟨σ_103, σ_103_e, hi_104, H⟩ := wa_e H
            refine z_iast (M := M_X12_judgeParts) dX12_judgeParts_168 ly_285 rfl (by decide +kernel) rfl hi_104 σ_103_e ?_
            refine z_bipush (M := M_X12_judgeParts) dX12_judgeParts_169 (by decide +kernel) ?_
            have H := congrArg some (hk_79 _ ((K_83 _ (Option.some.inj H).symm).symm))
            have H := congrArg some (hk_69 _ ((K_73 _ (Option.some.inj H).symm).symm))
            cases H
            exact z_iret (M := M_X12_judgeParts) dX12_judgeParts_171 rfl (Nat.le_of_ble_eq_true rfl) (Nat.le_of_ble_eq_true rfl) ⟨rfl, rfl⟩
          · refine z_zne_f (M := M_X12_judgeParts) (tgt := 155) dX12_judgeParts_140 (by decide) h_100 ?_
            refine z_aload_n (M := M_X12_judgeParts) dX12_judgeParts_143 rfl ?_
            refine z_iload_n (M := M_X12_judgeParts) dX12_judgeParts_144 rfl ?_
            refine z_iload_n (M := M_X12_judgeParts) dX12_judgeParts_145 rfl ?_
            obtain ⟨x_106, hc_105, H⟩ := bd_e H
            refine z_callV (M := M_X12_judgeParts) (M' := M_X12_isInside) (as := [vi q_75, vi p_65]) (rest := []) rfl rfl dX12_judgeParts_146 m_X12_isInside t_3333 t_3335 s_248 (c_X12_isInside hl  hc_105) rfl rfl ly_277 rfl (Nat.le_of_ble_eq_true rfl) (Nat.le_of_ble_eq_true rfl) (Nat.le_of_ble_eq_true rfl) (Nat.le_of_ble_eq_true rfl) ?_
            refine z_st (st' := [zv x_106]) rfl ?_
            rcases if_e H with ⟨h_107, H⟩ | ⟨h_107, H⟩
            · refine z_zne_t (M := M_X12_judgeParts) (tgt := 155) dX12_judgeParts_149 (by decide) h_107 ?_
              refine z_aload_n (M := M_X12_judgeParts) dX12_judgeParts_155 rfl ?_
              refine z_getR (M := M_X12_judgeParts) (ci := 15) (C := RX12) (T := TX12) (Nf := 135) (ty := tyX12) cl15 dX12_judgeParts_156 ly_277 14 (by decide) t_2405 rfl ?_
              refine z_iconst (M := M_X12_judgeParts) dX12_judgeParts_159 ?_
              refine z_iload_n (M := M_X12_judgeParts) dX12_judgeParts_160 rfl ?_
              obtain ⟨σ_108, σ_108_e, hi_109, H⟩ := wa_e H
              refine z_iast (M := M_X12_judgeParts) dX12_judgeParts_161 ly_285 rfl (by decide +kernel) rfl hi_109 σ_108_e ?_
              refine z_aload_n (M := M_X12_judgeParts) dX12_judgeParts_162 rfl ?_
              refine z_getR (M := M_X12_judgeParts) (ci := 15) (C := RX12) (T := TX12) (Nf := 135) (ty := tyX12) cl15 dX12_judgeParts_163 ly_277 14 (by decide) t_2405 rfl ?_
              refine z_iconst (M := M_X12_judgeParts) dX12_judgeParts_166 ?_
              refine z_iload_n (M := M_X12_judgeParts) dX12_judgeParts_167 rfl ?_
              obtain ⟨σ_110, σ_110_e, hi_111, H⟩ := wa_e H
              refine z_iast (M := M_X12_judgeParts) dX12_judgeParts_168 ly_285 rfl (by decide +kernel) rfl hi_111 σ_110_e ?_
              refine z_bipush (M := M_X12_judgeParts) dX12_judgeParts_169 (by decide +kernel) ?_
              have H := congrArg some (hk_79 _ ((K_83 _ (Option.some.inj H).symm).symm))
              have H := congrArg some (hk_69 _ ((K_73 _ (Option.some.inj H).symm).symm))
              cases H
              exact z_iret (M := M_X12_judgeParts) dX12_judgeParts_171 rfl (Nat.le_of_ble_eq_true rfl) (Nat.le_of_ble_eq_true rfl) ⟨rfl, rfl⟩
            · refine z_zne_f (M := M_X12_judgeParts) (tgt := 155) dX12_judgeParts_149 (by decide) h_107 ?_
              refine z_goto (M := M_X12_judgeParts) (tgt := 172) dX12_judgeParts_152 (by decide) ?_
              refine z_iinc (M := M_X12_judgeParts) (lv' := [some (vr 277), some (vi p_65), some (vi (q_75 + 1)), none]) dX12_judgeParts_172 rfl (Nat.le_of_ble_eq_true rfl) rfl rfl ?_
              refine z_goto (M := M_X12_judgeParts) (tgt := 126) dX12_judgeParts_175 (by decide) ?_
              exact K_82 _ (Option.some.inj H).symm
        · refine z_icmp_ge_t (M := M_X12_judgeParts) (tgt := 178) dX12_judgeParts_131 (by decide) rfl rfl (Int.not_lt.mp h_84) ?_
          exact J_117 _ _ (K_83 _ (Option.some.inj H).symm).symm
      · refine z_icmp_ge_t (M := M_X12_judgeParts) (tgt := 184) dX12_judgeParts_119 (by decide) rfl rfl (Int.not_lt.mp h_74) ?_
        exact J_121 _ _ (K_73 _ (Option.some.inj H).symm).symm
    refine whl_go hw_21 (fun (i_19, σ_20) => YY l E M_X12_judgeParts 7 0 0 (pS (some (vi r)) σ') 30 [some (vr 277), some (vi i_19), none, none] [] σ_20 0 0) ?_
    rintro ⟨i_19, σ_20⟩ o_25 H K_26 K_27
    refine z_iload_n (M := M_X12_judgeParts) dX12_judgeParts_30 rfl ?_
    refine z_aload_n (M := M_X12_judgeParts) dX12_judgeParts_31 rfl ?_
    refine z_getI (M := M_X12_judgeParts) (ci := 15) (C := RX12) (T := TX12) (Nf := 135) (ty := tyX12) cl15 dX12_judgeParts_32 ly_277 48 (by decide) t_2439 rfl rfl ?_
    rcases if_e H with ⟨h_28, H⟩ | ⟨h_28, H⟩
    · refine z_icmp_ge_f (M := M_X12_judgeParts) (tgt := 112) dX12_judgeParts_35 (by decide) rfl rfl h_28 ?_
      refine z_iload_n (M := M_X12_judgeParts) dX12_judgeParts_38 rfl ?_
      refine z_iconst (M := M_X12_judgeParts) dX12_judgeParts_39 ?_
      refine z_iadd (M := M_X12_judgeParts) dX12_judgeParts_40 ?_
      refine z_istore_n (M := M_X12_judgeParts) (lv' := [some (vr 277), some (vi i_19), some (vi (i_19 + 1)), none]) dX12_judgeParts_41 (Nat.le_of_ble_eq_true rfl) rfl rfl ?_
      obtain ⟨rl_34, hw_31, hk_32, hk_33⟩ := bx_e H
      have J_61 : ∀ j_58 σ_59, rl_34 = (.inl (j_58, σ_59)) → YY l E M_X12_judgeParts 7 0 0 (pS (some (vi r)) σ') 106 [some (vr 277), some (vi i_19), some (vi j_58), none] [] σ_59 0 0 := by
        intro j_58 σ_59 e
        have H := hk_32 _ e
        refine z_iinc (M := M_X12_judgeParts) (lv' := [some (vr 277), some (vi (i_19 + 1)), some (vi j_58), none]) dX12_judgeParts_106 rfl (Nat.le_of_ble_eq_true rfl) rfl rfl ?_
        refine z_goto (M := M_X12_judgeParts) (tgt := 30) dX12_judgeParts_109 (by decide) ?_
        refine z_le (lv' := [some (vr 277), some (vi (i_19 + 1)), none, none]) ⟨Or.inr rfl, Or.inr rfl, Or.inl rfl, Or.inl rfl, trivial⟩ ?_
        exact K_26 _ (Option.some.inj H).symm
      refine whl_go hw_31 (fun (j_29, σ_30) => YY l E M_X12_judgeParts 7 0 0 (pS (some (vi r)) σ') 42 [some (vr 277), some (vi i_19), some (vi j_29), none] [] σ_30 0 0) ?_
      rintro ⟨j_29, σ_30⟩ o_35 H K_36 K_37
      refine z_iload_n (M := M_X12_judgeParts) dX12_judgeParts_42 rfl ?_
      refine z_aload_n (M := M_X12_judgeParts) dX12_judgeParts_43 rfl ?_
      refine z_getI (M := M_X12_judgeParts) (ci := 15) (C := RX12) (T := TX12) (Nf := 135) (ty := tyX12) cl15 dX12_judgeParts_44 ly_277 48 (by decide) t_2439 rfl rfl ?_
      rcases if_e H with ⟨h_38, H⟩ | ⟨h_38, H⟩
      · refine z_icmp_ge_f (M := M_X12_judgeParts) (tgt := 106) dX12_judgeParts_47 (by decide) rfl rfl h_38 ?_
        refine z_aload_n (M := M_X12_judgeParts) dX12_judgeParts_50 rfl ?_
        refine z_getR (M := M_X12_judgeParts) (ci := 15) (C := RX12) (T := TX12) (Nf := 135) (ty := tyX12) cl15 dX12_judgeParts_51 ly_277 54 (by decide) t_2445 rfl ?_
        refine z_aload_n (M := M_X12_judgeParts) dX12_judgeParts_54 rfl ?_
        refine z_getR (M := M_X12_judgeParts) (ci := 15) (C := RX12) (T := TX12) (Nf := 135) (ty := tyX12) cl15 dX12_judgeParts_55 ly_277 45 (by decide) t_2436 rfl ?_
        refine z_iload_n (M := M_X12_judgeParts) dX12_judgeParts_58 rfl ?_
        obtain ⟨x_39, x_39_e, hi_40, H⟩ := rd_e H
        refine z_iald (M := M_X12_judgeParts) dX12_judgeParts_59 ly_303 rfl rfl rfl hi_40 x_39_e ?_
        obtain ⟨x_41, x_41_e, hi_42, H⟩ := rd_e H
        refine z_iald (M := M_X12_judgeParts) dX12_judgeParts_60 ly_308 rfl rfl rfl hi_42 x_41_e ?_
        refine z_aload_n (M := M_X12_judgeParts) dX12_judgeParts_61 rfl ?_
        refine z_getR (M := M_X12_judgeParts) (ci := 15) (C := RX12) (T := TX12) (Nf := 135) (ty := tyX12) cl15 dX12_judgeParts_62 ly_277 54 (by decide) t_2445 rfl ?_
        refine z_aload_n (M := M_X12_judgeParts) dX12_judgeParts_65 rfl ?_
        refine z_getR (M := M_X12_judgeParts) (ci := 15) (C := RX12) (T := TX12) (Nf := 135) (ty := tyX12) cl15 dX12_judgeParts_66 ly_277 45 (by decide) t_2436 rfl ?_
        refine z_iload_n (M := M_X12_judgeParts) dX12_judgeParts_69 rfl ?_
        obtain ⟨x_43, x_43_e, hi_44, H⟩ := rd_e H
        refine z_iald (M := M_X12_judgeParts) dX12_judgeParts_70 ly_303 rfl rfl rfl hi_44 x_43_e ?_
        obtain ⟨x_45, x_45_e, hi_46, H⟩ := rd_e H
        refine z_iald (M := M_X12_judgeParts) dX12_judgeParts_71 ly_308 rfl rfl rfl hi_46 x_45_e ?_
        rcases if_e H with ⟨h_47, H⟩ | ⟨h_47, H⟩
        · refine z_icmp_ne_f (M := M_X12_judgeParts) (tgt := 78) dX12_judgeParts_72 (by decide) rfl rfl h_47 ?_
          refine z_goto (M := M_X12_judgeParts) (tgt := 100) dX12_judgeParts_75 (by decide) ?_
          refine z_iinc (M := M_X12_judgeParts) (lv' := [some (vr 277), some (vi i_19), some (vi (j_29 + 1)), none]) dX12_judgeParts_100 rfl (Nat.le_of_ble_eq_true rfl) rfl rfl ?_
          refine z_goto (M := M_X12_judgeParts) (tgt := 42) dX12_judgeParts_103 (by decide) ?_
          exact K_36 _ (Option.some.inj H).symm
        · refine z_icmp_ne_t (M := M_X12_judgeParts) (tgt := 78) dX12_judgeParts_72 (by decide) rfl rfl h_47 ?_
          refine z_aload_n (M := M_X12_judgeParts) dX12_judgeParts_78 rfl ?_
          refine z_iload_n (M := M_X12_judgeParts) dX12_judgeParts_79 rfl ?_
          refine z_iload_n (M := M_X12_judgeParts) dX12_judgeParts_80 rfl ?_
          obtain ⟨⟨x_51, σ_50⟩, hc_49, H⟩ := bd_e H
          refine z_callV (M := M_X12_judgeParts) (M' := M_X12_wrongPair) (as := [vi i_19, vi j_29]) (rest := []) rfl rfl dX12_judgeParts_81 m_X12_wrongPair t_3254 t_3256 s_232 (c_X12_wrongPair hl  hc_49) rfl rfl ly_277 rfl (Nat.le_of_ble_eq_true rfl) (Nat.le_of_ble_eq_true rfl) (Nat.le_of_ble_eq_true rfl) (Nat.le_of_ble_eq_true rfl) ?_
          refine z_st (st' := [vi x_51]) rfl ?_
          refine z_istore_n (M := M_X12_judgeParts) (lv' := [some (vr 277), some (vi i_19), some (vi j_29), some (vi x_51)]) dX12_judgeParts_84 (Nat.le_of_ble_eq_true rfl) rfl rfl ?_
          refine z_iload_n (M := M_X12_judgeParts) dX12_judgeParts_85 rfl ?_
          rcases if_e H with ⟨h_52, H⟩ | ⟨h_52, H⟩
          · refine z_if_le_f (M := M_X12_judgeParts) (tgt := 100) dX12_judgeParts_86 (by decide) rfl h_52 ?_
            refine z_aload_n (M := M_X12_judgeParts) dX12_judgeParts_89 rfl ?_
            refine z_iload_n (M := M_X12_judgeParts) dX12_judgeParts_90 rfl ?_
            refine z_bipush (M := M_X12_judgeParts) dX12_judgeParts_91 (by decide +kernel) ?_
            refine z_iadd (M := M_X12_judgeParts) dX12_judgeParts_93 ?_
            refine z_iload_n (M := M_X12_judgeParts) dX12_judgeParts_94 rfl ?_
            refine z_iload_n (M := M_X12_judgeParts) dX12_judgeParts_95 rfl ?_
            obtain ⟨⟨x_55, σ_54⟩, hc_53, H⟩ := bd_e H
            refine z_callV (M := M_X12_judgeParts) (M' := M_X12_tellPair) (as := [vi (x_51 + 6), vi i_19, vi j_29]) (rest := []) rfl rfl dX12_judgeParts_96 m_X12_tellPair t_3297 t_3299 s_239 (c_X12_tellPair hl  hc_53) rfl rfl ly_277 rfl (Nat.le_of_ble_eq_true rfl) (Nat.le_of_ble_eq_true rfl) (Nat.le_of_ble_eq_true rfl) (Nat.le_of_ble_eq_true rfl) ?_
            refine z_st (st' := [vi x_55]) rfl ?_
            have H := congrArg some (hk_33 _ ((K_37 _ (Option.some.inj H).symm).symm))
            have H := congrArg some (hk_23 _ ((K_27 _ (Option.some.inj H).symm).symm))
            cases H
            exact z_iret (M := M_X12_judgeParts) dX12_judgeParts_99 rfl (Nat.le_of_ble_eq_true rfl) (Nat.le_of_ble_eq_true rfl) ⟨rfl, rfl⟩
          · refine z_if_le_t (M := M_X12_judgeParts) (tgt := 100) dX12_judgeParts_86 (by decide) rfl (Int.not_lt.mp h_52) ?_
            refine z_iinc (M := M_X12_judgeParts) (lv' := [some (vr 277), some (vi i_19), some (vi (j_29 + 1)), some (vi x_51)]) dX12_judgeParts_100 rfl (Nat.le_of_ble_eq_true rfl) rfl rfl ?_
            refine z_goto (M := M_X12_judgeParts) (tgt := 42) dX12_judgeParts_103 (by decide) ?_
            refine z_le (lv' := [some (vr 277), some (vi i_19), some (vi (j_29 + 1)), none]) ⟨Or.inr rfl, Or.inr rfl, Or.inr rfl, Or.inl rfl, trivial⟩ ?_
            exact K_36 _ (Option.some.inj H).symm
      · refine z_icmp_ge_t (M := M_X12_judgeParts) (tgt := 106) dX12_judgeParts_47 (by decide) rfl rfl (Int.not_lt.mp h_38) ?_
        exact J_61 _ _ (K_37 _ (Option.some.inj H).symm).symm
    · refine z_icmp_ge_t (M := M_X12_judgeParts) (tgt := 112) dX12_judgeParts_35 (by decide) rfl rfl (Int.not_lt.mp h_28) ?_
      exact J_122 _ _ (K_27 _ (Option.some.inj H).symm).symm
  refine whl_go hw_3 (fun (p_1, σ_2) => YY l E M_X12_judgeParts 7 0 0 (pS (some (vi r)) σ') 2 [some (vr 277), some (vi p_1), none, none] [] σ_2 0 0) ?_
  rintro ⟨p_1, σ_2⟩ o_7 H K_8 K_9
  refine z_iload_n (M := M_X12_judgeParts) dX12_judgeParts_2 rfl ?_
  refine z_aload_n (M := M_X12_judgeParts) dX12_judgeParts_3 rfl ?_
  refine z_getI (M := M_X12_judgeParts) (ci := 15) (C := RX12) (T := TX12) (Nf := 135) (ty := tyX12) cl15 dX12_judgeParts_4 ly_277 59 (by decide) t_2450 rfl rfl ?_
  rcases if_e H with ⟨h_10, H⟩ | ⟨h_10, H⟩
  · refine z_icmp_ge_f (M := M_X12_judgeParts) (tgt := 28) dX12_judgeParts_7 (by decide) rfl rfl h_10 ?_
    refine z_aload_n (M := M_X12_judgeParts) dX12_judgeParts_10 rfl ?_
    refine z_iload_n (M := M_X12_judgeParts) dX12_judgeParts_11 rfl ?_
    obtain ⟨⟨x_13, σ_12⟩, hc_11, H⟩ := bd_e H
    refine z_callV (M := M_X12_judgeParts) (M' := M_X12_judgePart) (as := [vi p_1]) (rest := []) rfl rfl dX12_judgeParts_12 m_X12_judgePart t_3246 t_3248 s_230 (c_X12_judgePart hl  hc_11) rfl rfl ly_277 rfl (Nat.le_of_ble_eq_true rfl) (Nat.le_of_ble_eq_true rfl) (Nat.le_of_ble_eq_true rfl) (Nat.le_of_ble_eq_true rfl) ?_
    refine z_st (st' := [vi x_13]) rfl ?_
    refine z_istore_n (M := M_X12_judgeParts) (lv' := [some (vr 277), some (vi p_1), some (vi x_13), none]) dX12_judgeParts_15 (Nat.le_of_ble_eq_true rfl) rfl rfl ?_
    refine z_iload_n (M := M_X12_judgeParts) dX12_judgeParts_16 rfl ?_
    rcases if_e H with ⟨h_14, H⟩ | ⟨h_14, H⟩
    · refine z_if_le_f (M := M_X12_judgeParts) (tgt := 22) dX12_judgeParts_17 (by decide) rfl h_14 ?_
      refine z_iload_n (M := M_X12_judgeParts) dX12_judgeParts_20 rfl ?_
      have H := congrArg some (hk_5 _ ((K_9 _ (Option.some.inj H).symm).symm))
      cases H
      exact z_iret (M := M_X12_judgeParts) dX12_judgeParts_21 rfl (Nat.le_of_ble_eq_true rfl) (Nat.le_of_ble_eq_true rfl) ⟨rfl, rfl⟩
    · refine z_if_le_t (M := M_X12_judgeParts) (tgt := 22) dX12_judgeParts_17 (by decide) rfl (Int.not_lt.mp h_14) ?_
      refine z_iinc (M := M_X12_judgeParts) (lv' := [some (vr 277), some (vi (p_1 + 1)), some (vi x_13), none]) dX12_judgeParts_22 rfl (Nat.le_of_ble_eq_true rfl) rfl rfl ?_
      refine z_goto (M := M_X12_judgeParts) (tgt := 2) dX12_judgeParts_25 (by decide) ?_
      refine z_le (lv' := [some (vr 277), some (vi (p_1 + 1)), none, none]) ⟨Or.inr rfl, Or.inr rfl, Or.inl rfl, Or.inl rfl, trivial⟩ ?_
      exact K_8 _ (Option.some.inj H).symm
  · refine z_icmp_ge_t (M := M_X12_judgeParts) (tgt := 28) dX12_judgeParts_7 (by decide) rfl rfl (Int.not_lt.mp h_10) ?_
    exact J_123 _ _ (K_9 _ (Option.some.inj H).symm).symm
end LFAV
