section LFAF
variable {l : Launch} {E : EE}
theorem c_X5_touchAtEnd (hl : l.stackTraces = false) {σ : SG} {this_0 : Nat} {i_0 : Int} {atBegin_0 : Bool} {r : Int} {σ' : SG} (h_this : isG this_0) (H : fE_touchAtEnd σ this_0 i_0 atBegin_0 = some (r, σ')) : en_S l E M_X5_touchAtEnd 1 0 0 [vr this_0, vi i_0, zv atBegin_0] σ (pS (some (vi r)) σ') := by
  unfold fE_touchAtEnd at H
  refine z_mk (lv := [some (vr this_0), some (vi i_0), some (zv atBegin_0)]) m_X5_touchAtEnd rfl hl (Nat.le_of_ble_eq_true rfl) rfl ?_
  refine z_aload_n (M := M_X5_touchAtEnd) dX5_touchAtEnd_0 rfl ?_
  obtain ⟨v_31, he_32, hk_33⟩ := bd_e H
  have J_34 : ∀ x_12, v_31 = x_12 → YY l E M_X5_touchAtEnd 1 0 0 (pS (some (vi r)) σ') 20 [some (vr this_0), some (vi i_0), some (zv atBegin_0)] [vi x_12, vr this_0] σ 0 0 := by
    intro x_12 e
    have H := hk_33
    rw [e] at H
    obtain ⟨σ_13, σ_13_e, H⟩ := wf_e H
    refine z_putI (M := M_X5_touchAtEnd) (ci := 8) (C := RX5) (T := TX5) (Nf := 8) (ty := tyX5) cl8 dX5_touchAtEnd_20 (ly_G h_this) 6 (by decide) t_259 rfl rfl rfl rfl σ_13_e ?_
    refine z_aload_n (M := M_X5_touchAtEnd) dX5_touchAtEnd_23 rfl ?_
    obtain ⟨v_27, he_28, hk_29⟩ := bd_e H
    have J_30 : ∀ x_25, v_27 = x_25 → YY l E M_X5_touchAtEnd 1 0 0 (pS (some (vi r)) σ') 43 [some (vr this_0), some (vi i_0), some (zv atBegin_0)] [vi x_25, vr this_0] σ_13 0 0 := by
      intro x_25 e
      have H := hk_29
      rw [e] at H
      obtain ⟨σ_26, σ_26_e, H⟩ := wf_e H
      refine z_putI (M := M_X5_touchAtEnd) (ci := 8) (C := RX5) (T := TX5) (Nf := 8) (ty := tyX5) cl8 dX5_touchAtEnd_43 (ly_G h_this) 7 (by decide) t_262 rfl rfl rfl rfl σ_26_e ?_
      refine z_iconst (M := M_X5_touchAtEnd) dX5_touchAtEnd_46 ?_
      cases H
      exact z_iret (M := M_X5_touchAtEnd) dX5_touchAtEnd_47 rfl (Nat.le_of_ble_eq_true rfl) (Nat.le_of_ble_eq_true rfl) ⟨rfl, rfl⟩
    have H := he_28
    refine z_zload_n (M := M_X5_touchAtEnd) dX5_touchAtEnd_24 rfl ?_
    rcases if_e H with ⟨h_18, H⟩ | ⟨h_18, H⟩
    · refine z_zeq_f (M := M_X5_touchAtEnd) (tgt := 37) dX5_touchAtEnd_25 (by decide) h_18 ?_
      refine z_aload_n (M := M_X5_touchAtEnd) dX5_touchAtEnd_28 rfl ?_
      refine z_getR (M := M_X5_touchAtEnd) (ci := 8) (C := RX5) (T := TX5) (Nf := 8) (ty := tyX5) cl8 dX5_touchAtEnd_29 (ly_G h_this) 1 (by decide) t_238 rfl ?_
      refine z_iload_n (M := M_X5_touchAtEnd) dX5_touchAtEnd_32 rfl ?_
      obtain ⟨x_19, x_19_e, hi_20, H⟩ := rd_e H
      refine z_iald (M := M_X5_touchAtEnd) dX5_touchAtEnd_33 (ly_Gi (k := 2) h_this (by decide) (by decide)) rfl rfl rfl hi_20 x_19_e ?_
      refine z_goto (M := M_X5_touchAtEnd) (tgt := 43) dX5_touchAtEnd_34 (by decide) ?_
      exact J_30 _ (Option.some.inj H).symm
    · refine z_zeq_t (M := M_X5_touchAtEnd) (tgt := 37) dX5_touchAtEnd_25 (by decide) h_18 ?_
      refine z_aload_n (M := M_X5_touchAtEnd) dX5_touchAtEnd_37 rfl ?_
      refine z_getR (M := M_X5_touchAtEnd) (ci := 8) (C := RX5) (T := TX5) (Nf := 8) (ty := tyX5) cl8 dX5_touchAtEnd_38 (ly_G h_this) 3 (by decide) t_246 rfl ?_
      refine z_iload_n (M := M_X5_touchAtEnd) dX5_touchAtEnd_41 rfl ?_
      obtain ⟨x_22, x_22_e, hi_23, H⟩ := rd_e H
      refine z_iald (M := M_X5_touchAtEnd) dX5_touchAtEnd_42 (ly_Gi (k := 4) h_this (by decide) (by decide)) rfl rfl rfl hi_23 x_22_e ?_
      exact J_30 _ (Option.some.inj H).symm
  have H := he_32
  refine z_zload_n (M := M_X5_touchAtEnd) dX5_touchAtEnd_1 rfl ?_
  rcases if_e H with ⟨h_5, H⟩ | ⟨h_5, H⟩
  · refine z_zeq_f (M := M_X5_touchAtEnd) (tgt := 14) dX5_touchAtEnd_2 (by decide) h_5 ?_
    refine z_aload_n (M := M_X5_touchAtEnd) dX5_touchAtEnd_5 rfl ?_
    refine z_getR (M := M_X5_touchAtEnd) (ci := 8) (C := RX5) (T := TX5) (Nf := 8) (ty := tyX5) cl8 dX5_touchAtEnd_6 (ly_G h_this) 0 (by decide) t_234 rfl ?_
    refine z_iload_n (M := M_X5_touchAtEnd) dX5_touchAtEnd_9 rfl ?_
    obtain ⟨x_6, x_6_e, hi_7, H⟩ := rd_e H
    refine z_iald (M := M_X5_touchAtEnd) dX5_touchAtEnd_10 (ly_Gi (k := 1) h_this (by decide) (by decide)) rfl rfl rfl hi_7 x_6_e ?_
    refine z_goto (M := M_X5_touchAtEnd) (tgt := 20) dX5_touchAtEnd_11 (by decide) ?_
    exact J_34 _ (Option.some.inj H).symm
  · refine z_zeq_t (M := M_X5_touchAtEnd) (tgt := 14) dX5_touchAtEnd_2 (by decide) h_5 ?_
    refine z_aload_n (M := M_X5_touchAtEnd) dX5_touchAtEnd_14 rfl ?_
    refine z_getR (M := M_X5_touchAtEnd) (ci := 8) (C := RX5) (T := TX5) (Nf := 8) (ty := tyX5) cl8 dX5_touchAtEnd_15 (ly_G h_this) 2 (by decide) t_242 rfl ?_
    refine z_iload_n (M := M_X5_touchAtEnd) dX5_touchAtEnd_18 rfl ?_
    obtain ⟨x_9, x_9_e, hi_10, H⟩ := rd_e H
    refine z_iald (M := M_X5_touchAtEnd) dX5_touchAtEnd_19 (ly_Gi (k := 3) h_this (by decide) (by decide)) rfl rfl rfl hi_10 x_9_e ?_
    exact J_34 _ (Option.some.inj H).symm
theorem c_X5_meetOnOneLine (hl : l.stackTraces = false) {σ : SG} {this_0 : Nat} {i_0 : Int} {j_0 : Int} {r : Int} {σ' : SG} (h_this : isG this_0) (H : fE_meetOnOneLine σ this_0 i_0 j_0 = some (r, σ')) : en_S l E M_X5_meetOnOneLine 2 0 0 [vr this_0, vi i_0, vi j_0] σ (pS (some (vi r)) σ') := by
  unfold fE_meetOnOneLine at H
  refine z_mk (lv := [some (vr this_0), some (vi i_0), some (vi j_0), none, none, none]) m_X5_meetOnOneLine rfl hl (Nat.le_of_ble_eq_true rfl) rfl ?_
  obtain ⟨v_121, he_122, hk_123⟩ := bd_e H
  have J_124 : ∀ x_8, v_121 = x_8 → YY l E M_X5_meetOnOneLine 2 0 0 (pS (some (vi r)) σ') 20 [some (vr this_0), some (vi i_0), some (vi j_0), none, none, none] [zv x_8] σ 0 0 := by
    intro x_8 e
    have H := hk_123
    rw [e] at H
    refine z_zstore_n (M := M_X5_meetOnOneLine) (lv' := [some (vr this_0), some (vi i_0), some (vi j_0), some (zv x_8), none, none]) dX5_meetOnOneLine_20 (Nat.le_of_ble_eq_true rfl) rfl rfl ?_
    obtain ⟨v_117, he_118, hk_119⟩ := bd_e H
    have J_120 : ∀ x_28, v_117 = x_28 → YY l E M_X5_meetOnOneLine 2 0 0 (pS (some (vi r)) σ') 54 [some (vr this_0), some (vi i_0), some (vi j_0), some (zv x_8), none, none] [vi x_28] σ 0 0 := by
      intro x_28 e
      have H := hk_119
      rw [e] at H
      refine z_istore (M := M_X5_meetOnOneLine) (lv' := [some (vr this_0), some (vi i_0), some (vi j_0), some (zv x_8), some (vi x_28), none]) dX5_meetOnOneLine_54 (Nat.le_of_ble_eq_true rfl) rfl rfl ?_
      obtain ⟨v_113, he_114, hk_115⟩ := bd_e H
      have J_116 : ∀ x_48, v_113 = x_48 → YY l E M_X5_meetOnOneLine 2 0 0 (pS (some (vi r)) σ') 89 [some (vr this_0), some (vi i_0), some (vi j_0), some (zv x_8), some (vi x_28), none] [vi x_48] σ 0 0 := by
        intro x_48 e
        have H := hk_115
        rw [e] at H
        refine z_istore (M := M_X5_meetOnOneLine) (lv' := [some (vr this_0), some (vi i_0), some (vi j_0), some (zv x_8), some (vi x_28), some (vi x_48)]) dX5_meetOnOneLine_89 (Nat.le_of_ble_eq_true rfl) rfl rfl ?_
        refine z_iload (M := M_X5_meetOnOneLine) dX5_meetOnOneLine_91 rfl ?_
        refine z_iload (M := M_X5_meetOnOneLine) dX5_meetOnOneLine_93 rfl ?_
        rcases if_e H with ⟨h_49, H⟩ | ⟨h_49, H⟩
        · refine z_icmp_le_f (M := M_X5_meetOnOneLine) (tgt := 100) dX5_meetOnOneLine_95 (by decide) rfl rfl h_49 ?_
          refine z_iconst (M := M_X5_meetOnOneLine) dX5_meetOnOneLine_98 ?_
          cases H
          exact z_iret (M := M_X5_meetOnOneLine) dX5_meetOnOneLine_99 rfl (Nat.le_of_ble_eq_true rfl) (Nat.le_of_ble_eq_true rfl) ⟨rfl, rfl⟩
        · refine z_icmp_le_t (M := M_X5_meetOnOneLine) (tgt := 100) dX5_meetOnOneLine_95 (by decide) rfl rfl (Int.not_lt.mp h_49) ?_
          obtain ⟨v_109, he_110, hk_111⟩ := bd_e H
          have J_112 : ∀ x_107 σ_108, v_109 = (x_107, σ_108) → YY l E M_X5_meetOnOneLine 2 0 0 (pS (some (vi r)) σ') 145 [some (vr this_0), some (vi i_0), some (vi j_0), some (zv x_8), some (vi x_28), some (vi x_48)] [vi x_107] σ_108 0 0 := by
            intro x_107 σ_108 e
            have H := hk_111
            rw [e] at H
            cases H
            exact z_iret (M := M_X5_meetOnOneLine) dX5_meetOnOneLine_145 rfl (Nat.le_of_ble_eq_true rfl) (Nat.le_of_ble_eq_true rfl) ⟨rfl, rfl⟩
          have H := he_110
          refine z_iload (M := M_X5_meetOnOneLine) dX5_meetOnOneLine_100 rfl ?_
          refine z_iload (M := M_X5_meetOnOneLine) dX5_meetOnOneLine_102 rfl ?_
          rcases if_e H with ⟨h_77, H⟩ | ⟨h_77, H⟩
          · refine z_icmp_ge_f (M := M_X5_meetOnOneLine) (tgt := 111) dX5_meetOnOneLine_104 (by decide) rfl rfl h_77 ?_
            refine z_iconst (M := M_X5_meetOnOneLine) dX5_meetOnOneLine_107 ?_
            refine z_goto (M := M_X5_meetOnOneLine) (tgt := 145) dX5_meetOnOneLine_108 (by decide) ?_
            exact J_112 _ _ (Option.some.inj H).symm
          · refine z_icmp_ge_t (M := M_X5_meetOnOneLine) (tgt := 111) dX5_meetOnOneLine_104 (by decide) rfl rfl (Int.not_lt.mp h_77) ?_
            refine z_aload_n (M := M_X5_meetOnOneLine) dX5_meetOnOneLine_111 rfl ?_
            refine z_iload_n (M := M_X5_meetOnOneLine) dX5_meetOnOneLine_112 rfl ?_
            obtain ⟨v_103, he_104, hk_105⟩ := bd_e H
            have J_106 : ∀ x_98, v_103 = x_98 → YY l E M_X5_meetOnOneLine 2 0 0 (pS (some (vi r)) σ') 142 [some (vr this_0), some (vi i_0), some (vi j_0), some (zv x_8), some (vi x_28), some (vi x_48)] [zv x_98, vi i_0, vr this_0] σ 0 0 := by
              intro x_98 e
              have H := hk_105
              rw [e] at H
              obtain ⟨⟨x_101, σ_100⟩, hc_99, H⟩ := bd_e H
              refine z_callV (M := M_X5_meetOnOneLine) (M' := M_X5_touchAtEnd) (as := [vi i_0, zv x_98]) (rest := []) rfl rfl dX5_meetOnOneLine_142 m_X5_touchAtEnd t_1274 t_1276 s_51 (c_X5_touchAtEnd hl h_this hc_99) rfl rfl (ly_G h_this) rfl (Nat.le_of_ble_eq_true rfl) (Nat.le_of_ble_eq_true rfl) (Nat.le_of_ble_eq_true rfl) (Nat.le_of_ble_eq_true rfl) ?_
              refine z_st (st' := [vi x_101]) rfl ?_
              exact J_112 _ _ (Option.some.inj H).symm
            have H := he_104
            obtain ⟨v_94, he_95, hk_96⟩ := bd_e H
            have J_97 : ∀ x_90, v_94 = x_90 → YY l E M_X5_meetOnOneLine 2 0 0 (pS (some (vi r)) σ') 132 [some (vr this_0), some (vi i_0), some (vi j_0), some (zv x_8), some (vi x_28), some (vi x_48)] [vi x_90, vi i_0, vr this_0] σ 0 0 := by
              intro x_90 e
              have H := hk_96
              rw [e] at H
              refine z_iload (M := M_X5_meetOnOneLine) dX5_meetOnOneLine_132 rfl ?_
              rcases if_e H with ⟨h_91, H⟩ | ⟨h_91, H⟩
              · refine z_icmp_ne_f (M := M_X5_meetOnOneLine) (tgt := 141) dX5_meetOnOneLine_134 (by decide) rfl rfl h_91 ?_
                refine z_zconst (M := M_X5_meetOnOneLine) (b := true) dX5_meetOnOneLine_137 rfl ?_
                refine z_goto (M := M_X5_meetOnOneLine) (tgt := 142) dX5_meetOnOneLine_138 (by decide) ?_
                exact J_106 _ (Option.some.inj H).symm
              · refine z_icmp_ne_t (M := M_X5_meetOnOneLine) (tgt := 141) dX5_meetOnOneLine_134 (by decide) rfl rfl h_91 ?_
                refine z_zconst (M := M_X5_meetOnOneLine) (b := false) dX5_meetOnOneLine_141 rfl ?_
                exact J_106 _ (Option.some.inj H).symm
            have H := he_95
            refine z_zload_n (M := M_X5_meetOnOneLine) dX5_meetOnOneLine_113 rfl ?_
            rcases if_e H with ⟨h_83, H⟩ | ⟨h_83, H⟩
            · refine z_zeq_f (M := M_X5_meetOnOneLine) (tgt := 126) dX5_meetOnOneLine_114 (by decide) h_83 ?_
              refine z_aload_n (M := M_X5_meetOnOneLine) dX5_meetOnOneLine_117 rfl ?_
              refine z_getR (M := M_X5_meetOnOneLine) (ci := 8) (C := RX5) (T := TX5) (Nf := 8) (ty := tyX5) cl8 dX5_meetOnOneLine_118 (ly_G h_this) 1 (by decide) t_238 rfl ?_
              refine z_iload_n (M := M_X5_meetOnOneLine) dX5_meetOnOneLine_121 rfl ?_
              obtain ⟨x_84, x_84_e, hi_85, H⟩ := rd_e H
              refine z_iald (M := M_X5_meetOnOneLine) dX5_meetOnOneLine_122 (ly_Gi (k := 2) h_this (by decide) (by decide)) rfl rfl rfl hi_85 x_84_e ?_
              refine z_goto (M := M_X5_meetOnOneLine) (tgt := 132) dX5_meetOnOneLine_123 (by decide) ?_
              exact J_97 _ (Option.some.inj H).symm
            · refine z_zeq_t (M := M_X5_meetOnOneLine) (tgt := 126) dX5_meetOnOneLine_114 (by decide) h_83 ?_
              refine z_aload_n (M := M_X5_meetOnOneLine) dX5_meetOnOneLine_126 rfl ?_
              refine z_getR (M := M_X5_meetOnOneLine) (ci := 8) (C := RX5) (T := TX5) (Nf := 8) (ty := tyX5) cl8 dX5_meetOnOneLine_127 (ly_G h_this) 0 (by decide) t_234 rfl ?_
              refine z_iload_n (M := M_X5_meetOnOneLine) dX5_meetOnOneLine_130 rfl ?_
              obtain ⟨x_87, x_87_e, hi_88, H⟩ := rd_e H
              refine z_iald (M := M_X5_meetOnOneLine) dX5_meetOnOneLine_131 (ly_Gi (k := 1) h_this (by decide) (by decide)) rfl rfl rfl hi_88 x_87_e ?_
              exact J_97 _ (Option.some.inj H).symm
      have H := he_114
      refine z_zload_n (M := M_X5_meetOnOneLine) dX5_meetOnOneLine_56 rfl ?_
      rcases if_e H with ⟨h_37, H⟩ | ⟨h_37, H⟩
      · refine z_zeq_f (M := M_X5_meetOnOneLine) (tgt := 76) dX5_meetOnOneLine_57 (by decide) h_37 ?_
        refine z_aload_n (M := M_X5_meetOnOneLine) dX5_meetOnOneLine_60 rfl ?_
        refine z_iload_n (M := M_X5_meetOnOneLine) dX5_meetOnOneLine_61 rfl ?_
        obtain ⟨x_39, hc_38, H⟩ := bd_e H
        refine z_callV (M := M_X5_meetOnOneLine) (M' := M_X5_highY) (as := [vi i_0]) (rest := []) rfl rfl dX5_meetOnOneLine_62 m_X5_highY t_1247 t_1248 t_1249 (c_X5_highY hl h_this hc_38) rfl rfl (ly_G h_this) rfl (Nat.le_of_ble_eq_true rfl) (Nat.le_of_ble_eq_true rfl) (Nat.le_of_ble_eq_true rfl) (Nat.le_of_ble_eq_true rfl) ?_
        refine z_st (st' := [vi x_39]) rfl ?_
        refine z_aload_n (M := M_X5_meetOnOneLine) dX5_meetOnOneLine_65 rfl ?_
        refine z_iload_n (M := M_X5_meetOnOneLine) dX5_meetOnOneLine_66 rfl ?_
        obtain ⟨x_41, hc_40, H⟩ := bd_e H
        refine z_callV (M := M_X5_meetOnOneLine) (M' := M_X5_highY) (as := [vi j_0]) (rest := [vi x_39]) rfl rfl dX5_meetOnOneLine_67 m_X5_highY t_1247 t_1248 t_1249 (c_X5_highY hl h_this hc_40) rfl rfl (ly_G h_this) rfl (Nat.le_of_ble_eq_true rfl) (Nat.le_of_ble_eq_true rfl) (Nat.le_of_ble_eq_true rfl) (Nat.le_of_ble_eq_true rfl) ?_
        refine z_st (st' := [vi x_41, vi x_39]) rfl ?_
        refine z_mmin (M := M_X5_meetOnOneLine) dX5_meetOnOneLine_70 t_1237 t_626 t_20 t_627 (Nat.le_of_ble_eq_true rfl) (Nat.le_of_ble_eq_true rfl) (Nat.le_of_ble_eq_true rfl) (Nat.le_of_ble_eq_true rfl) ?_
        refine z_goto (M := M_X5_meetOnOneLine) (tgt := 89) dX5_meetOnOneLine_73 (by decide) ?_
        exact J_116 _ (Option.some.inj H).symm
      · refine z_zeq_t (M := M_X5_meetOnOneLine) (tgt := 76) dX5_meetOnOneLine_57 (by decide) h_37 ?_
        refine z_aload_n (M := M_X5_meetOnOneLine) dX5_meetOnOneLine_76 rfl ?_
        refine z_iload_n (M := M_X5_meetOnOneLine) dX5_meetOnOneLine_77 rfl ?_
        obtain ⟨x_44, hc_43, H⟩ := bd_e H
        refine z_callV (M := M_X5_meetOnOneLine) (M' := M_X5_highX) (as := [vi i_0]) (rest := []) rfl rfl dX5_meetOnOneLine_78 m_X5_highX t_1238 t_1239 t_1240 (c_X5_highX hl h_this hc_43) rfl rfl (ly_G h_this) rfl (Nat.le_of_ble_eq_true rfl) (Nat.le_of_ble_eq_true rfl) (Nat.le_of_ble_eq_true rfl) (Nat.le_of_ble_eq_true rfl) ?_
        refine z_st (st' := [vi x_44]) rfl ?_
        refine z_aload_n (M := M_X5_meetOnOneLine) dX5_meetOnOneLine_81 rfl ?_
        refine z_iload_n (M := M_X5_meetOnOneLine) dX5_meetOnOneLine_82 rfl ?_
        obtain ⟨x_46, hc_45, H⟩ := bd_e H
        refine z_callV (M := M_X5_meetOnOneLine) (M' := M_X5_highX) (as := [vi j_0]) (rest := [vi x_44]) rfl rfl dX5_meetOnOneLine_83 m_X5_highX t_1238 t_1239 t_1240 (c_X5_highX hl h_this hc_45) rfl rfl (ly_G h_this) rfl (Nat.le_of_ble_eq_true rfl) (Nat.le_of_ble_eq_true rfl) (Nat.le_of_ble_eq_true rfl) (Nat.le_of_ble_eq_true rfl) ?_
        refine z_st (st' := [vi x_46, vi x_44]) rfl ?_
        refine z_mmin (M := M_X5_meetOnOneLine) dX5_meetOnOneLine_86 t_1237 t_626 t_20 t_627 (Nat.le_of_ble_eq_true rfl) (Nat.le_of_ble_eq_true rfl) (Nat.le_of_ble_eq_true rfl) (Nat.le_of_ble_eq_true rfl) ?_
        exact J_116 _ (Option.some.inj H).symm
    have H := he_118
    refine z_zload_n (M := M_X5_meetOnOneLine) dX5_meetOnOneLine_21 rfl ?_
    rcases if_e H with ⟨h_17, H⟩ | ⟨h_17, H⟩
    · refine z_zeq_f (M := M_X5_meetOnOneLine) (tgt := 41) dX5_meetOnOneLine_22 (by decide) h_17 ?_
      refine z_aload_n (M := M_X5_meetOnOneLine) dX5_meetOnOneLine_25 rfl ?_
      refine z_iload_n (M := M_X5_meetOnOneLine) dX5_meetOnOneLine_26 rfl ?_
      obtain ⟨x_19, hc_18, H⟩ := bd_e H
      refine z_callV (M := M_X5_meetOnOneLine) (M' := M_X5_lowY) (as := [vi i_0]) (rest := []) rfl rfl dX5_meetOnOneLine_27 m_X5_lowY t_1243 t_1244 t_1245 (c_X5_lowY hl h_this hc_18) rfl rfl (ly_G h_this) rfl (Nat.le_of_ble_eq_true rfl) (Nat.le_of_ble_eq_true rfl) (Nat.le_of_ble_eq_true rfl) (Nat.le_of_ble_eq_true rfl) ?_
      refine z_st (st' := [vi x_19]) rfl ?_
      refine z_aload_n (M := M_X5_meetOnOneLine) dX5_meetOnOneLine_30 rfl ?_
      refine z_iload_n (M := M_X5_meetOnOneLine) dX5_meetOnOneLine_31 rfl ?_
      obtain ⟨x_21, hc_20, H⟩ := bd_e H
      refine z_callV (M := M_X5_meetOnOneLine) (M' := M_X5_lowY) (as := [vi j_0]) (rest := [vi x_19]) rfl rfl dX5_meetOnOneLine_32 m_X5_lowY t_1243 t_1244 t_1245 (c_X5_lowY hl h_this hc_20) rfl rfl (ly_G h_this) rfl (Nat.le_of_ble_eq_true rfl) (Nat.le_of_ble_eq_true rfl) (Nat.le_of_ble_eq_true rfl) (Nat.le_of_ble_eq_true rfl) ?_
      refine z_st (st' := [vi x_21, vi x_19]) rfl ?_
      refine z_mmax (M := M_X5_meetOnOneLine) dX5_meetOnOneLine_35 t_1242 t_1013 t_20 t_1014 (Nat.le_of_ble_eq_true rfl) (Nat.le_of_ble_eq_true rfl) (Nat.le_of_ble_eq_true rfl) (Nat.le_of_ble_eq_true rfl) ?_
      refine z_goto (M := M_X5_meetOnOneLine) (tgt := 54) dX5_meetOnOneLine_38 (by decide) ?_
      exact J_120 _ (Option.some.inj H).symm
    · refine z_zeq_t (M := M_X5_meetOnOneLine) (tgt := 41) dX5_meetOnOneLine_22 (by decide) h_17 ?_
      refine z_aload_n (M := M_X5_meetOnOneLine) dX5_meetOnOneLine_41 rfl ?_
      refine z_iload_n (M := M_X5_meetOnOneLine) dX5_meetOnOneLine_42 rfl ?_
      obtain ⟨x_24, hc_23, H⟩ := bd_e H
      refine z_callV (M := M_X5_meetOnOneLine) (M' := M_X5_lowX) (as := [vi i_0]) (rest := []) rfl rfl dX5_meetOnOneLine_43 m_X5_lowX t_1233 t_1234 t_1235 (c_X5_lowX hl h_this hc_23) rfl rfl (ly_G h_this) rfl (Nat.le_of_ble_eq_true rfl) (Nat.le_of_ble_eq_true rfl) (Nat.le_of_ble_eq_true rfl) (Nat.le_of_ble_eq_true rfl) ?_
      refine z_st (st' := [vi x_24]) rfl ?_
      refine z_aload_n (M := M_X5_meetOnOneLine) dX5_meetOnOneLine_46 rfl ?_
      refine z_iload_n (M := M_X5_meetOnOneLine) dX5_meetOnOneLine_47 rfl ?_
      obtain ⟨x_26, hc_25, H⟩ := bd_e H
      refine z_callV (M := M_X5_meetOnOneLine) (M' := M_X5_lowX) (as := [vi j_0]) (rest := [vi x_24]) rfl rfl dX5_meetOnOneLine_48 m_X5_lowX t_1233 t_1234 t_1235 (c_X5_lowX hl h_this hc_25) rfl rfl (ly_G h_this) rfl (Nat.le_of_ble_eq_true rfl) (Nat.le_of_ble_eq_true rfl) (Nat.le_of_ble_eq_true rfl) (Nat.le_of_ble_eq_true rfl) ?_
      refine z_st (st' := [vi x_26, vi x_24]) rfl ?_
      refine z_mmax (M := M_X5_meetOnOneLine) dX5_meetOnOneLine_51 t_1242 t_1013 t_20 t_1014 (Nat.le_of_ble_eq_true rfl) (Nat.le_of_ble_eq_true rfl) (Nat.le_of_ble_eq_true rfl) (Nat.le_of_ble_eq_true rfl) ?_
      exact J_120 _ (Option.some.inj H).symm
  have H := he_122
  refine z_aload_n (M := M_X5_meetOnOneLine) dX5_meetOnOneLine_0 rfl ?_
  refine z_getR (M := M_X5_meetOnOneLine) (ci := 8) (C := RX5) (T := TX5) (Nf := 8) (ty := tyX5) cl8 dX5_meetOnOneLine_1 (ly_G h_this) 0 (by decide) t_234 rfl ?_
  refine z_iload_n (M := M_X5_meetOnOneLine) dX5_meetOnOneLine_4 rfl ?_
  obtain ⟨x_1, x_1_e, hi_2, H⟩ := rd_e H
  refine z_iald (M := M_X5_meetOnOneLine) dX5_meetOnOneLine_5 (ly_Gi (k := 1) h_this (by decide) (by decide)) rfl rfl rfl hi_2 x_1_e ?_
  refine z_aload_n (M := M_X5_meetOnOneLine) dX5_meetOnOneLine_6 rfl ?_
  refine z_getR (M := M_X5_meetOnOneLine) (ci := 8) (C := RX5) (T := TX5) (Nf := 8) (ty := tyX5) cl8 dX5_meetOnOneLine_7 (ly_G h_this) 2 (by decide) t_242 rfl ?_
  refine z_iload_n (M := M_X5_meetOnOneLine) dX5_meetOnOneLine_10 rfl ?_
  obtain ⟨x_3, x_3_e, hi_4, H⟩ := rd_e H
  refine z_iald (M := M_X5_meetOnOneLine) dX5_meetOnOneLine_11 (ly_Gi (k := 3) h_this (by decide) (by decide)) rfl rfl rfl hi_4 x_3_e ?_
  rcases if_e H with ⟨h_5, H⟩ | ⟨h_5, H⟩
  · refine z_icmp_ne_f (M := M_X5_meetOnOneLine) (tgt := 19) dX5_meetOnOneLine_12 (by decide) rfl rfl h_5 ?_
    refine z_zconst (M := M_X5_meetOnOneLine) (b := true) dX5_meetOnOneLine_15 rfl ?_
    refine z_goto (M := M_X5_meetOnOneLine) (tgt := 20) dX5_meetOnOneLine_16 (by decide) ?_
    exact J_124 _ (Option.some.inj H).symm
  · refine z_icmp_ne_t (M := M_X5_meetOnOneLine) (tgt := 19) dX5_meetOnOneLine_12 (by decide) rfl rfl h_5 ?_
    refine z_zconst (M := M_X5_meetOnOneLine) (b := false) dX5_meetOnOneLine_19 rfl ?_
    exact J_124 _ (Option.some.inj H).symm
theorem c_X5_meet (hl : l.stackTraces = false) {σ : SG} {this_0 : Nat} {i_0 : Int} {j_0 : Int} {r : Int} {σ' : SG} (h_this : isG this_0) (H : fE_meet σ this_0 i_0 j_0 = some (r, σ')) : en_S l E M_X5_meet 4 0 0 [vr this_0, vi i_0, vi j_0] σ (pS (some (vi r)) σ') := by
  unfold fE_meet at H
  refine z_mk (lv := [some (vr this_0), some (vi i_0), some (vi j_0), none, none, none, none]) m_X5_meet rfl hl (Nat.le_of_ble_eq_true rfl) rfl ?_
  refine z_aload_n (M := M_X5_meet) dX5_meet_0 rfl ?_
  refine z_iload_n (M := M_X5_meet) dX5_meet_1 rfl ?_
  refine z_iload_n (M := M_X5_meet) dX5_meet_2 rfl ?_
  obtain ⟨x_2, hc_1, H⟩ := bd_e H
  refine z_callV (M := M_X5_meet) (M' := M_X5_areApart) (as := [vi i_0, vi j_0]) (rest := []) rfl rfl dX5_meet_3 m_X5_areApart t_1259 t_1230 t_1231 (c_X5_areApart hl h_this hc_1) rfl rfl (ly_G h_this) rfl (Nat.le_of_ble_eq_true rfl) (Nat.le_of_ble_eq_true rfl) (Nat.le_of_ble_eq_true rfl) (Nat.le_of_ble_eq_true rfl) ?_
  refine z_st (st' := [zv x_2]) rfl ?_
  rcases if_e H with ⟨h_3, H⟩ | ⟨h_3, H⟩
  · refine z_zeq_f (M := M_X5_meet) (tgt := 11) dX5_meet_6 (by decide) h_3 ?_
    refine z_iconst (M := M_X5_meet) dX5_meet_9 ?_
    cases H
    exact z_iret (M := M_X5_meet) dX5_meet_10 rfl (Nat.le_of_ble_eq_true rfl) (Nat.le_of_ble_eq_true rfl) ⟨rfl, rfl⟩
  · refine z_zeq_t (M := M_X5_meet) (tgt := 11) dX5_meet_6 (by decide) h_3 ?_
    refine z_aload_n (M := M_X5_meet) dX5_meet_11 rfl ?_
    refine z_iload_n (M := M_X5_meet) dX5_meet_12 rfl ?_
    refine z_aload_n (M := M_X5_meet) dX5_meet_13 rfl ?_
    refine z_getR (M := M_X5_meet) (ci := 8) (C := RX5) (T := TX5) (Nf := 8) (ty := tyX5) cl8 dX5_meet_14 (ly_G h_this) 0 (by decide) t_234 rfl ?_
    refine z_iload_n (M := M_X5_meet) dX5_meet_17 rfl ?_
    obtain ⟨x_4, x_4_e, hi_5, H⟩ := rd_e H
    refine z_iald (M := M_X5_meet) dX5_meet_18 (ly_Gi (k := 1) h_this (by decide) (by decide)) rfl rfl rfl hi_5 x_4_e ?_
    refine z_aload_n (M := M_X5_meet) dX5_meet_19 rfl ?_
    refine z_getR (M := M_X5_meet) (ci := 8) (C := RX5) (T := TX5) (Nf := 8) (ty := tyX5) cl8 dX5_meet_20 (ly_G h_this) 1 (by decide) t_238 rfl ?_
    refine z_iload_n (M := M_X5_meet) dX5_meet_23 rfl ?_
    obtain ⟨x_6, x_6_e, hi_7, H⟩ := rd_e H
    refine z_iald (M := M_X5_meet) dX5_meet_24 (ly_Gi (k := 2) h_this (by decide) (by decide)) rfl rfl rfl hi_7 x_6_e ?_
    obtain ⟨x_9, hc_8, H⟩ := bd_e H
    refine z_callV (M := M_X5_meet) (M' := M_X5_turn) (as := [vi i_0, vi x_4, vi x_6]) (rest := []) rfl rfl dX5_meet_25 m_X5_turn t_1260 t_1261 t_1262 (c_X5_turn hl h_this hc_8) rfl rfl (ly_G h_this) rfl (Nat.le_of_ble_eq_true rfl) (Nat.le_of_ble_eq_true rfl) (Nat.le_of_ble_eq_true rfl) (Nat.le_of_ble_eq_true rfl) ?_
    refine z_st (st' := [vi x_9]) rfl ?_
    refine z_istore_n (M := M_X5_meet) (lv' := [some (vr this_0), some (vi i_0), some (vi j_0), some (vi x_9), none, none, none]) dX5_meet_28 (Nat.le_of_ble_eq_true rfl) rfl rfl ?_
    refine z_aload_n (M := M_X5_meet) dX5_meet_29 rfl ?_
    refine z_iload_n (M := M_X5_meet) dX5_meet_30 rfl ?_
    refine z_aload_n (M := M_X5_meet) dX5_meet_31 rfl ?_
    refine z_getR (M := M_X5_meet) (ci := 8) (C := RX5) (T := TX5) (Nf := 8) (ty := tyX5) cl8 dX5_meet_32 (ly_G h_this) 2 (by decide) t_242 rfl ?_
    refine z_iload_n (M := M_X5_meet) dX5_meet_35 rfl ?_
    obtain ⟨x_10, x_10_e, hi_11, H⟩ := rd_e H
    refine z_iald (M := M_X5_meet) dX5_meet_36 (ly_Gi (k := 3) h_this (by decide) (by decide)) rfl rfl rfl hi_11 x_10_e ?_
    refine z_aload_n (M := M_X5_meet) dX5_meet_37 rfl ?_
    refine z_getR (M := M_X5_meet) (ci := 8) (C := RX5) (T := TX5) (Nf := 8) (ty := tyX5) cl8 dX5_meet_38 (ly_G h_this) 3 (by decide) t_246 rfl ?_
    refine z_iload_n (M := M_X5_meet) dX5_meet_41 rfl ?_
    obtain ⟨x_12, x_12_e, hi_13, H⟩ := rd_e H
    refine z_iald (M := M_X5_meet) dX5_meet_42 (ly_Gi (k := 4) h_this (by decide) (by decide)) rfl rfl rfl hi_13 x_12_e ?_
    obtain ⟨x_15, hc_14, H⟩ := bd_e H
    refine z_callV (M := M_X5_meet) (M' := M_X5_turn) (as := [vi i_0, vi x_10, vi x_12]) (rest := []) rfl rfl dX5_meet_43 m_X5_turn t_1260 t_1261 t_1262 (c_X5_turn hl h_this hc_14) rfl rfl (ly_G h_this) rfl (Nat.le_of_ble_eq_true rfl) (Nat.le_of_ble_eq_true rfl) (Nat.le_of_ble_eq_true rfl) (Nat.le_of_ble_eq_true rfl) ?_
    refine z_st (st' := [vi x_15]) rfl ?_
    refine z_istore (M := M_X5_meet) (lv' := [some (vr this_0), some (vi i_0), some (vi j_0), some (vi x_9), some (vi x_15), none, none]) dX5_meet_46 (Nat.le_of_ble_eq_true rfl) rfl rfl ?_
    rcases if_e H with ⟨h_57, H⟩ | ⟨h_57, H⟩
    · have J_58 : YY l E M_X5_meet 4 0 0 (pS (some (vi r)) σ') 57 [some (vr this_0), some (vi i_0), some (vi j_0), some (vi x_9), some (vi x_15), none, none] [] σ 0 0 := by
        refine z_aload_n (M := M_X5_meet) dX5_meet_57 rfl ?_
        refine z_iload_n (M := M_X5_meet) dX5_meet_58 rfl ?_
        refine z_iload_n (M := M_X5_meet) dX5_meet_59 rfl ?_
        obtain ⟨⟨x_18, σ_17⟩, hc_16, H⟩ := bd_e H
        refine z_callV (M := M_X5_meet) (M' := M_X5_meetOnOneLine) (as := [vi i_0, vi j_0]) (rest := []) rfl rfl dX5_meet_60 m_X5_meetOnOneLine t_1270 t_1272 s_50 (c_X5_meetOnOneLine hl h_this hc_16) rfl rfl (ly_G h_this) rfl (Nat.le_of_ble_eq_true rfl) (Nat.le_of_ble_eq_true rfl) (Nat.le_of_ble_eq_true rfl) (Nat.le_of_ble_eq_true rfl) ?_
        refine z_st (st' := [vi x_18]) rfl ?_
        cases H
        exact z_iret (M := M_X5_meet) dX5_meet_63 rfl (Nat.le_of_ble_eq_true rfl) (Nat.le_of_ble_eq_true rfl) ⟨rfl, rfl⟩
      refine z_iload_n (M := M_X5_meet) dX5_meet_48 rfl ?_
      by_cases h_60 : (w32 x_9) = 0
      · refine z_if_ne_f (M := M_X5_meet) (tgt := 64) dX5_meet_49 (by decide) rfl h_60 ?_
        refine z_iload (M := M_X5_meet) dX5_meet_52 rfl ?_
        by_cases h_61 : (w32 x_15) = 0
        · refine z_if_ne_f (M := M_X5_meet) (tgt := 64) dX5_meet_54 (by decide) rfl h_61 ?_
          exact J_58
        · refine z_if_ne_t (M := M_X5_meet) (tgt := 64) dX5_meet_54 (by decide) rfl h_61 ?_
          exact absurd h_57 (fun q => h_61 q.2)
      · refine z_if_ne_t (M := M_X5_meet) (tgt := 64) dX5_meet_49 (by decide) rfl h_60 ?_
        exact absurd h_57 (fun q => h_60 q.1)
    · have J_59 : YY l E M_X5_meet 4 0 0 (pS (some (vi r)) σ') 64 [some (vr this_0), some (vi i_0), some (vi j_0), some (vi x_9), some (vi x_15), none, none] [] σ 0 0 := by
        refine z_iload_n (M := M_X5_meet) dX5_meet_64 rfl ?_
        refine z_iload (M := M_X5_meet) dX5_meet_65 rfl ?_
        refine z_imul (M := M_X5_meet) dX5_meet_67 ?_
        rcases if_e H with ⟨h_19, H⟩ | ⟨h_19, H⟩
        · refine z_if_le_f (M := M_X5_meet) (tgt := 73) dX5_meet_68 (by decide) rfl h_19 ?_
          refine z_iconst (M := M_X5_meet) dX5_meet_71 ?_
          cases H
          exact z_iret (M := M_X5_meet) dX5_meet_72 rfl (Nat.le_of_ble_eq_true rfl) (Nat.le_of_ble_eq_true rfl) ⟨rfl, rfl⟩
        · refine z_if_le_t (M := M_X5_meet) (tgt := 73) dX5_meet_68 (by decide) rfl (Int.not_lt.mp h_19) ?_
          refine z_aload_n (M := M_X5_meet) dX5_meet_73 rfl ?_
          refine z_iload_n (M := M_X5_meet) dX5_meet_74 rfl ?_
          refine z_aload_n (M := M_X5_meet) dX5_meet_75 rfl ?_
          refine z_getR (M := M_X5_meet) (ci := 8) (C := RX5) (T := TX5) (Nf := 8) (ty := tyX5) cl8 dX5_meet_76 (ly_G h_this) 0 (by decide) t_234 rfl ?_
          refine z_iload_n (M := M_X5_meet) dX5_meet_79 rfl ?_
          obtain ⟨x_20, x_20_e, hi_21, H⟩ := rd_e H
          refine z_iald (M := M_X5_meet) dX5_meet_80 (ly_Gi (k := 1) h_this (by decide) (by decide)) rfl rfl rfl hi_21 x_20_e ?_
          refine z_aload_n (M := M_X5_meet) dX5_meet_81 rfl ?_
          refine z_getR (M := M_X5_meet) (ci := 8) (C := RX5) (T := TX5) (Nf := 8) (ty := tyX5) cl8 dX5_meet_82 (ly_G h_this) 1 (by decide) t_238 rfl ?_
          refine z_iload_n (M := M_X5_meet) dX5_meet_85 rfl ?_
          obtain ⟨x_22, x_22_e, hi_23, H⟩ := rd_e H
          refine z_iald (M := M_X5_meet) dX5_meet_86 (ly_Gi (k := 2) h_this (by decide) (by decide)) rfl rfl rfl hi_23 x_22_e ?_
          obtain ⟨x_25, hc_24, H⟩ := bd_e H
          refine z_callV (M := M_X5_meet) (M' := M_X5_turn) (as := [vi j_0, vi x_20, vi x_22]) (rest := []) rfl rfl dX5_meet_87 m_X5_turn t_1260 t_1261 t_1262 (c_X5_turn hl h_this hc_24) rfl rfl (ly_G h_this) rfl (Nat.le_of_ble_eq_true rfl) (Nat.le_of_ble_eq_true rfl) (Nat.le_of_ble_eq_true rfl) (Nat.le_of_ble_eq_true rfl) ?_
          refine z_st (st' := [vi x_25]) rfl ?_
          refine z_istore (M := M_X5_meet) (lv' := [some (vr this_0), some (vi i_0), some (vi j_0), some (vi x_9), some (vi x_15), some (vi x_25), none]) dX5_meet_90 (Nat.le_of_ble_eq_true rfl) rfl rfl ?_
          refine z_aload_n (M := M_X5_meet) dX5_meet_92 rfl ?_
          refine z_iload_n (M := M_X5_meet) dX5_meet_93 rfl ?_
          refine z_aload_n (M := M_X5_meet) dX5_meet_94 rfl ?_
          refine z_getR (M := M_X5_meet) (ci := 8) (C := RX5) (T := TX5) (Nf := 8) (ty := tyX5) cl8 dX5_meet_95 (ly_G h_this) 2 (by decide) t_242 rfl ?_
          refine z_iload_n (M := M_X5_meet) dX5_meet_98 rfl ?_
          obtain ⟨x_26, x_26_e, hi_27, H⟩ := rd_e H
          refine z_iald (M := M_X5_meet) dX5_meet_99 (ly_Gi (k := 3) h_this (by decide) (by decide)) rfl rfl rfl hi_27 x_26_e ?_
          refine z_aload_n (M := M_X5_meet) dX5_meet_100 rfl ?_
          refine z_getR (M := M_X5_meet) (ci := 8) (C := RX5) (T := TX5) (Nf := 8) (ty := tyX5) cl8 dX5_meet_101 (ly_G h_this) 3 (by decide) t_246 rfl ?_
          refine z_iload_n (M := M_X5_meet) dX5_meet_104 rfl ?_
          obtain ⟨x_28, x_28_e, hi_29, H⟩ := rd_e H
          refine z_iald (M := M_X5_meet) dX5_meet_105 (ly_Gi (k := 4) h_this (by decide) (by decide)) rfl rfl rfl hi_29 x_28_e ?_
          obtain ⟨x_31, hc_30, H⟩ := bd_e H
          refine z_callV (M := M_X5_meet) (M' := M_X5_turn) (as := [vi j_0, vi x_26, vi x_28]) (rest := []) rfl rfl dX5_meet_106 m_X5_turn t_1260 t_1261 t_1262 (c_X5_turn hl h_this hc_30) rfl rfl (ly_G h_this) rfl (Nat.le_of_ble_eq_true rfl) (Nat.le_of_ble_eq_true rfl) (Nat.le_of_ble_eq_true rfl) (Nat.le_of_ble_eq_true rfl) ?_
          refine z_st (st' := [vi x_31]) rfl ?_
          refine z_istore (M := M_X5_meet) (lv' := [some (vr this_0), some (vi i_0), some (vi j_0), some (vi x_9), some (vi x_15), some (vi x_25), some (vi x_31)]) dX5_meet_109 (Nat.le_of_ble_eq_true rfl) rfl rfl ?_
          refine z_iload (M := M_X5_meet) dX5_meet_111 rfl ?_
          refine z_iload (M := M_X5_meet) dX5_meet_113 rfl ?_
          refine z_imul (M := M_X5_meet) dX5_meet_115 ?_
          rcases if_e H with ⟨h_32, H⟩ | ⟨h_32, H⟩
          · refine z_if_le_f (M := M_X5_meet) (tgt := 121) dX5_meet_116 (by decide) rfl h_32 ?_
            refine z_iconst (M := M_X5_meet) dX5_meet_119 ?_
            cases H
            exact z_iret (M := M_X5_meet) dX5_meet_120 rfl (Nat.le_of_ble_eq_true rfl) (Nat.le_of_ble_eq_true rfl) ⟨rfl, rfl⟩
          · refine z_if_le_t (M := M_X5_meet) (tgt := 121) dX5_meet_116 (by decide) rfl (Int.not_lt.mp h_32) ?_
            rcases if_e H with ⟨h_50, H⟩ | ⟨h_50, H⟩
            · have J_51 : YY l E M_X5_meet 4 0 0 (pS (some (vi r)) σ') 136 [some (vr this_0), some (vi i_0), some (vi j_0), some (vi x_9), some (vi x_15), some (vi x_25), some (vi x_31)] [] σ 0 0 := by
                refine z_iconst (M := M_X5_meet) dX5_meet_136 ?_
                cases H
                exact z_iret (M := M_X5_meet) dX5_meet_137 rfl (Nat.le_of_ble_eq_true rfl) (Nat.le_of_ble_eq_true rfl) ⟨rfl, rfl⟩
              refine z_iload_n (M := M_X5_meet) dX5_meet_121 rfl ?_
              refine z_iload (M := M_X5_meet) dX5_meet_122 rfl ?_
              refine z_imul (M := M_X5_meet) dX5_meet_124 ?_
              by_cases h_53 : (w32 (x_9 * x_15)) < 0
              · refine z_if_ge_f (M := M_X5_meet) (tgt := 138) dX5_meet_125 (by decide) rfl h_53 ?_
                refine z_iload (M := M_X5_meet) dX5_meet_128 rfl ?_
                refine z_iload (M := M_X5_meet) dX5_meet_130 rfl ?_
                refine z_imul (M := M_X5_meet) dX5_meet_132 ?_
                by_cases h_54 : (w32 (x_25 * x_31)) < 0
                · refine z_if_ge_f (M := M_X5_meet) (tgt := 138) dX5_meet_133 (by decide) rfl h_54 ?_
                  exact J_51
                · refine z_if_ge_t (M := M_X5_meet) (tgt := 138) dX5_meet_133 (by decide) rfl (Int.not_lt.mp h_54) ?_
                  exact absurd h_50 (fun q => h_54 q.2)
              · refine z_if_ge_t (M := M_X5_meet) (tgt := 138) dX5_meet_125 (by decide) rfl (Int.not_lt.mp h_53) ?_
                exact absurd h_50 (fun q => h_53 q.1)
            · have J_52 : YY l E M_X5_meet 4 0 0 (pS (some (vi r)) σ') 138 [some (vr this_0), some (vi i_0), some (vi j_0), some (vi x_9), some (vi x_15), some (vi x_25), some (vi x_31)] [] σ 0 0 := by
                rcases if_e H with ⟨h_43, H⟩ | ⟨h_43, H⟩
                · have J_44 : YY l E M_X5_meet 4 0 0 (pS (some (vi r)) σ') 147 [some (vr this_0), some (vi i_0), some (vi j_0), some (vi x_9), some (vi x_15), some (vi x_25), some (vi x_31)] [] σ 0 0 := by
                    refine z_aload_n (M := M_X5_meet) dX5_meet_147 rfl ?_
                    refine z_iload_n (M := M_X5_meet) dX5_meet_148 rfl ?_
                    have J_33 : YY l E M_X5_meet 4 0 0 (pS (some (vi r)) σ') 158 [some (vr this_0), some (vi i_0), some (vi j_0), some (vi x_9), some (vi x_15), some (vi x_25), some (vi x_31)] [zv (decide ((w32 x_9) = 0)), vi j_0, vr this_0] σ 0 0 := by
                      obtain ⟨⟨x_36, σ_35⟩, hc_34, H⟩ := bd_e H
                      refine z_callV (M := M_X5_meet) (M' := M_X5_touchAtEnd) (as := [vi j_0, zv (decide ((w32 x_9) = 0))]) (rest := []) rfl rfl dX5_meet_158 m_X5_touchAtEnd t_1274 t_1276 s_51 (c_X5_touchAtEnd hl h_this hc_34) rfl rfl (ly_G h_this) rfl (Nat.le_of_ble_eq_true rfl) (Nat.le_of_ble_eq_true rfl) (Nat.le_of_ble_eq_true rfl) (Nat.le_of_ble_eq_true rfl) ?_
                      refine z_st (st' := [vi x_36]) rfl ?_
                      cases H
                      exact z_iret (M := M_X5_meet) dX5_meet_161 rfl (Nat.le_of_ble_eq_true rfl) (Nat.le_of_ble_eq_true rfl) ⟨rfl, rfl⟩
                    refine z_iload_n (M := M_X5_meet) dX5_meet_149 rfl ?_
                    by_cases h_37 : (w32 x_9) = 0
                    · refine z_if_ne_f (M := M_X5_meet) (tgt := 157) dX5_meet_150 (by decide) rfl h_37 ?_
                      refine z_iconst (M := M_X5_meet) dX5_meet_153 ?_
                      refine z_goto (M := M_X5_meet) (tgt := 158) dX5_meet_154 (by decide) ?_
                      exact z_st (by rw [zv_t (p := (w32 x_9) = 0) h_37]) J_33
                    · refine z_if_ne_t (M := M_X5_meet) (tgt := 157) dX5_meet_150 (by decide) rfl h_37 ?_
                      refine z_iconst (M := M_X5_meet) dX5_meet_157 ?_
                      exact z_st (by rw [zv_f (p := (w32 x_9) = 0) h_37]) J_33
                  refine z_iload_n (M := M_X5_meet) dX5_meet_138 rfl ?_
                  by_cases h_46 : (w32 x_9) = 0
                  · refine z_if_eq_t (M := M_X5_meet) (tgt := 147) dX5_meet_139 (by decide) rfl h_46 ?_
                    exact J_44
                  · refine z_if_eq_f (M := M_X5_meet) (tgt := 147) dX5_meet_139 (by decide) rfl h_46 ?_
                    refine z_iload (M := M_X5_meet) dX5_meet_142 rfl ?_
                    by_cases h_47 : (w32 x_15) = 0
                    · refine z_if_ne_f (M := M_X5_meet) (tgt := 162) dX5_meet_144 (by decide) rfl h_47 ?_
                      exact J_44
                    · refine z_if_ne_t (M := M_X5_meet) (tgt := 162) dX5_meet_144 (by decide) rfl h_47 ?_
                      exact absurd h_43 (fun q => q.elim h_46 h_47)
                · have J_45 : YY l E M_X5_meet 4 0 0 (pS (some (vi r)) σ') 162 [some (vr this_0), some (vi i_0), some (vi j_0), some (vi x_9), some (vi x_15), some (vi x_25), some (vi x_31)] [] σ 0 0 := by
                    refine z_aload_n (M := M_X5_meet) dX5_meet_162 rfl ?_
                    refine z_iload_n (M := M_X5_meet) dX5_meet_163 rfl ?_
                    have J_38 : YY l E M_X5_meet 4 0 0 (pS (some (vi r)) σ') 174 [some (vr this_0), some (vi i_0), some (vi j_0), some (vi x_9), some (vi x_15), some (vi x_25), some (vi x_31)] [zv (decide ((w32 x_25) = 0)), vi i_0, vr this_0] σ 0 0 := by
                      obtain ⟨⟨x_41, σ_40⟩, hc_39, H⟩ := bd_e H
                      refine z_callV (M := M_X5_meet) (M' := M_X5_touchAtEnd) (as := [vi i_0, zv (decide ((w32 x_25) = 0))]) (rest := []) rfl rfl dX5_meet_174 m_X5_touchAtEnd t_1274 t_1276 s_51 (c_X5_touchAtEnd hl h_this hc_39) rfl rfl (ly_G h_this) rfl (Nat.le_of_ble_eq_true rfl) (Nat.le_of_ble_eq_true rfl) (Nat.le_of_ble_eq_true rfl) (Nat.le_of_ble_eq_true rfl) ?_
                      refine z_st (st' := [vi x_41]) rfl ?_
                      cases H
                      exact z_iret (M := M_X5_meet) dX5_meet_177 rfl (Nat.le_of_ble_eq_true rfl) (Nat.le_of_ble_eq_true rfl) ⟨rfl, rfl⟩
                    refine z_iload (M := M_X5_meet) dX5_meet_164 rfl ?_
                    by_cases h_42 : (w32 x_25) = 0
                    · refine z_if_ne_f (M := M_X5_meet) (tgt := 173) dX5_meet_166 (by decide) rfl h_42 ?_
                      refine z_iconst (M := M_X5_meet) dX5_meet_169 ?_
                      refine z_goto (M := M_X5_meet) (tgt := 174) dX5_meet_170 (by decide) ?_
                      exact z_st (by rw [zv_t (p := (w32 x_25) = 0) h_42]) J_38
                    · refine z_if_ne_t (M := M_X5_meet) (tgt := 173) dX5_meet_166 (by decide) rfl h_42 ?_
                      refine z_iconst (M := M_X5_meet) dX5_meet_173 ?_
                      exact z_st (by rw [zv_f (p := (w32 x_25) = 0) h_42]) J_38
                  refine z_iload_n (M := M_X5_meet) dX5_meet_138 rfl ?_
                  by_cases h_48 : (w32 x_9) = 0
                  · refine z_if_eq_t (M := M_X5_meet) (tgt := 147) dX5_meet_139 (by decide) rfl h_48 ?_
                    exact absurd (Or.inl h_48) h_43
                  · refine z_if_eq_f (M := M_X5_meet) (tgt := 147) dX5_meet_139 (by decide) rfl h_48 ?_
                    refine z_iload (M := M_X5_meet) dX5_meet_142 rfl ?_
                    by_cases h_49 : (w32 x_15) = 0
                    · refine z_if_ne_f (M := M_X5_meet) (tgt := 162) dX5_meet_144 (by decide) rfl h_49 ?_
                      exact absurd (Or.inr h_49) h_43
                    · refine z_if_ne_t (M := M_X5_meet) (tgt := 162) dX5_meet_144 (by decide) rfl h_49 ?_
                      exact J_45
              refine z_iload_n (M := M_X5_meet) dX5_meet_121 rfl ?_
              refine z_iload (M := M_X5_meet) dX5_meet_122 rfl ?_
              refine z_imul (M := M_X5_meet) dX5_meet_124 ?_
              by_cases h_55 : (w32 (x_9 * x_15)) < 0
              · refine z_if_ge_f (M := M_X5_meet) (tgt := 138) dX5_meet_125 (by decide) rfl h_55 ?_
                refine z_iload (M := M_X5_meet) dX5_meet_128 rfl ?_
                refine z_iload (M := M_X5_meet) dX5_meet_130 rfl ?_
                refine z_imul (M := M_X5_meet) dX5_meet_132 ?_
                by_cases h_56 : (w32 (x_25 * x_31)) < 0
                · refine z_if_ge_f (M := M_X5_meet) (tgt := 138) dX5_meet_133 (by decide) rfl h_56 ?_
                  exact absurd ⟨h_55, h_56⟩ h_50
                · refine z_if_ge_t (M := M_X5_meet) (tgt := 138) dX5_meet_133 (by decide) rfl (Int.not_lt.mp h_56) ?_
                  exact J_52
              · refine z_if_ge_t (M := M_X5_meet) (tgt := 138) dX5_meet_125 (by decide) rfl (Int.not_lt.mp h_55) ?_
                exact J_52
      refine z_iload_n (M := M_X5_meet) dX5_meet_48 rfl ?_
      by_cases h_62 : (w32 x_9) = 0
      · refine z_if_ne_f (M := M_X5_meet) (tgt := 64) dX5_meet_49 (by decide) rfl h_62 ?_
        refine z_iload (M := M_X5_meet) dX5_meet_52 rfl ?_
        by_cases h_63 : (w32 x_15) = 0
        · refine z_if_ne_f (M := M_X5_meet) (tgt := 64) dX5_meet_54 (by decide) rfl h_63 ?_
          exact absurd ⟨h_62, h_63⟩ h_57
        · refine z_if_ne_t (M := M_X5_meet) (tgt := 64) dX5_meet_54 (by decide) rfl h_63 ?_
          exact J_59
      · refine z_if_ne_t (M := M_X5_meet) (tgt := 64) dX5_meet_49 (by decide) rfl h_62 ?_
        exact J_59
theorem c_X1_pairFault (hl : l.stackTraces = false) {σ : SG} {i_0 : Int} {j_0 : Int} {r : Int} {σ' : SG}  (H : fJ_pairFault σ i_0 j_0 = some (r, σ')) : en_S l E M_X1_pairFault 5 0 0 [vr 177, vi i_0, vi j_0] σ (pS (some (vi r)) σ') := by
  unfold fJ_pairFault at H
  refine z_mk (lv := [some (vr 177), some (vi i_0), some (vi j_0), none]) m_X1_pairFault rfl hl (Nat.le_of_ble_eq_true rfl) rfl ?_
  refine z_aload_n (M := M_X1_pairFault) dX1_pairFault_0 rfl ?_
  refine z_getR (M := M_X1_pairFault) (ci := 4) (C := RX1) (T := TX1) (Nf := 11) (ty := tyX1) cl4 dX1_pairFault_1 ly_177 1 (by decide) t_286 rfl ?_
  refine z_iload_n (M := M_X1_pairFault) dX1_pairFault_4 rfl ?_
  refine z_iload_n (M := M_X1_pairFault) dX1_pairFault_5 rfl ?_
  obtain ⟨⟨x_3, σ_2⟩, hc_1, H⟩ := bd_e H
  refine z_callV (M := M_X1_pairFault) (M' := M_X5_meet) (as := [vi i_0, vi j_0]) (rest := []) rfl rfl dX1_pairFault_6 m_X5_meet t_1255 t_1256 t_1257 (c_X5_meet hl (by decide) hc_1) rfl rfl (ly_G (by decide)) rfl (Nat.le_of_ble_eq_true rfl) (Nat.le_of_ble_eq_true rfl) (Nat.le_of_ble_eq_true rfl) (Nat.le_of_ble_eq_true rfl) ?_
  refine z_st (st' := [vi x_3]) rfl ?_
  refine z_istore_n (M := M_X1_pairFault) (lv' := [some (vr 177), some (vi i_0), some (vi j_0), some (vi x_3)]) dX1_pairFault_9 (Nat.le_of_ble_eq_true rfl) rfl rfl ?_
  refine z_iload_n (M := M_X1_pairFault) dX1_pairFault_10 rfl ?_
  rcases if_e H with ⟨h_4, H⟩ | ⟨h_4, H⟩
  · refine z_if_ne_f (M := M_X1_pairFault) (tgt := 16) dX1_pairFault_11 (by decide) rfl h_4 ?_
    refine z_iconst (M := M_X1_pairFault) dX1_pairFault_14 ?_
    cases H
    exact z_iret (M := M_X1_pairFault) dX1_pairFault_15 rfl (Nat.le_of_ble_eq_true rfl) (Nat.le_of_ble_eq_true rfl) ⟨rfl, rfl⟩
  · refine z_if_ne_t (M := M_X1_pairFault) (tgt := 16) dX1_pairFault_11 (by decide) rfl h_4 ?_
    refine z_iload_n (M := M_X1_pairFault) dX1_pairFault_16 rfl ?_
    refine z_iconst (M := M_X1_pairFault) dX1_pairFault_17 ?_
    rcases if_e H with ⟨h_5, H⟩ | ⟨h_5, H⟩
    · refine z_icmp_ne_f (M := M_X1_pairFault) (tgt := 23) dX1_pairFault_18 (by decide) rfl (by decide +kernel) h_5 ?_
      refine z_iconst (M := M_X1_pairFault) dX1_pairFault_21 ?_
      cases H
      exact z_iret (M := M_X1_pairFault) dX1_pairFault_22 rfl (Nat.le_of_ble_eq_true rfl) (Nat.le_of_ble_eq_true rfl) ⟨rfl, rfl⟩
    · refine z_icmp_ne_t (M := M_X1_pairFault) (tgt := 23) dX1_pairFault_18 (by decide) rfl (by decide +kernel) h_5 ?_
      refine z_iload_n (M := M_X1_pairFault) dX1_pairFault_23 rfl ?_
      refine z_iconst (M := M_X1_pairFault) dX1_pairFault_24 ?_
      rcases if_e H with ⟨h_6, H⟩ | ⟨h_6, H⟩
      · refine z_icmp_ne_f (M := M_X1_pairFault) (tgt := 30) dX1_pairFault_25 (by decide) rfl (by decide +kernel) h_6 ?_
        refine z_iconst (M := M_X1_pairFault) dX1_pairFault_28 ?_
        cases H
        exact z_iret (M := M_X1_pairFault) dX1_pairFault_29 rfl (Nat.le_of_ble_eq_true rfl) (Nat.le_of_ble_eq_true rfl) ⟨rfl, rfl⟩
      · refine z_icmp_ne_t (M := M_X1_pairFault) (tgt := 30) dX1_pairFault_25 (by decide) rfl (by decide +kernel) h_6 ?_
        refine z_aload_n (M := M_X1_pairFault) dX1_pairFault_30 rfl ?_
        refine z_getR (M := M_X1_pairFault) (ci := 4) (C := RX1) (T := TX1) (Nf := 11) (ty := tyX1) cl4 dX1_pairFault_31 ly_177 1 (by decide) t_286 rfl ?_
        refine z_getR (M := M_X1_pairFault) (ci := 8) (C := RX5) (T := TX5) (Nf := 8) (ty := tyX5) cl8 dX1_pairFault_34 (ly_G (by decide)) 4 (by decide) t_251 rfl ?_
        refine z_iload_n (M := M_X1_pairFault) dX1_pairFault_37 rfl ?_
        obtain ⟨x_7, x_7_e, hi_8, H⟩ := rd_e H
        refine z_iald (M := M_X1_pairFault) dX1_pairFault_38 ly_184 rfl rfl rfl hi_8 x_7_e ?_
        refine z_aload_n (M := M_X1_pairFault) dX1_pairFault_39 rfl ?_
        refine z_getR (M := M_X1_pairFault) (ci := 4) (C := RX1) (T := TX1) (Nf := 11) (ty := tyX1) cl4 dX1_pairFault_40 ly_177 1 (by decide) t_286 rfl ?_
        refine z_getR (M := M_X1_pairFault) (ci := 8) (C := RX5) (T := TX5) (Nf := 8) (ty := tyX5) cl8 dX1_pairFault_43 (ly_G (by decide)) 4 (by decide) t_251 rfl ?_
        refine z_iload_n (M := M_X1_pairFault) dX1_pairFault_46 rfl ?_
        obtain ⟨x_9, x_9_e, hi_10, H⟩ := rd_e H
        refine z_iald (M := M_X1_pairFault) dX1_pairFault_47 ly_184 rfl rfl rfl hi_10 x_9_e ?_
        rcases if_e H with ⟨h_11, H⟩ | ⟨h_11, H⟩
        · refine z_icmp_eq_f (M := M_X1_pairFault) (tgt := 66) dX1_pairFault_48 (by decide) rfl rfl h_11 ?_
          obtain ⟨v_18, he_19, hk_20⟩ := bd_e H
          have J_21 : ∀ x_17, v_18 = x_17 → YY l E M_X1_pairFault 5 0 0 (pS (some (vi r)) σ') 65 [some (vr 177), some (vi i_0), some (vi j_0), some (vi x_3)] [vi x_17] σ_2 0 0 := by
            intro x_17 e
            have H := hk_20
            rw [e] at H
            cases H
            exact z_iret (M := M_X1_pairFault) dX1_pairFault_65 rfl (Nat.le_of_ble_eq_true rfl) (Nat.le_of_ble_eq_true rfl) ⟨rfl, rfl⟩
          have H := he_19
          refine z_aload_n (M := M_X1_pairFault) dX1_pairFault_51 rfl ?_
          refine z_iload_n (M := M_X1_pairFault) dX1_pairFault_52 rfl ?_
          refine z_iload_n (M := M_X1_pairFault) dX1_pairFault_53 rfl ?_
          obtain ⟨x_13, hc_12, H⟩ := bd_e H
          refine z_callV (M := M_X1_pairFault) (M' := M_X1_ringsCrossBehind) (as := [vi i_0, vi j_0]) (rest := []) rfl rfl dX1_pairFault_54 m_X1_ringsCrossBehind t_1278 t_1280 s_52 (c_X1_ringsCrossBehind hl  hc_12) rfl rfl ly_177 rfl (Nat.le_of_ble_eq_true rfl) (Nat.le_of_ble_eq_true rfl) (Nat.le_of_ble_eq_true rfl) (Nat.le_of_ble_eq_true rfl) ?_
          refine z_st (st' := [zv x_13]) rfl ?_
          rcases if_e H with ⟨h_14, H⟩ | ⟨h_14, H⟩
          · refine z_zeq_f (M := M_X1_pairFault) (tgt := 64) dX1_pairFault_57 (by decide) h_14 ?_
            refine z_iconst (M := M_X1_pairFault) dX1_pairFault_60 ?_
            refine z_goto (M := M_X1_pairFault) (tgt := 65) dX1_pairFault_61 (by decide) ?_
            exact J_21 _ (Option.some.inj H).symm
          · refine z_zeq_t (M := M_X1_pairFault) (tgt := 64) dX1_pairFault_57 (by decide) h_14 ?_
            refine z_iconst (M := M_X1_pairFault) dX1_pairFault_64 ?_
            exact J_21 _ (Option.some.inj H).symm
        · refine z_icmp_eq_t (M := M_X1_pairFault) (tgt := 66) dX1_pairFault_48 (by decide) rfl rfl (Decidable.not_not.mp h_11) ?_
          obtain ⟨v_42, he_43, hk_44⟩ := bd_e H
          have J_45 : ∀ x_41, v_42 = x_41 → YY l E M_X1_pairFault 5 0 0 (pS (some (vi r)) σ') 89 [some (vr 177), some (vi i_0), some (vi j_0), some (vi x_3)] [vi x_41] σ_2 0 0 := by
            intro x_41 e
            have H := hk_44
            rw [e] at H
            cases H
            exact z_iret (M := M_X1_pairFault) dX1_pairFault_89 rfl (Nat.le_of_ble_eq_true rfl) (Nat.le_of_ble_eq_true rfl) ⟨rfl, rfl⟩
          have H := he_43
          refine z_aload_n (M := M_X1_pairFault) dX1_pairFault_66 rfl ?_
          refine z_iload_n (M := M_X1_pairFault) dX1_pairFault_67 rfl ?_
          refine z_iload_n (M := M_X1_pairFault) dX1_pairFault_68 rfl ?_
          obtain ⟨x_33, hc_32, H⟩ := bd_e H
          refine z_callV (M := M_X1_pairFault) (M' := M_X1_leadsOnTo) (as := [vi i_0, vi j_0]) (rest := []) rfl rfl dX1_pairFault_69 m_X1_leadsOnTo t_1299 t_1301 s_55 (c_X1_leadsOnTo hl  hc_32) rfl rfl ly_177 rfl (Nat.le_of_ble_eq_true rfl) (Nat.le_of_ble_eq_true rfl) (Nat.le_of_ble_eq_true rfl) (Nat.le_of_ble_eq_true rfl) ?_
          refine z_st (st' := [zv x_33]) rfl ?_
          rcases if_e H with ⟨h_34, H⟩ | ⟨h_34, H⟩
          · refine z_zne_t (M := M_X1_pairFault) (tgt := 84) dX1_pairFault_72 (by decide) h_34 ?_
            refine z_iconst (M := M_X1_pairFault) dX1_pairFault_84 ?_
            refine z_goto (M := M_X1_pairFault) (tgt := 89) dX1_pairFault_85 (by decide) ?_
            exact J_45 _ (Option.some.inj H).symm
          · refine z_zne_f (M := M_X1_pairFault) (tgt := 84) dX1_pairFault_72 (by decide) h_34 ?_
            refine z_aload_n (M := M_X1_pairFault) dX1_pairFault_75 rfl ?_
            refine z_iload_n (M := M_X1_pairFault) dX1_pairFault_76 rfl ?_
            refine z_iload_n (M := M_X1_pairFault) dX1_pairFault_77 rfl ?_
            obtain ⟨x_37, hc_36, H⟩ := bd_e H
            refine z_callV (M := M_X1_pairFault) (M' := M_X1_leadsOnTo) (as := [vi j_0, vi i_0]) (rest := []) rfl rfl dX1_pairFault_78 m_X1_leadsOnTo t_1299 t_1301 s_55 (c_X1_leadsOnTo hl  hc_36) rfl rfl ly_177 rfl (Nat.le_of_ble_eq_true rfl) (Nat.le_of_ble_eq_true rfl) (Nat.le_of_ble_eq_true rfl) (Nat.le_of_ble_eq_true rfl) ?_
            refine z_st (st' := [zv x_37]) rfl ?_
            rcases if_e H with ⟨h_38, H⟩ | ⟨h_38, H⟩
            · refine z_zeq_f (M := M_X1_pairFault) (tgt := 88) dX1_pairFault_81 (by decide) h_38 ?_
              refine z_iconst (M := M_X1_pairFault) dX1_pairFault_84 ?_
              refine z_goto (M := M_X1_pairFault) (tgt := 89) dX1_pairFault_85 (by decide) ?_
              exact J_45 _ (Option.some.inj H).symm
            · refine z_zeq_t (M := M_X1_pairFault) (tgt := 88) dX1_pairFault_81 (by decide) h_38 ?_
              refine z_iconst (M := M_X1_pairFault) dX1_pairFault_88 ?_
              exact J_45 _ (Option.some.inj H).symm
theorem c_X1_tellPair (hl : l.stackTraces = false) {σ : SG} {fault_0 : Int} {i_0 : Int} {j_0 : Int} {r : Int} {σ' : SG}  (H : fJ_tellPair σ fault_0 i_0 j_0 = some (r, σ')) : en_S l E M_X1_tellPair 1 0 0 [vr 177, vi fault_0, vi i_0, vi j_0] σ (pS (some (vi r)) σ') := by
  unfold fJ_tellPair at H
  refine z_mk (lv := [some (vr 177), some (vi fault_0), some (vi i_0), some (vi j_0), none, none]) m_X1_tellPair rfl hl (Nat.le_of_ble_eq_true rfl) rfl ?_
  refine z_aload_n (M := M_X1_tellPair) dX1_tellPair_0 rfl ?_
  refine z_getR (M := M_X1_tellPair) (ci := 4) (C := RX1) (T := TX1) (Nf := 11) (ty := tyX1) cl4 dX1_tellPair_1 ly_177 1 (by decide) t_286 rfl ?_
  refine z_getR (M := M_X1_tellPair) (ci := 8) (C := RX5) (T := TX5) (Nf := 8) (ty := tyX5) cl8 dX1_tellPair_4 (ly_G (by decide)) 4 (by decide) t_251 rfl ?_
  refine z_iload_n (M := M_X1_tellPair) dX1_tellPair_7 rfl ?_
  obtain ⟨x_1, x_1_e, hi_2, H⟩ := rd_e H
  refine z_iald (M := M_X1_tellPair) dX1_tellPair_8 ly_184 rfl rfl rfl hi_2 x_1_e ?_
  refine z_istore (M := M_X1_tellPair) (lv' := [some (vr 177), some (vi fault_0), some (vi i_0), some (vi j_0), some (vi x_1), none]) dX1_tellPair_9 (Nat.le_of_ble_eq_true rfl) rfl rfl ?_
  refine z_aload_n (M := M_X1_tellPair) dX1_tellPair_11 rfl ?_
  refine z_getR (M := M_X1_tellPair) (ci := 4) (C := RX1) (T := TX1) (Nf := 11) (ty := tyX1) cl4 dX1_tellPair_12 ly_177 1 (by decide) t_286 rfl ?_
  refine z_getR (M := M_X1_tellPair) (ci := 8) (C := RX5) (T := TX5) (Nf := 8) (ty := tyX5) cl8 dX1_tellPair_15 (ly_G (by decide)) 4 (by decide) t_251 rfl ?_
  refine z_iload_n (M := M_X1_tellPair) dX1_tellPair_18 rfl ?_
  obtain ⟨x_3, x_3_e, hi_4, H⟩ := rd_e H
  refine z_iald (M := M_X1_tellPair) dX1_tellPair_19 ly_184 rfl rfl rfl hi_4 x_3_e ?_
  refine z_istore (M := M_X1_tellPair) (lv' := [some (vr 177), some (vi fault_0), some (vi i_0), some (vi j_0), some (vi x_1), some (vi x_3)]) dX1_tellPair_20 (Nat.le_of_ble_eq_true rfl) rfl rfl ?_
  refine z_aload_n (M := M_X1_tellPair) dX1_tellPair_22 rfl ?_
  refine z_getR (M := M_X1_tellPair) (ci := 4) (C := RX1) (T := TX1) (Nf := 11) (ty := tyX1) cl4 dX1_tellPair_23 ly_177 0 (by decide) t_284 rfl ?_
  refine z_iconst (M := M_X1_tellPair) dX1_tellPair_26 ?_
  refine z_aload_n (M := M_X1_tellPair) dX1_tellPair_27 rfl ?_
  refine z_getR (M := M_X1_tellPair) (ci := 4) (C := RX1) (T := TX1) (Nf := 11) (ty := tyX1) cl4 dX1_tellPair_28 ly_177 3 (by decide) t_288 rfl ?_
  refine z_iload (M := M_X1_tellPair) dX1_tellPair_31 rfl ?_
  obtain ⟨x_5, x_5_e, hi_6, H⟩ := rd_e H
  refine z_iald (M := M_X1_tellPair) dX1_tellPair_33 ly_186 rfl rfl rfl hi_6 x_5_e ?_
  obtain ⟨σ_7, σ_7_e, hi_8, H⟩ := wa_e H
  refine z_iast (M := M_X1_tellPair) dX1_tellPair_34 ly_178 rfl (by decide +kernel) rfl hi_8 σ_7_e ?_
  refine z_aload_n (M := M_X1_tellPair) dX1_tellPair_35 rfl ?_
  refine z_getR (M := M_X1_tellPair) (ci := 4) (C := RX1) (T := TX1) (Nf := 11) (ty := tyX1) cl4 dX1_tellPair_36 ly_177 0 (by decide) t_284 rfl ?_
  refine z_iconst (M := M_X1_tellPair) dX1_tellPair_39 ?_
  refine z_aload_n (M := M_X1_tellPair) dX1_tellPair_40 rfl ?_
  refine z_getR (M := M_X1_tellPair) (ci := 4) (C := RX1) (T := TX1) (Nf := 11) (ty := tyX1) cl4 dX1_tellPair_41 ly_177 4 (by decide) t_289 rfl ?_
  refine z_iload (M := M_X1_tellPair) dX1_tellPair_44 rfl ?_
  obtain ⟨x_9, x_9_e, hi_10, H⟩ := rd_e H
  refine z_iald (M := M_X1_tellPair) dX1_tellPair_46 ly_187 rfl rfl rfl hi_10 x_9_e ?_
  obtain ⟨σ_11, σ_11_e, hi_12, H⟩ := wa_e H
  refine z_iast (M := M_X1_tellPair) dX1_tellPair_47 ly_178 rfl (by decide +kernel) rfl hi_12 σ_11_e ?_
  refine z_aload_n (M := M_X1_tellPair) dX1_tellPair_48 rfl ?_
  refine z_getR (M := M_X1_tellPair) (ci := 4) (C := RX1) (T := TX1) (Nf := 11) (ty := tyX1) cl4 dX1_tellPair_49 ly_177 0 (by decide) t_284 rfl ?_
  refine z_iconst (M := M_X1_tellPair) dX1_tellPair_52 ?_
  refine z_aload_n (M := M_X1_tellPair) dX1_tellPair_53 rfl ?_
  refine z_getR (M := M_X1_tellPair) (ci := 4) (C := RX1) (T := TX1) (Nf := 11) (ty := tyX1) cl4 dX1_tellPair_54 ly_177 2 (by decide) t_287 rfl ?_
  refine z_iload_n (M := M_X1_tellPair) dX1_tellPair_57 rfl ?_
  obtain ⟨x_13, x_13_e, hi_14, H⟩ := rd_e H
  refine z_iald (M := M_X1_tellPair) dX1_tellPair_58 ly_185 rfl rfl rfl hi_14 x_13_e ?_
  obtain ⟨σ_15, σ_15_e, hi_16, H⟩ := wa_e H
  refine z_iast (M := M_X1_tellPair) dX1_tellPair_59 ly_178 rfl (by decide +kernel) rfl hi_16 σ_15_e ?_
  refine z_aload_n (M := M_X1_tellPair) dX1_tellPair_60 rfl ?_
  refine z_getR (M := M_X1_tellPair) (ci := 4) (C := RX1) (T := TX1) (Nf := 11) (ty := tyX1) cl4 dX1_tellPair_61 ly_177 0 (by decide) t_284 rfl ?_
  refine z_iconst (M := M_X1_tellPair) dX1_tellPair_64 ?_
  refine z_aload_n (M := M_X1_tellPair) dX1_tellPair_65 rfl ?_
  refine z_getR (M := M_X1_tellPair) (ci := 4) (C := RX1) (T := TX1) (Nf := 11) (ty := tyX1) cl4 dX1_tellPair_66 ly_177 3 (by decide) t_288 rfl ?_
  refine z_iload (M := M_X1_tellPair) dX1_tellPair_69 rfl ?_
  obtain ⟨x_17, x_17_e, hi_18, H⟩ := rd_e H
  refine z_iald (M := M_X1_tellPair) dX1_tellPair_71 ly_186 rfl rfl rfl hi_18 x_17_e ?_
  obtain ⟨σ_19, σ_19_e, hi_20, H⟩ := wa_e H
  refine z_iast (M := M_X1_tellPair) dX1_tellPair_72 ly_178 rfl (by decide +kernel) rfl hi_20 σ_19_e ?_
  refine z_aload_n (M := M_X1_tellPair) dX1_tellPair_73 rfl ?_
  refine z_getR (M := M_X1_tellPair) (ci := 4) (C := RX1) (T := TX1) (Nf := 11) (ty := tyX1) cl4 dX1_tellPair_74 ly_177 0 (by decide) t_284 rfl ?_
  refine z_iconst (M := M_X1_tellPair) dX1_tellPair_77 ?_
  refine z_aload_n (M := M_X1_tellPair) dX1_tellPair_78 rfl ?_
  refine z_getR (M := M_X1_tellPair) (ci := 4) (C := RX1) (T := TX1) (Nf := 11) (ty := tyX1) cl4 dX1_tellPair_79 ly_177 4 (by decide) t_289 rfl ?_
  refine z_iload (M := M_X1_tellPair) dX1_tellPair_82 rfl ?_
  obtain ⟨x_21, x_21_e, hi_22, H⟩ := rd_e H
  refine z_iald (M := M_X1_tellPair) dX1_tellPair_84 ly_187 rfl rfl rfl hi_22 x_21_e ?_
  obtain ⟨σ_23, σ_23_e, hi_24, H⟩ := wa_e H
  refine z_iast (M := M_X1_tellPair) dX1_tellPair_85 ly_178 rfl (by decide +kernel) rfl hi_24 σ_23_e ?_
  refine z_aload_n (M := M_X1_tellPair) dX1_tellPair_86 rfl ?_
  refine z_getR (M := M_X1_tellPair) (ci := 4) (C := RX1) (T := TX1) (Nf := 11) (ty := tyX1) cl4 dX1_tellPair_87 ly_177 0 (by decide) t_284 rfl ?_
  refine z_bipush (M := M_X1_tellPair) dX1_tellPair_90 (by decide +kernel) ?_
  refine z_aload_n (M := M_X1_tellPair) dX1_tellPair_92 rfl ?_
  refine z_getR (M := M_X1_tellPair) (ci := 4) (C := RX1) (T := TX1) (Nf := 11) (ty := tyX1) cl4 dX1_tellPair_93 ly_177 2 (by decide) t_287 rfl ?_
  refine z_iload_n (M := M_X1_tellPair) dX1_tellPair_96 rfl ?_
  obtain ⟨x_25, x_25_e, hi_26, H⟩ := rd_e H
  refine z_iald (M := M_X1_tellPair) dX1_tellPair_97 ly_185 rfl rfl rfl hi_26 x_25_e ?_
  obtain ⟨σ_27, σ_27_e, hi_28, H⟩ := wa_e H
  refine z_iast (M := M_X1_tellPair) dX1_tellPair_98 ly_178 rfl (by decide +kernel) rfl hi_28 σ_27_e ?_
  refine z_iload_n (M := M_X1_tellPair) dX1_tellPair_99 rfl ?_
  cases H
  exact z_iret (M := M_X1_tellPair) dX1_tellPair_100 rfl (Nat.le_of_ble_eq_true rfl) (Nat.le_of_ble_eq_true rfl) ⟨rfl, rfl⟩
theorem c_X1_pairsFault (hl : l.stackTraces = false) {σ : SG} {part_0 : Int} {r : Int} {σ' : SG}  (H : fJ_pairsFault σ part_0 = some (r, σ')) : en_S l E M_X1_pairsFault 6 0 0 [vr 177, vi part_0] σ (pS (some (vi r)) σ') := by
  unfold fJ_pairsFault at H
  refine z_mk (lv := [some (vr 177), some (vi part_0), none, none, none, none]) m_X1_pairsFault rfl hl (Nat.le_of_ble_eq_true rfl) rfl ?_
  refine z_aload_n (M := M_X1_pairsFault) dX1_pairsFault_0 rfl ?_
  refine z_iload_n (M := M_X1_pairsFault) dX1_pairsFault_1 rfl ?_
  obtain ⟨x_2, hc_1, H⟩ := bd_e H
  refine z_callV (M := M_X1_pairsFault) (M' := M_X1_isEmpty) (as := [vi part_0]) (rest := []) rfl rfl dX1_pairsFault_2 m_X1_isEmpty t_1225 t_1227 s_48 (c_X1_isEmpty hl  hc_1) rfl rfl ly_177 rfl (Nat.le_of_ble_eq_true rfl) (Nat.le_of_ble_eq_true rfl) (Nat.le_of_ble_eq_true rfl) (Nat.le_of_ble_eq_true rfl) ?_
  refine z_st (st' := [zv x_2]) rfl ?_
  rcases if_e H with ⟨h_3, H⟩ | ⟨h_3, H⟩
  · refine z_zeq_f (M := M_X1_pairsFault) (tgt := 10) dX1_pairsFault_5 (by decide) h_3 ?_
    refine z_iconst (M := M_X1_pairsFault) dX1_pairsFault_8 ?_
    cases H
    exact z_iret (M := M_X1_pairsFault) dX1_pairsFault_9 rfl (Nat.le_of_ble_eq_true rfl) (Nat.le_of_ble_eq_true rfl) ⟨rfl, rfl⟩
  · refine z_zeq_t (M := M_X1_pairsFault) (tgt := 10) dX1_pairsFault_5 (by decide) h_3 ?_
    refine z_aload_n (M := M_X1_pairsFault) dX1_pairsFault_10 rfl ?_
    refine z_getR (M := M_X1_pairsFault) (ci := 4) (C := RX1) (T := TX1) (Nf := 11) (ty := tyX1) cl4 dX1_pairsFault_11 ly_177 6 (by decide) t_291 rfl ?_
    refine z_aload_n (M := M_X1_pairsFault) dX1_pairsFault_14 rfl ?_
    refine z_getR (M := M_X1_pairsFault) (ci := 4) (C := RX1) (T := TX1) (Nf := 11) (ty := tyX1) cl4 dX1_pairsFault_15 ly_177 9 (by decide) t_294 rfl ?_
    refine z_iload_n (M := M_X1_pairsFault) dX1_pairsFault_18 rfl ?_
    obtain ⟨x_4, x_4_e, hi_5, H⟩ := rd_e H
    refine z_iald (M := M_X1_pairsFault) dX1_pairsFault_19 ly_191 rfl rfl rfl hi_5 x_4_e ?_
    refine z_iconst (M := M_X1_pairsFault) dX1_pairsFault_20 ?_
    refine z_isub (M := M_X1_pairsFault) dX1_pairsFault_21 ?_
    obtain ⟨x_6, x_6_e, hi_7, H⟩ := rd_e H
    refine z_iald (M := M_X1_pairsFault) dX1_pairsFault_22 ly_189 rfl rfl rfl hi_7 x_6_e ?_
    refine z_istore_n (M := M_X1_pairsFault) (lv' := [some (vr 177), some (vi part_0), some (vi x_6), none, none, none]) dX1_pairsFault_23 (Nat.le_of_ble_eq_true rfl) rfl rfl ?_
    refine z_aload_n (M := M_X1_pairsFault) dX1_pairsFault_24 rfl ?_
    refine z_getR (M := M_X1_pairsFault) (ci := 4) (C := RX1) (T := TX1) (Nf := 11) (ty := tyX1) cl4 dX1_pairsFault_25 ly_177 5 (by decide) t_290 rfl ?_
    refine z_aload_n (M := M_X1_pairsFault) dX1_pairsFault_28 rfl ?_
    refine z_getR (M := M_X1_pairsFault) (ci := 4) (C := RX1) (T := TX1) (Nf := 11) (ty := tyX1) cl4 dX1_pairsFault_29 ly_177 8 (by decide) t_293 rfl ?_
    refine z_iload_n (M := M_X1_pairsFault) dX1_pairsFault_32 rfl ?_
    obtain ⟨x_8, x_8_e, hi_9, H⟩ := rd_e H
    refine z_iald (M := M_X1_pairsFault) dX1_pairsFault_33 ly_190 rfl rfl rfl hi_9 x_8_e ?_
    obtain ⟨x_10, x_10_e, hi_11, H⟩ := rd_e H
    refine z_iald (M := M_X1_pairsFault) dX1_pairsFault_34 ly_188 rfl rfl rfl hi_11 x_10_e ?_
    refine z_istore_n (M := M_X1_pairsFault) (lv' := [some (vr 177), some (vi part_0), some (vi x_6), some (vi x_10), none, none]) dX1_pairsFault_35 (Nat.le_of_ble_eq_true rfl) rfl rfl ?_
    obtain ⟨rl_17, hw_14, hk_15, hk_16⟩ := bx_e H
    have J_59 : ∀ i_57 σ_58, rl_17 = (.inl (i_57, σ_58)) → YY l E M_X1_pairsFault 6 0 0 (pS (some (vi r)) σ') 105 [some (vr 177), some (vi part_0), some (vi x_6), some (vi i_57), none, none] [] σ_58 0 0 := by
      intro i_57 σ_58 e
      have H := hk_15 _ e
      refine z_iconst (M := M_X1_pairsFault) dX1_pairsFault_105 ?_
      cases H
      exact z_iret (M := M_X1_pairsFault) dX1_pairsFault_106 rfl (Nat.le_of_ble_eq_true rfl) (Nat.le_of_ble_eq_true rfl) ⟨rfl, rfl⟩
    refine whl_go hw_14 (fun (i_12, σ_13) => YY l E M_X1_pairsFault 6 0 0 (pS (some (vi r)) σ') 36 [some (vr 177), some (vi part_0), some (vi x_6), some (vi i_12), none, none] [] σ_13 0 0) ?_
    rintro ⟨i_12, σ_13⟩ o_18 H K_19 K_20
    refine z_iload_n (M := M_X1_pairsFault) dX1_pairsFault_36 rfl ?_
    refine z_iload_n (M := M_X1_pairsFault) dX1_pairsFault_37 rfl ?_
    rcases if_e H with ⟨h_21, H⟩ | ⟨h_21, H⟩
    · refine z_icmp_ge_f (M := M_X1_pairsFault) (tgt := 105) dX1_pairsFault_38 (by decide) rfl rfl h_21 ?_
      refine z_iload_n (M := M_X1_pairsFault) dX1_pairsFault_41 rfl ?_
      refine z_iconst (M := M_X1_pairsFault) dX1_pairsFault_42 ?_
      refine z_iadd (M := M_X1_pairsFault) dX1_pairsFault_43 ?_
      refine z_istore (M := M_X1_pairsFault) (lv' := [some (vr 177), some (vi part_0), some (vi x_6), some (vi i_12), some (vi (i_12 + 1)), none]) dX1_pairsFault_44 (Nat.le_of_ble_eq_true rfl) rfl rfl ?_
      obtain ⟨rl_27, hw_24, hk_25, hk_26⟩ := bx_e H
      have J_55 : ∀ j_52 σ_53, rl_27 = (.inl (j_52, σ_53)) → YY l E M_X1_pairsFault 6 0 0 (pS (some (vi r)) σ') 99 [some (vr 177), some (vi part_0), some (vi x_6), some (vi i_12), some (vi j_52), none] [] σ_53 0 0 := by
        intro j_52 σ_53 e
        have H := hk_25 _ e
        refine z_iinc (M := M_X1_pairsFault) (lv' := [some (vr 177), some (vi part_0), some (vi x_6), some (vi (i_12 + 1)), some (vi j_52), none]) dX1_pairsFault_99 rfl (Nat.le_of_ble_eq_true rfl) rfl rfl ?_
        refine z_goto (M := M_X1_pairsFault) (tgt := 36) dX1_pairsFault_102 (by decide) ?_
        refine z_le (lv' := [some (vr 177), some (vi part_0), some (vi x_6), some (vi (i_12 + 1)), none, none]) ⟨Or.inr rfl, Or.inr rfl, Or.inr rfl, Or.inr rfl, Or.inl rfl, Or.inl rfl, trivial⟩ ?_
        exact K_19 _ (Option.some.inj H).symm
      refine whl_go hw_24 (fun (j_22, σ_23) => YY l E M_X1_pairsFault 6 0 0 (pS (some (vi r)) σ') 46 [some (vr 177), some (vi part_0), some (vi x_6), some (vi i_12), some (vi j_22), none] [] σ_23 0 0) ?_
      rintro ⟨j_22, σ_23⟩ o_28 H K_29 K_30
      refine z_iload (M := M_X1_pairsFault) dX1_pairsFault_46 rfl ?_
      refine z_iload_n (M := M_X1_pairsFault) dX1_pairsFault_48 rfl ?_
      rcases if_e H with ⟨h_31, H⟩ | ⟨h_31, H⟩
      · refine z_icmp_ge_f (M := M_X1_pairsFault) (tgt := 99) dX1_pairsFault_49 (by decide) rfl rfl h_31 ?_
        obtain ⟨v_47, he_48, hk_49⟩ := bd_e H
        have J_50 : ∀ x_40 σ_41, v_47 = (x_40, σ_41) → YY l E M_X1_pairsFault 6 0 0 (pS (some (vi r)) σ') 76 [some (vr 177), some (vi part_0), some (vi x_6), some (vi i_12), some (vi j_22), none] [vi x_40] σ_41 0 0 := by
          intro x_40 σ_41 e
          have H := hk_49
          rw [e] at H
          refine z_istore (M := M_X1_pairsFault) (lv' := [some (vr 177), some (vi part_0), some (vi x_6), some (vi i_12), some (vi j_22), some (vi x_40)]) dX1_pairsFault_76 (Nat.le_of_ble_eq_true rfl) rfl rfl ?_
          refine z_iload (M := M_X1_pairsFault) dX1_pairsFault_78 rfl ?_
          rcases if_e H with ⟨h_42, H⟩ | ⟨h_42, H⟩
          · refine z_if_eq_f (M := M_X1_pairsFault) (tgt := 93) dX1_pairsFault_80 (by decide) rfl h_42 ?_
            refine z_aload_n (M := M_X1_pairsFault) dX1_pairsFault_83 rfl ?_
            refine z_iload (M := M_X1_pairsFault) dX1_pairsFault_84 rfl ?_
            refine z_iload_n (M := M_X1_pairsFault) dX1_pairsFault_86 rfl ?_
            refine z_iload (M := M_X1_pairsFault) dX1_pairsFault_87 rfl ?_
            obtain ⟨⟨x_45, σ_44⟩, hc_43, H⟩ := bd_e H
            refine z_callV (M := M_X1_pairsFault) (M' := M_X1_tellPair) (as := [vi x_40, vi i_12, vi j_22]) (rest := []) rfl rfl dX1_pairsFault_89 m_X1_tellPair t_1303 t_1305 s_56 (c_X1_tellPair hl  hc_43) rfl rfl ly_177 rfl (Nat.le_of_ble_eq_true rfl) (Nat.le_of_ble_eq_true rfl) (Nat.le_of_ble_eq_true rfl) (Nat.le_of_ble_eq_true rfl) ?_
            refine z_st (st' := [vi x_45]) rfl ?_
            have H := congrArg some (hk_26 _ ((K_30 _ (Option.some.inj H).symm).symm))
            have H := congrArg some (hk_16 _ ((K_20 _ (Option.some.inj H).symm).symm))
            cases H
            exact z_iret (M := M_X1_pairsFault) dX1_pairsFault_92 rfl (Nat.le_of_ble_eq_true rfl) (Nat.le_of_ble_eq_true rfl) ⟨rfl, rfl⟩
          · refine z_if_eq_t (M := M_X1_pairsFault) (tgt := 93) dX1_pairsFault_80 (by decide) rfl (Decidable.not_not.mp h_42) ?_
            refine z_iinc (M := M_X1_pairsFault) (lv' := [some (vr 177), some (vi part_0), some (vi x_6), some (vi i_12), some (vi (j_22 + 1)), some (vi x_40)]) dX1_pairsFault_93 rfl (Nat.le_of_ble_eq_true rfl) rfl rfl ?_
            refine z_goto (M := M_X1_pairsFault) (tgt := 46) dX1_pairsFault_96 (by decide) ?_
            refine z_le (lv' := [some (vr 177), some (vi part_0), some (vi x_6), some (vi i_12), some (vi (j_22 + 1)), none]) ⟨Or.inr rfl, Or.inr rfl, Or.inr rfl, Or.inr rfl, Or.inr rfl, Or.inl rfl, trivial⟩ ?_
            exact K_29 _ (Option.some.inj H).symm
        have H := he_48
        refine z_aload_n (M := M_X1_pairsFault) dX1_pairsFault_52 rfl ?_
        refine z_getR (M := M_X1_pairsFault) (ci := 4) (C := RX1) (T := TX1) (Nf := 11) (ty := tyX1) cl4 dX1_pairsFault_53 ly_177 1 (by decide) t_286 rfl ?_
        refine z_iload_n (M := M_X1_pairsFault) dX1_pairsFault_56 rfl ?_
        refine z_iload (M := M_X1_pairsFault) dX1_pairsFault_57 rfl ?_
        obtain ⟨x_33, hc_32, H⟩ := bd_e H
        refine z_callV (M := M_X1_pairsFault) (M' := M_X5_areApart) (as := [vi i_12, vi j_22]) (rest := []) rfl rfl dX1_pairsFault_59 m_X5_areApart t_1229 t_1230 t_1231 (c_X5_areApart hl (by decide) hc_32) rfl rfl (ly_G (by decide)) rfl (Nat.le_of_ble_eq_true rfl) (Nat.le_of_ble_eq_true rfl) (Nat.le_of_ble_eq_true rfl) (Nat.le_of_ble_eq_true rfl) ?_
        refine z_st (st' := [zv x_33]) rfl ?_
        rcases if_e H with ⟨h_34, H⟩ | ⟨h_34, H⟩
        · refine z_zeq_f (M := M_X1_pairsFault) (tgt := 69) dX1_pairsFault_62 (by decide) h_34 ?_
          refine z_iconst (M := M_X1_pairsFault) dX1_pairsFault_65 ?_
          refine z_goto (M := M_X1_pairsFault) (tgt := 76) dX1_pairsFault_66 (by decide) ?_
          exact J_50 _ _ (Option.some.inj H).symm
        · refine z_zeq_t (M := M_X1_pairsFault) (tgt := 69) dX1_pairsFault_62 (by decide) h_34 ?_
          refine z_aload_n (M := M_X1_pairsFault) dX1_pairsFault_69 rfl ?_
          refine z_iload_n (M := M_X1_pairsFault) dX1_pairsFault_70 rfl ?_
          refine z_iload (M := M_X1_pairsFault) dX1_pairsFault_71 rfl ?_
          obtain ⟨⟨x_38, σ_37⟩, hc_36, H⟩ := bd_e H
          refine z_callV (M := M_X1_pairsFault) (M' := M_X1_pairFault) (as := [vi i_12, vi j_22]) (rest := []) rfl rfl dX1_pairsFault_73 m_X1_pairFault t_1251 t_1253 s_49 (c_X1_pairFault hl  hc_36) rfl rfl ly_177 rfl (Nat.le_of_ble_eq_true rfl) (Nat.le_of_ble_eq_true rfl) (Nat.le_of_ble_eq_true rfl) (Nat.le_of_ble_eq_true rfl) ?_
          refine z_st (st' := [vi x_38]) rfl ?_
          exact J_50 _ _ (Option.some.inj H).symm
      · refine z_icmp_ge_t (M := M_X1_pairsFault) (tgt := 99) dX1_pairsFault_49 (by decide) rfl rfl (Int.not_lt.mp h_31) ?_
        exact J_55 _ _ (K_30 _ (Option.some.inj H).symm).symm
    · refine z_icmp_ge_t (M := M_X1_pairsFault) (tgt := 105) dX1_pairsFault_38 (by decide) rfl rfl (Int.not_lt.mp h_21) ?_
      exact J_59 _ _ (K_20 _ (Option.some.inj H).symm).symm
theorem c_X1_partPairsFault (hl : l.stackTraces = false) {σ : SG} {parts_0 : Int} {r : Int} {σ' : SG}  (H : fJ_partPairsFault σ parts_0 = some (r, σ')) : en_S l E M_X1_partPairsFault 6 0 0 [vr 177, vi parts_0] σ (pS (some (vi r)) σ') := by
  unfold fJ_partPairsFault at H
  refine z_mk (lv := [some (vr 177), some (vi parts_0), none, none, none, none, none]) m_X1_partPairsFault rfl hl (Nat.le_of_ble_eq_true rfl) rfl ?_
  refine z_iconst (M := M_X1_partPairsFault) dX1_partPairsFault_0 ?_
  refine z_istore_n (M := M_X1_partPairsFault) (lv' := [some (vr 177), some (vi parts_0), some (vi 0), none, none, none, none]) dX1_partPairsFault_1 (Nat.le_of_ble_eq_true rfl) rfl rfl ?_
  obtain ⟨rl_6, hw_3, hk_4, hk_5⟩ := bx_e H
  have J_77 : ∀ part_75 σ_76, rl_6 = (.inl (part_75, σ_76)) → YY l E M_X1_partPairsFault 6 0 0 (pS (some (vi r)) σ') 141 [some (vr 177), some (vi parts_0), some (vi part_75), none, none, none, none] [] σ_76 0 0 := by
    intro part_75 σ_76 e
    have H := hk_4 _ e
    refine z_iconst (M := M_X1_partPairsFault) dX1_partPairsFault_141 ?_
    cases H
    exact z_iret (M := M_X1_partPairsFault) dX1_partPairsFault_142 rfl (Nat.le_of_ble_eq_true rfl) (Nat.le_of_ble_eq_true rfl) ⟨rfl, rfl⟩
  refine whl_go hw_3 (fun (part_1, σ_2) => YY l E M_X1_partPairsFault 6 0 0 (pS (some (vi r)) σ') 2 [some (vr 177), some (vi parts_0), some (vi part_1), none, none, none, none] [] σ_2 0 0) ?_
  rintro ⟨part_1, σ_2⟩ o_7 H K_8 K_9
  refine z_iload_n (M := M_X1_partPairsFault) dX1_partPairsFault_2 rfl ?_
  refine z_iconst (M := M_X1_partPairsFault) dX1_partPairsFault_3 ?_
  refine z_iadd (M := M_X1_partPairsFault) dX1_partPairsFault_4 ?_
  refine z_iload_n (M := M_X1_partPairsFault) dX1_partPairsFault_5 rfl ?_
  rcases if_e H with ⟨h_10, H⟩ | ⟨h_10, H⟩
  · refine z_icmp_ge_f (M := M_X1_partPairsFault) (tgt := 141) dX1_partPairsFault_6 (by decide) rfl rfl h_10 ?_
    refine z_aload_n (M := M_X1_partPairsFault) dX1_partPairsFault_9 rfl ?_
    refine z_iload_n (M := M_X1_partPairsFault) dX1_partPairsFault_10 rfl ?_
    obtain ⟨x_12, hc_11, H⟩ := bd_e H
    refine z_callV (M := M_X1_partPairsFault) (M' := M_X1_isEmpty) (as := [vi part_1]) (rest := []) rfl rfl dX1_partPairsFault_11 m_X1_isEmpty t_1225 t_1227 s_48 (c_X1_isEmpty hl  hc_11) rfl rfl ly_177 rfl (Nat.le_of_ble_eq_true rfl) (Nat.le_of_ble_eq_true rfl) (Nat.le_of_ble_eq_true rfl) (Nat.le_of_ble_eq_true rfl) ?_
    refine z_st (st' := [zv x_12]) rfl ?_
    rcases if_e H with ⟨h_13, H⟩ | ⟨h_13, H⟩
    · refine z_zeq_f (M := M_X1_partPairsFault) (tgt := 20) dX1_partPairsFault_14 (by decide) h_13 ?_
      refine z_goto (M := M_X1_partPairsFault) (tgt := 135) dX1_partPairsFault_17 (by decide) ?_
      refine z_iinc (M := M_X1_partPairsFault) (lv' := [some (vr 177), some (vi parts_0), some (vi (part_1 + 1)), none, none, none, none]) dX1_partPairsFault_135 rfl (Nat.le_of_ble_eq_true rfl) rfl rfl ?_
      refine z_goto (M := M_X1_partPairsFault) (tgt := 2) dX1_partPairsFault_138 (by decide) ?_
      exact K_8 _ (Option.some.inj H).symm
    · refine z_zeq_t (M := M_X1_partPairsFault) (tgt := 20) dX1_partPairsFault_14 (by decide) h_13 ?_
      refine z_aload_n (M := M_X1_partPairsFault) dX1_partPairsFault_20 rfl ?_
      refine z_getR (M := M_X1_partPairsFault) (ci := 4) (C := RX1) (T := TX1) (Nf := 11) (ty := tyX1) cl4 dX1_partPairsFault_21 ly_177 6 (by decide) t_291 rfl ?_
      refine z_aload_n (M := M_X1_partPairsFault) dX1_partPairsFault_24 rfl ?_
      refine z_getR (M := M_X1_partPairsFault) (ci := 4) (C := RX1) (T := TX1) (Nf := 11) (ty := tyX1) cl4 dX1_partPairsFault_25 ly_177 9 (by decide) t_294 rfl ?_
      refine z_iload_n (M := M_X1_partPairsFault) dX1_partPairsFault_28 rfl ?_
      obtain ⟨x_15, x_15_e, hi_16, H⟩ := rd_e H
      refine z_iald (M := M_X1_partPairsFault) dX1_partPairsFault_29 ly_191 rfl rfl rfl hi_16 x_15_e ?_
      refine z_iconst (M := M_X1_partPairsFault) dX1_partPairsFault_30 ?_
      refine z_isub (M := M_X1_partPairsFault) dX1_partPairsFault_31 ?_
      obtain ⟨x_17, x_17_e, hi_18, H⟩ := rd_e H
      refine z_iald (M := M_X1_partPairsFault) dX1_partPairsFault_32 ly_189 rfl rfl rfl hi_18 x_17_e ?_
      refine z_istore_n (M := M_X1_partPairsFault) (lv' := [some (vr 177), some (vi parts_0), some (vi part_1), some (vi x_17), none, none, none]) dX1_partPairsFault_33 (Nat.le_of_ble_eq_true rfl) rfl rfl ?_
      refine z_aload_n (M := M_X1_partPairsFault) dX1_partPairsFault_34 rfl ?_
      refine z_getR (M := M_X1_partPairsFault) (ci := 4) (C := RX1) (T := TX1) (Nf := 11) (ty := tyX1) cl4 dX1_partPairsFault_35 ly_177 5 (by decide) t_290 rfl ?_
      refine z_aload_n (M := M_X1_partPairsFault) dX1_partPairsFault_38 rfl ?_
      refine z_getR (M := M_X1_partPairsFault) (ci := 4) (C := RX1) (T := TX1) (Nf := 11) (ty := tyX1) cl4 dX1_partPairsFault_39 ly_177 8 (by decide) t_293 rfl ?_
      refine z_iload_n (M := M_X1_partPairsFault) dX1_partPairsFault_42 rfl ?_
      obtain ⟨x_19, x_19_e, hi_20, H⟩ := rd_e H
      refine z_iald (M := M_X1_partPairsFault) dX1_partPairsFault_43 ly_190 rfl rfl rfl hi_20 x_19_e ?_
      obtain ⟨x_21, x_21_e, hi_22, H⟩ := rd_e H
      refine z_iald (M := M_X1_partPairsFault) dX1_partPairsFault_44 ly_188 rfl rfl rfl hi_22 x_21_e ?_
      refine z_istore (M := M_X1_partPairsFault) (lv' := [some (vr 177), some (vi parts_0), some (vi part_1), some (vi x_17), some (vi x_21), none, none]) dX1_partPairsFault_45 (Nat.le_of_ble_eq_true rfl) rfl rfl ?_
      obtain ⟨rl_28, hw_25, hk_26, hk_27⟩ := bx_e H
      have J_73 : ∀ i_70 σ_71, rl_28 = (.inl (i_70, σ_71)) → YY l E M_X1_partPairsFault 6 0 0 (pS (some (vi r)) σ') 135 [some (vr 177), some (vi parts_0), some (vi part_1), some (vi x_17), some (vi i_70), none, none] [] σ_71 0 0 := by
        intro i_70 σ_71 e
        have H := hk_26 _ e
        refine z_iinc (M := M_X1_partPairsFault) (lv' := [some (vr 177), some (vi parts_0), some (vi (part_1 + 1)), some (vi x_17), some (vi i_70), none, none]) dX1_partPairsFault_135 rfl (Nat.le_of_ble_eq_true rfl) rfl rfl ?_
        refine z_goto (M := M_X1_partPairsFault) (tgt := 2) dX1_partPairsFault_138 (by decide) ?_
        refine z_le (lv' := [some (vr 177), some (vi parts_0), some (vi (part_1 + 1)), none, none, none, none]) ⟨Or.inr rfl, Or.inr rfl, Or.inr rfl, Or.inl rfl, Or.inl rfl, Or.inl rfl, Or.inl rfl, trivial⟩ ?_
        exact K_8 _ (Option.some.inj H).symm
      refine whl_go hw_25 (fun (i_23, σ_24) => YY l E M_X1_partPairsFault 6 0 0 (pS (some (vi r)) σ') 47 [some (vr 177), some (vi parts_0), some (vi part_1), some (vi x_17), some (vi i_23), none, none] [] σ_24 0 0) ?_
      rintro ⟨i_23, σ_24⟩ o_29 H K_30 K_31
      refine z_iload (M := M_X1_partPairsFault) dX1_partPairsFault_47 rfl ?_
      refine z_iload_n (M := M_X1_partPairsFault) dX1_partPairsFault_49 rfl ?_
      rcases if_e H with ⟨h_32, H⟩ | ⟨h_32, H⟩
      · refine z_icmp_ge_f (M := M_X1_partPairsFault) (tgt := 135) dX1_partPairsFault_50 (by decide) rfl rfl h_32 ?_
        refine z_iload_n (M := M_X1_partPairsFault) dX1_partPairsFault_53 rfl ?_
        refine z_istore (M := M_X1_partPairsFault) (lv' := [some (vr 177), some (vi parts_0), some (vi part_1), some (vi x_17), some (vi i_23), some (vi x_17), none]) dX1_partPairsFault_54 (Nat.le_of_ble_eq_true rfl) rfl rfl ?_
        obtain ⟨rl_38, hw_35, hk_36, hk_37⟩ := bx_e H
        have J_68 : ∀ j_65 σ_66, rl_38 = (.inl (j_65, σ_66)) → YY l E M_X1_partPairsFault 6 0 0 (pS (some (vi r)) σ') 129 [some (vr 177), some (vi parts_0), some (vi part_1), some (vi x_17), some (vi i_23), some (vi j_65), none] [] σ_66 0 0 := by
          intro j_65 σ_66 e
          have H := hk_36 _ e
          refine z_iinc (M := M_X1_partPairsFault) (lv' := [some (vr 177), some (vi parts_0), some (vi part_1), some (vi x_17), some (vi (i_23 + 1)), some (vi j_65), none]) dX1_partPairsFault_129 rfl (Nat.le_of_ble_eq_true rfl) rfl rfl ?_
          refine z_goto (M := M_X1_partPairsFault) (tgt := 47) dX1_partPairsFault_132 (by decide) ?_
          refine z_le (lv' := [some (vr 177), some (vi parts_0), some (vi part_1), some (vi x_17), some (vi (i_23 + 1)), none, none]) ⟨Or.inr rfl, Or.inr rfl, Or.inr rfl, Or.inr rfl, Or.inr rfl, Or.inl rfl, Or.inl rfl, trivial⟩ ?_
          exact K_30 _ (Option.some.inj H).symm
        refine whl_go hw_35 (fun (j_33, σ_34) => YY l E M_X1_partPairsFault 6 0 0 (pS (some (vi r)) σ') 56 [some (vr 177), some (vi parts_0), some (vi part_1), some (vi x_17), some (vi i_23), some (vi j_33), none] [] σ_34 0 0) ?_
        rintro ⟨j_33, σ_34⟩ o_39 H K_40 K_41
        refine z_iload (M := M_X1_partPairsFault) dX1_partPairsFault_56 rfl ?_
        refine z_aload_n (M := M_X1_partPairsFault) dX1_partPairsFault_58 rfl ?_
        refine z_getR (M := M_X1_partPairsFault) (ci := 4) (C := RX1) (T := TX1) (Nf := 11) (ty := tyX1) cl4 dX1_partPairsFault_59 ly_177 1 (by decide) t_286 rfl ?_
        refine z_getI (M := M_X1_partPairsFault) (ci := 8) (C := RX5) (T := TX5) (Nf := 8) (ty := tyX5) cl8 dX1_partPairsFault_62 (ly_G (by decide)) 5 (by decide) t_256 rfl rfl ?_
        rcases if_e H with ⟨h_42, H⟩ | ⟨h_42, H⟩
        · refine z_icmp_ge_f (M := M_X1_partPairsFault) (tgt := 129) dX1_partPairsFault_65 (by decide) rfl rfl h_42 ?_
          obtain ⟨v_60, he_61, hk_62⟩ := bd_e H
          have J_63 : ∀ x_51 σ_52, v_60 = (x_51, σ_52) → YY l E M_X1_partPairsFault 6 0 0 (pS (some (vi r)) σ') 94 [some (vr 177), some (vi parts_0), some (vi part_1), some (vi x_17), some (vi i_23), some (vi j_33), none] [vi x_51] σ_52 0 0 := by
            intro x_51 σ_52 e
            have H := hk_62
            rw [e] at H
            refine z_istore (M := M_X1_partPairsFault) (lv' := [some (vr 177), some (vi parts_0), some (vi part_1), some (vi x_17), some (vi i_23), some (vi j_33), some (vi x_51)]) dX1_partPairsFault_94 (Nat.le_of_ble_eq_true rfl) rfl rfl ?_
            refine z_iload (M := M_X1_partPairsFault) dX1_partPairsFault_96 rfl ?_
            rcases if_e H with ⟨h_53, H⟩ | ⟨h_53, H⟩
            · refine z_if_eq_f (M := M_X1_partPairsFault) (tgt := 123) dX1_partPairsFault_98 (by decide) rfl h_53 ?_
              refine z_aload_n (M := M_X1_partPairsFault) dX1_partPairsFault_101 rfl ?_
              have J_54 : YY l E M_X1_partPairsFault 6 0 0 (pS (some (vi r)) σ') 115 [some (vr 177), some (vi parts_0), some (vi part_1), some (vi x_17), some (vi i_23), some (vi j_33), some (vi x_51)] [vi (if (w32 x_51) = 3 then 9 else 10), vr 177] σ_52 0 0 := by
                refine z_iload (M := M_X1_partPairsFault) dX1_partPairsFault_115 rfl ?_
                refine z_iload (M := M_X1_partPairsFault) dX1_partPairsFault_117 rfl ?_
                obtain ⟨⟨x_57, σ_56⟩, hc_55, H⟩ := bd_e H
                refine z_callV (M := M_X1_partPairsFault) (M' := M_X1_tellPair) (as := [vi (if (w32 x_51) = 3 then 9 else 10), vi i_23, vi j_33]) (rest := []) rfl rfl dX1_partPairsFault_119 m_X1_tellPair t_1303 t_1305 s_56 (c_X1_tellPair hl  hc_55) rfl rfl ly_177 rfl (Nat.le_of_ble_eq_true rfl) (Nat.le_of_ble_eq_true rfl) (Nat.le_of_ble_eq_true rfl) (Nat.le_of_ble_eq_true rfl) ?_
                refine z_st (st' := [vi x_57]) rfl ?_
                have H := congrArg some (hk_37 _ ((K_41 _ (Option.some.inj H).symm).symm))
                have H := congrArg some (hk_27 _ ((K_31 _ (Option.some.inj H).symm).symm))
                have H := congrArg some (hk_5 _ ((K_9 _ (Option.some.inj H).symm).symm))
                cases H
                exact z_iret (M := M_X1_partPairsFault) dX1_partPairsFault_122 rfl (Nat.le_of_ble_eq_true rfl) (Nat.le_of_ble_eq_true rfl) ⟨rfl, rfl⟩
              refine z_iload (M := M_X1_partPairsFault) dX1_partPairsFault_102 rfl ?_
              refine z_iconst (M := M_X1_partPairsFault) dX1_partPairsFault_104 ?_
              by_cases h_58 : (w32 x_51) = 3
              · refine z_icmp_ne_f (M := M_X1_partPairsFault) (tgt := 113) dX1_partPairsFault_105 (by decide) rfl (by decide +kernel) h_58 ?_
                refine z_bipush (M := M_X1_partPairsFault) dX1_partPairsFault_108 (by decide +kernel) ?_
                refine z_goto (M := M_X1_partPairsFault) (tgt := 115) dX1_partPairsFault_110 (by decide) ?_
                exact z_st (by rw [if_pos (c := (w32 x_51) = 3) h_58]) J_54
              · refine z_icmp_ne_t (M := M_X1_partPairsFault) (tgt := 113) dX1_partPairsFault_105 (by decide) rfl (by decide +kernel) h_58 ?_
                refine z_bipush (M := M_X1_partPairsFault) dX1_partPairsFault_113 (by decide +kernel) ?_
                exact z_st (by rw [if_neg (c := (w32 x_51) = 3) h_58]) J_54
            · refine z_if_eq_t (M := M_X1_partPairsFault) (tgt := 123) dX1_partPairsFault_98 (by decide) rfl (Decidable.not_not.mp h_53) ?_
              refine z_iinc (M := M_X1_partPairsFault) (lv' := [some (vr 177), some (vi parts_0), some (vi part_1), some (vi x_17), some (vi i_23), some (vi (j_33 + 1)), some (vi x_51)]) dX1_partPairsFault_123 rfl (Nat.le_of_ble_eq_true rfl) rfl rfl ?_
              refine z_goto (M := M_X1_partPairsFault) (tgt := 56) dX1_partPairsFault_126 (by decide) ?_
              refine z_le (lv' := [some (vr 177), some (vi parts_0), some (vi part_1), some (vi x_17), some (vi i_23), some (vi (j_33 + 1)), none]) ⟨Or.inr rfl, Or.inr rfl, Or.inr rfl, Or.inr rfl, Or.inr rfl, Or.inr rfl, Or.inl rfl, trivial⟩ ?_
              exact K_40 _ (Option.some.inj H).symm
          have H := he_61
          refine z_aload_n (M := M_X1_partPairsFault) dX1_partPairsFault_68 rfl ?_
          refine z_getR (M := M_X1_partPairsFault) (ci := 4) (C := RX1) (T := TX1) (Nf := 11) (ty := tyX1) cl4 dX1_partPairsFault_69 ly_177 1 (by decide) t_286 rfl ?_
          refine z_iload (M := M_X1_partPairsFault) dX1_partPairsFault_72 rfl ?_
          refine z_iload (M := M_X1_partPairsFault) dX1_partPairsFault_74 rfl ?_
          obtain ⟨x_44, hc_43, H⟩ := bd_e H
          refine z_callV (M := M_X1_partPairsFault) (M' := M_X5_areApart) (as := [vi i_23, vi j_33]) (rest := []) rfl rfl dX1_partPairsFault_76 m_X5_areApart t_1229 t_1230 t_1231 (c_X5_areApart hl (by decide) hc_43) rfl rfl (ly_G (by decide)) rfl (Nat.le_of_ble_eq_true rfl) (Nat.le_of_ble_eq_true rfl) (Nat.le_of_ble_eq_true rfl) (Nat.le_of_ble_eq_true rfl) ?_
          refine z_st (st' := [zv x_44]) rfl ?_
          rcases if_e H with ⟨h_45, H⟩ | ⟨h_45, H⟩
          · refine z_zeq_f (M := M_X1_partPairsFault) (tgt := 86) dX1_partPairsFault_79 (by decide) h_45 ?_
            refine z_iconst (M := M_X1_partPairsFault) dX1_partPairsFault_82 ?_
            refine z_goto (M := M_X1_partPairsFault) (tgt := 94) dX1_partPairsFault_83 (by decide) ?_
            exact J_63 _ _ (Option.some.inj H).symm
          · refine z_zeq_t (M := M_X1_partPairsFault) (tgt := 86) dX1_partPairsFault_79 (by decide) h_45 ?_
            refine z_aload_n (M := M_X1_partPairsFault) dX1_partPairsFault_86 rfl ?_
            refine z_iload (M := M_X1_partPairsFault) dX1_partPairsFault_87 rfl ?_
            refine z_iload (M := M_X1_partPairsFault) dX1_partPairsFault_89 rfl ?_
            obtain ⟨⟨x_49, σ_48⟩, hc_47, H⟩ := bd_e H
            refine z_callV (M := M_X1_partPairsFault) (M' := M_X1_pairFault) (as := [vi i_23, vi j_33]) (rest := []) rfl rfl dX1_partPairsFault_91 m_X1_pairFault t_1251 t_1253 s_49 (c_X1_pairFault hl  hc_47) rfl rfl ly_177 rfl (Nat.le_of_ble_eq_true rfl) (Nat.le_of_ble_eq_true rfl) (Nat.le_of_ble_eq_true rfl) (Nat.le_of_ble_eq_true rfl) ?_
            refine z_st (st' := [vi x_49]) rfl ?_
            exact J_63 _ _ (Option.some.inj H).symm
        · refine z_icmp_ge_t (M := M_X1_partPairsFault) (tgt := 129) dX1_partPairsFault_65 (by decide) rfl rfl (Int.not_lt.mp h_42) ?_
          exact J_68 _ _ (K_41 _ (Option.some.inj H).symm).symm
      · refine z_icmp_ge_t (M := M_X1_partPairsFault) (tgt := 135) dX1_partPairsFault_50 (by decide) rfl rfl (Int.not_lt.mp h_32) ?_
        exact J_73 _ _ (K_31 _ (Option.some.inj H).symm).symm
  · refine z_icmp_ge_t (M := M_X1_partPairsFault) (tgt := 141) dX1_partPairsFault_6 (by decide) rfl rfl (Int.not_lt.mp h_10) ?_
    exact J_77 _ _ (K_9 _ (Option.some.inj H).symm).symm
theorem c_X1_hasThreePlaces (hl : l.stackTraces = false) {σ : SG} {shape_0 : Nat} {from_0 : Int} {length_0 : Int} {r : Bool} (h_shape : isS shape_0) (H : fJ_hasThreePlaces σ shape_0 from_0 length_0 = some r) : en_S l E M_X1_hasThreePlaces 2 0 0 [vr shape_0, vi from_0, vi length_0] σ (pS (some (zv r)) σ) := by
  unfold fJ_hasThreePlaces at H
  refine z_mk (lv := [some (vr shape_0), some (vi from_0), some (vi length_0), none, none]) m_X1_hasThreePlaces rfl hl (Nat.le_of_ble_eq_true rfl) rfl ?_
  refine z_iload_n (M := M_X1_hasThreePlaces) dX1_hasThreePlaces_0 rfl ?_
  refine z_istore_n (M := M_X1_hasThreePlaces) (lv' := [some (vr shape_0), some (vi from_0), some (vi length_0), some (vi from_0), none]) dX1_hasThreePlaces_1 (Nat.le_of_ble_eq_true rfl) rfl rfl ?_
  refine z_iload_n (M := M_X1_hasThreePlaces) dX1_hasThreePlaces_2 rfl ?_
  refine z_iconst (M := M_X1_hasThreePlaces) dX1_hasThreePlaces_3 ?_
  refine z_iadd (M := M_X1_hasThreePlaces) dX1_hasThreePlaces_4 ?_
  refine z_istore (M := M_X1_hasThreePlaces) (lv' := [some (vr shape_0), some (vi from_0), some (vi length_0), some (vi from_0), some (vi (from_0 + 1))]) dX1_hasThreePlaces_5 (Nat.le_of_ble_eq_true rfl) rfl rfl ?_
  obtain ⟨rl_6, hw_3, hk_4, hk_5⟩ := bx_e H
  have J_31 : ∀ second_29 i_30, rl_6 = (.inl (second_29, i_30)) → YY l E M_X1_hasThreePlaces 2 0 0 (pS (some (zv r)) σ) 57 [some (vr shape_0), some (vi from_0), some (vi length_0), some (vi second_29), some (vi i_30)] [] σ 0 0 := by
    intro second_29 i_30 e
    have H := hk_4 _ e
    refine z_zconst (M := M_X1_hasThreePlaces) (b := false) dX1_hasThreePlaces_57 rfl ?_
    cases H
    exact z_zret (M := M_X1_hasThreePlaces) dX1_hasThreePlaces_58 rfl (Nat.le_of_ble_eq_true rfl) (Nat.le_of_ble_eq_true rfl) ⟨rfl, rfl⟩
  refine whl_go hw_3 (fun (second_1, i_2) => YY l E M_X1_hasThreePlaces 2 0 0 (pS (some (zv r)) σ) 7 [some (vr shape_0), some (vi from_0), some (vi length_0), some (vi second_1), some (vi i_2)] [] σ 0 0) ?_
  rintro ⟨second_1, i_2⟩ o_7 H K_8 K_9
  refine z_iload (M := M_X1_hasThreePlaces) dX1_hasThreePlaces_7 rfl ?_
  refine z_iload_n (M := M_X1_hasThreePlaces) dX1_hasThreePlaces_9 rfl ?_
  refine z_iload_n (M := M_X1_hasThreePlaces) dX1_hasThreePlaces_10 rfl ?_
  refine z_iadd (M := M_X1_hasThreePlaces) dX1_hasThreePlaces_11 ?_
  rcases if_e H with ⟨h_10, H⟩ | ⟨h_10, H⟩
  · refine z_icmp_ge_f (M := M_X1_hasThreePlaces) (tgt := 57) dX1_hasThreePlaces_12 (by decide) rfl rfl h_10 ?_
    refine z_aload_n (M := M_X1_hasThreePlaces) dX1_hasThreePlaces_15 rfl ?_
    refine z_iload_n (M := M_X1_hasThreePlaces) dX1_hasThreePlaces_16 rfl ?_
    refine z_iload (M := M_X1_hasThreePlaces) dX1_hasThreePlaces_17 rfl ?_
    obtain ⟨x_12, hc_11, H⟩ := bd_e H
    refine z_callV (M := M_X1_hasThreePlaces) (M' := M_X6_areLike) (as := [vi from_0, vi i_2]) (rest := []) rfl rfl dX1_hasThreePlaces_19 m_X6_areLike t_1187 t_1188 t_1189 (c_X6_areLike hl h_shape hc_11) rfl rfl (ly_S h_shape) rfl (Nat.le_of_ble_eq_true rfl) (Nat.le_of_ble_eq_true rfl) (Nat.le_of_ble_eq_true rfl) (Nat.le_of_ble_eq_true rfl) ?_
    refine z_st (st' := [zv x_12]) rfl ?_
    rcases if_e H with ⟨h_13, H⟩ | ⟨h_13, H⟩
    · refine z_zeq_f (M := M_X1_hasThreePlaces) (tgt := 28) dX1_hasThreePlaces_22 (by decide) h_13 ?_
      refine z_goto (M := M_X1_hasThreePlaces) (tgt := 51) dX1_hasThreePlaces_25 (by decide) ?_
      refine z_iinc (M := M_X1_hasThreePlaces) (lv' := [some (vr shape_0), some (vi from_0), some (vi length_0), some (vi second_1), some (vi (i_2 + 1))]) dX1_hasThreePlaces_51 rfl (Nat.le_of_ble_eq_true rfl) rfl rfl ?_
      refine z_goto (M := M_X1_hasThreePlaces) (tgt := 7) dX1_hasThreePlaces_54 (by decide) ?_
      exact K_8 _ (Option.some.inj H).symm
    · refine z_zeq_t (M := M_X1_hasThreePlaces) (tgt := 28) dX1_hasThreePlaces_22 (by decide) h_13 ?_
      obtain ⟨v_18, he_15, hk_16, hk_17⟩ := bx_e H
      have J_27 : ∀ second_25, v_18 = (.inl second_25) → YY l E M_X1_hasThreePlaces 2 0 0 (pS (some (zv r)) σ) 51 [some (vr shape_0), some (vi from_0), some (vi length_0), some (vi second_25), some (vi i_2)] [] σ 0 0 := by
        intro second_25 e
        have H := hk_16 _ e
        refine z_iinc (M := M_X1_hasThreePlaces) (lv' := [some (vr shape_0), some (vi from_0), some (vi length_0), some (vi second_25), some (vi (i_2 + 1))]) dX1_hasThreePlaces_51 rfl (Nat.le_of_ble_eq_true rfl) rfl rfl ?_
        refine z_goto (M := M_X1_hasThreePlaces) (tgt := 7) dX1_hasThreePlaces_54 (by decide) ?_
        exact K_8 _ (Option.some.inj H).symm
      have H := he_15
      refine z_iload_n (M := M_X1_hasThreePlaces) dX1_hasThreePlaces_28 rfl ?_
      refine z_iload_n (M := M_X1_hasThreePlaces) dX1_hasThreePlaces_29 rfl ?_
      rcases if_e H with ⟨h_19, H⟩ | ⟨h_19, H⟩
      · refine z_icmp_ne_f (M := M_X1_hasThreePlaces) (tgt := 39) dX1_hasThreePlaces_30 (by decide) rfl rfl h_19 ?_
        refine z_iload (M := M_X1_hasThreePlaces) dX1_hasThreePlaces_33 rfl ?_
        refine z_istore_n (M := M_X1_hasThreePlaces) (lv' := [some (vr shape_0), some (vi from_0), some (vi length_0), some (vi i_2), some (vi i_2)]) dX1_hasThreePlaces_35 (Nat.le_of_ble_eq_true rfl) rfl rfl ?_
        refine z_goto (M := M_X1_hasThreePlaces) (tgt := 51) dX1_hasThreePlaces_36 (by decide) ?_
        exact J_27 _ (Option.some.inj H).symm
      · refine z_icmp_ne_t (M := M_X1_hasThreePlaces) (tgt := 39) dX1_hasThreePlaces_30 (by decide) rfl rfl h_19 ?_
        refine z_aload_n (M := M_X1_hasThreePlaces) dX1_hasThreePlaces_39 rfl ?_
        refine z_iload_n (M := M_X1_hasThreePlaces) dX1_hasThreePlaces_40 rfl ?_
        refine z_iload (M := M_X1_hasThreePlaces) dX1_hasThreePlaces_41 rfl ?_
        obtain ⟨x_22, hc_21, H⟩ := bd_e H
        refine z_callV (M := M_X1_hasThreePlaces) (M' := M_X6_areLike) (as := [vi second_1, vi i_2]) (rest := []) rfl rfl dX1_hasThreePlaces_43 m_X6_areLike t_1187 t_1188 t_1189 (c_X6_areLike hl h_shape hc_21) rfl rfl (ly_S h_shape) rfl (Nat.le_of_ble_eq_true rfl) (Nat.le_of_ble_eq_true rfl) (Nat.le_of_ble_eq_true rfl) (Nat.le_of_ble_eq_true rfl) ?_
        refine z_st (st' := [zv x_22]) rfl ?_
        rcases if_e H with ⟨h_23, H⟩ | ⟨h_23, H⟩
        · refine z_zne_t (M := M_X1_hasThreePlaces) (tgt := 51) dX1_hasThreePlaces_46 (by decide) h_23 ?_
          exact J_27 _ (Option.some.inj H).symm
        · refine z_zne_f (M := M_X1_hasThreePlaces) (tgt := 51) dX1_hasThreePlaces_46 (by decide) h_23 ?_
          refine z_zconst (M := M_X1_hasThreePlaces) (b := true) dX1_hasThreePlaces_49 rfl ?_
          have H := congrArg some (hk_17 _ (Option.some.inj H).symm)
          have H := congrArg some (hk_5 _ ((K_9 _ (Option.some.inj H).symm).symm))
          cases H
          exact z_zret (M := M_X1_hasThreePlaces) dX1_hasThreePlaces_50 rfl (Nat.le_of_ble_eq_true rfl) (Nat.le_of_ble_eq_true rfl) ⟨rfl, rfl⟩
  · refine z_icmp_ge_t (M := M_X1_hasThreePlaces) (tgt := 57) dX1_hasThreePlaces_12 (by decide) rfl rfl (Int.not_lt.mp h_10) ?_
    exact J_31 _ _ (K_9 _ (Option.some.inj H).symm).symm
theorem c_X6_isClosed (hl : l.stackTraces = false) {σ : SG} {this_0 : Nat} {from_0 : Int} {length_0 : Int} {r : Bool} (h_this : isS this_0) (H : fA_isClosed σ this_0 from_0 length_0 = some r) : en_S l E M_X6_isClosed 2 0 0 [vr this_0, vi from_0, vi length_0] σ (pS (some (zv r)) σ) := by
  unfold fA_isClosed at H
  refine z_mk (lv := [some (vr this_0), some (vi from_0), some (vi length_0)]) m_X6_isClosed rfl hl (Nat.le_of_ble_eq_true rfl) rfl ?_
  obtain ⟨v_9, he_10, hk_11⟩ := bd_e H
  have J_12 : ∀ x_8, v_9 = x_8 → YY l E M_X6_isClosed 2 0 0 (pS (some (zv r)) σ) 22 [some (vr this_0), some (vi from_0), some (vi length_0)] [zv x_8] σ 0 0 := by
    intro x_8 e
    have H := hk_11
    rw [e] at H
    cases H
    exact z_zret (M := M_X6_isClosed) dX6_isClosed_22 rfl (Nat.le_of_ble_eq_true rfl) (Nat.le_of_ble_eq_true rfl) ⟨rfl, rfl⟩
  have H := he_10
  refine z_iload_n (M := M_X6_isClosed) dX6_isClosed_0 rfl ?_
  rcases if_e H with ⟨h_1, H⟩ | ⟨h_1, H⟩
  · refine z_if_le_f (M := M_X6_isClosed) (tgt := 21) dX6_isClosed_1 (by decide) rfl h_1 ?_
    refine z_aload_n (M := M_X6_isClosed) dX6_isClosed_4 rfl ?_
    refine z_iload_n (M := M_X6_isClosed) dX6_isClosed_5 rfl ?_
    refine z_iload_n (M := M_X6_isClosed) dX6_isClosed_6 rfl ?_
    refine z_iload_n (M := M_X6_isClosed) dX6_isClosed_7 rfl ?_
    refine z_iadd (M := M_X6_isClosed) dX6_isClosed_8 ?_
    refine z_iconst (M := M_X6_isClosed) dX6_isClosed_9 ?_
    refine z_isub (M := M_X6_isClosed) dX6_isClosed_10 ?_
    obtain ⟨x_3, hc_2, H⟩ := bd_e H
    refine z_callV (M := M_X6_isClosed) (M' := M_X6_areLike) (as := [vi from_0, vi ((from_0 + length_0) - 1)]) (rest := []) rfl rfl dX6_isClosed_11 m_X6_areLike t_1205 t_1188 t_1189 (c_X6_areLike hl h_this hc_2) rfl rfl (ly_S h_this) rfl (Nat.le_of_ble_eq_true rfl) (Nat.le_of_ble_eq_true rfl) (Nat.le_of_ble_eq_true rfl) (Nat.le_of_ble_eq_true rfl) ?_
    refine z_st (st' := [zv x_3]) rfl ?_
    rcases if_e H with ⟨h_4, H⟩ | ⟨h_4, H⟩
    · refine z_zeq_f (M := M_X6_isClosed) (tgt := 21) dX6_isClosed_14 (by decide) h_4 ?_
      refine z_zconst (M := M_X6_isClosed) (b := true) dX6_isClosed_17 rfl ?_
      refine z_goto (M := M_X6_isClosed) (tgt := 22) dX6_isClosed_18 (by decide) ?_
      exact J_12 _ (Option.some.inj H).symm
    · refine z_zeq_t (M := M_X6_isClosed) (tgt := 21) dX6_isClosed_14 (by decide) h_4 ?_
      refine z_zconst (M := M_X6_isClosed) (b := false) dX6_isClosed_21 rfl ?_
      exact J_12 _ (Option.some.inj H).symm
  · refine z_if_le_t (M := M_X6_isClosed) (tgt := 21) dX6_isClosed_1 (by decide) rfl (Int.not_lt.mp h_1) ?_
    refine z_zconst (M := M_X6_isClosed) (b := false) dX6_isClosed_21 rfl ?_
    exact J_12 _ (Option.some.inj H).symm
theorem c_X1_ringsFault (hl : l.stackTraces = false) {σ : SG} {shape_0 : Nat} {at_0 : Int} {begin_0 : Int} {part_0 : Int} {r : Int} {σ' : SG} (h_shape : isS shape_0) (H : fJ_ringsFault σ shape_0 at_0 begin_0 part_0 = some (r, σ')) : en_S l E M_X1_ringsFault 3 0 0 [vr 177, vr shape_0, vi at_0, vi begin_0, vi part_0] σ (pS (some (vi r)) σ') := by
  unfold fJ_ringsFault at H
  refine z_mk (lv := [some (vr 177), some (vr shape_0), some (vi at_0), some (vi begin_0), some (vi part_0), none, none, none]) m_X1_ringsFault rfl hl (Nat.le_of_ble_eq_true rfl) rfl ?_
  refine z_iload_n (M := M_X1_ringsFault) dX1_ringsFault_0 rfl ?_
  refine z_istore (M := M_X1_ringsFault) (lv' := [some (vr 177), some (vr shape_0), some (vi at_0), some (vi begin_0), some (vi part_0), some (vi begin_0), none, none]) dX1_ringsFault_1 (Nat.le_of_ble_eq_true rfl) rfl rfl ?_
  refine z_iconst (M := M_X1_ringsFault) dX1_ringsFault_3 ?_
  refine z_istore (M := M_X1_ringsFault) (lv' := [some (vr 177), some (vr shape_0), some (vi at_0), some (vi begin_0), some (vi part_0), some (vi begin_0), some (vi 0), none]) dX1_ringsFault_4 (Nat.le_of_ble_eq_true rfl) rfl rfl ?_
  obtain ⟨rl_7, hw_4, hk_5, hk_6⟩ := bx_e H
  have J_33 : ∀ from_30 ring_31 σ_32, rl_7 = (.inl (from_30, ring_31, σ_32)) → YY l E M_X1_ringsFault 3 0 0 (pS (some (vi r)) σ') 80 [some (vr 177), some (vr shape_0), some (vi at_0), some (vi begin_0), some (vi part_0), some (vi from_30), some (vi ring_31), none] [] σ_32 0 0 := by
    intro from_30 ring_31 σ_32 e
    have H := hk_5 _ e
    refine z_iconst (M := M_X1_ringsFault) dX1_ringsFault_80 ?_
    cases H
    exact z_iret (M := M_X1_ringsFault) dX1_ringsFault_81 rfl (Nat.le_of_ble_eq_true rfl) (Nat.le_of_ble_eq_true rfl) ⟨rfl, rfl⟩
  refine whl_go hw_4 (fun (from_1, ring_2, σ_3) => YY l E M_X1_ringsFault 3 0 0 (pS (some (vi r)) σ') 6 [some (vr 177), some (vr shape_0), some (vi at_0), some (vi begin_0), some (vi part_0), some (vi from_1), some (vi ring_2), none] [] σ_3 0 0) ?_
  rintro ⟨from_1, ring_2, σ_3⟩ o_8 H K_9 K_10
  refine z_iload (M := M_X1_ringsFault) dX1_ringsFault_6 rfl ?_
  refine z_aload_n (M := M_X1_ringsFault) dX1_ringsFault_8 rfl ?_
  refine z_iload_n (M := M_X1_ringsFault) dX1_ringsFault_9 rfl ?_
  obtain ⟨x_12, hc_11, H⟩ := bd_e H
  refine z_callV (M := M_X1_ringsFault) (M' := M_X6_rows) (as := [vi at_0]) (rest := [vi ring_2]) rfl rfl dX1_ringsFault_10 m_X6_rows t_1199 t_1075 t_1076 (c_X6_rows hl h_shape hc_11) rfl rfl (ly_S h_shape) rfl (Nat.le_of_ble_eq_true rfl) (Nat.le_of_ble_eq_true rfl) (Nat.le_of_ble_eq_true rfl) (Nat.le_of_ble_eq_true rfl) ?_
  refine z_st (st' := [vi x_12, vi ring_2]) rfl ?_
  rcases if_e H with ⟨h_13, H⟩ | ⟨h_13, H⟩
  · refine z_icmp_ge_f (M := M_X1_ringsFault) (tgt := 80) dX1_ringsFault_13 (by decide) rfl rfl h_13 ?_
    refine z_aload_n (M := M_X1_ringsFault) dX1_ringsFault_16 rfl ?_
    refine z_iload_n (M := M_X1_ringsFault) dX1_ringsFault_17 rfl ?_
    refine z_iload (M := M_X1_ringsFault) dX1_ringsFault_18 rfl ?_
    obtain ⟨x_15, hc_14, H⟩ := bd_e H
    refine z_callV (M := M_X1_ringsFault) (M' := M_X6_rowLength) (as := [vi at_0, vi ring_2]) (rest := []) rfl rfl dX1_ringsFault_20 m_X6_rowLength t_1200 t_1080 t_1081 (c_X6_rowLength hl h_shape hc_14) rfl rfl (ly_S h_shape) rfl (Nat.le_of_ble_eq_true rfl) (Nat.le_of_ble_eq_true rfl) (Nat.le_of_ble_eq_true rfl) (Nat.le_of_ble_eq_true rfl) ?_
    refine z_st (st' := [vi x_15]) rfl ?_
    refine z_istore (M := M_X1_ringsFault) (lv' := [some (vr 177), some (vr shape_0), some (vi at_0), some (vi begin_0), some (vi part_0), some (vi from_1), some (vi ring_2), some (vi x_15)]) dX1_ringsFault_23 (Nat.le_of_ble_eq_true rfl) rfl rfl ?_
    refine z_aload_n (M := M_X1_ringsFault) dX1_ringsFault_25 rfl ?_
    refine z_iload (M := M_X1_ringsFault) dX1_ringsFault_26 rfl ?_
    refine z_iload (M := M_X1_ringsFault) dX1_ringsFault_28 rfl ?_
    obtain ⟨x_17, hc_16, H⟩ := bd_e H
    refine z_callV (M := M_X1_ringsFault) (M' := M_X6_isClosed) (as := [vi from_1, vi x_15]) (rest := []) rfl rfl dX1_ringsFault_30 m_X6_isClosed t_1201 t_1202 t_1203 (c_X6_isClosed hl h_shape hc_16) rfl rfl (ly_S h_shape) rfl (Nat.le_of_ble_eq_true rfl) (Nat.le_of_ble_eq_true rfl) (Nat.le_of_ble_eq_true rfl) (Nat.le_of_ble_eq_true rfl) ?_
    refine z_st (st' := [zv x_17]) rfl ?_
    rcases if_e H with ⟨h_18, H⟩ | ⟨h_18, H⟩
    · refine z_zne_t (M := M_X1_ringsFault) (tgt := 46) dX1_ringsFault_33 (by decide) h_18 ?_
      refine z_aload_n (M := M_X1_ringsFault) dX1_ringsFault_46 rfl ?_
      refine z_iload (M := M_X1_ringsFault) dX1_ringsFault_47 rfl ?_
      refine z_iload (M := M_X1_ringsFault) dX1_ringsFault_49 rfl ?_
      obtain ⟨x_20, hc_19, H⟩ := bd_e H
      refine z_callS (M := M_X1_ringsFault) (M' := M_X1_hasThreePlaces) (as := [vr shape_0, vi from_1, vi x_15]) (rest := []) rfl rfl dX1_ringsFault_51 m_X1_hasThreePlaces t_1210 t_1211 (c_X1_hasThreePlaces hl h_shape hc_19) rfl rfl (Nat.le_of_ble_eq_true rfl) (Nat.le_of_ble_eq_true rfl) (Nat.le_of_ble_eq_true rfl) (Nat.le_of_ble_eq_true rfl) ?_
      refine z_st (st' := [zv x_20]) rfl ?_
      rcases if_e H with ⟨h_21, H⟩ | ⟨h_21, H⟩
      · refine z_zne_t (M := M_X1_ringsFault) (tgt := 67) dX1_ringsFault_54 (by decide) h_21 ?_
        refine z_iload (M := M_X1_ringsFault) dX1_ringsFault_67 rfl ?_
        refine z_iload (M := M_X1_ringsFault) dX1_ringsFault_69 rfl ?_
        refine z_iadd (M := M_X1_ringsFault) dX1_ringsFault_71 ?_
        refine z_istore (M := M_X1_ringsFault) (lv' := [some (vr 177), some (vr shape_0), some (vi at_0), some (vi begin_0), some (vi part_0), some (vi (from_1 + x_15)), some (vi ring_2), some (vi x_15)]) dX1_ringsFault_72 (Nat.le_of_ble_eq_true rfl) rfl rfl ?_
        refine z_iinc (M := M_X1_ringsFault) (lv' := [some (vr 177), some (vr shape_0), some (vi at_0), some (vi begin_0), some (vi part_0), some (vi (from_1 + x_15)), some (vi (ring_2 + 1)), some (vi x_15)]) dX1_ringsFault_74 rfl (Nat.le_of_ble_eq_true rfl) rfl rfl ?_
        refine z_goto (M := M_X1_ringsFault) (tgt := 6) dX1_ringsFault_77 (by decide) ?_
        refine z_le (lv' := [some (vr 177), some (vr shape_0), some (vi at_0), some (vi begin_0), some (vi part_0), some (vi (from_1 + x_15)), some (vi (ring_2 + 1)), none]) ⟨Or.inr rfl, Or.inr rfl, Or.inr rfl, Or.inr rfl, Or.inr rfl, Or.inr rfl, Or.inr rfl, Or.inl rfl, trivial⟩ ?_
        exact K_9 _ (Option.some.inj H).symm
      · refine z_zne_f (M := M_X1_ringsFault) (tgt := 67) dX1_ringsFault_54 (by decide) h_21 ?_
        refine z_aload_n (M := M_X1_ringsFault) dX1_ringsFault_57 rfl ?_
        refine z_iconst (M := M_X1_ringsFault) dX1_ringsFault_58 ?_
        refine z_iload (M := M_X1_ringsFault) dX1_ringsFault_59 rfl ?_
        refine z_iload (M := M_X1_ringsFault) dX1_ringsFault_61 rfl ?_
        obtain ⟨⟨x_25, σ_24⟩, hc_23, H⟩ := bd_e H
        refine z_callV (M := M_X1_ringsFault) (M' := M_X1_tell) (as := [vi 2, vi part_0, vi ring_2]) (rest := []) rfl rfl dX1_ringsFault_63 m_X1_tell t_1206 t_1208 s_45 (c_X1_tell hl  hc_23) rfl rfl ly_177 rfl (Nat.le_of_ble_eq_true rfl) (Nat.le_of_ble_eq_true rfl) (Nat.le_of_ble_eq_true rfl) (Nat.le_of_ble_eq_true rfl) ?_
        refine z_st (st' := [vi x_25]) rfl ?_
        have H := congrArg some (hk_6 _ ((K_10 _ (Option.some.inj H).symm).symm))
        cases H
        exact z_iret (M := M_X1_ringsFault) dX1_ringsFault_66 rfl (Nat.le_of_ble_eq_true rfl) (Nat.le_of_ble_eq_true rfl) ⟨rfl, rfl⟩
    · refine z_zne_f (M := M_X1_ringsFault) (tgt := 46) dX1_ringsFault_33 (by decide) h_18 ?_
      refine z_aload_n (M := M_X1_ringsFault) dX1_ringsFault_36 rfl ?_
      refine z_iconst (M := M_X1_ringsFault) dX1_ringsFault_37 ?_
      refine z_iload (M := M_X1_ringsFault) dX1_ringsFault_38 rfl ?_
      refine z_iload (M := M_X1_ringsFault) dX1_ringsFault_40 rfl ?_
      obtain ⟨⟨x_28, σ_27⟩, hc_26, H⟩ := bd_e H
      refine z_callV (M := M_X1_ringsFault) (M' := M_X1_tell) (as := [vi 1, vi part_0, vi ring_2]) (rest := []) rfl rfl dX1_ringsFault_42 m_X1_tell t_1206 t_1208 s_45 (c_X1_tell hl  hc_26) rfl rfl ly_177 rfl (Nat.le_of_ble_eq_true rfl) (Nat.le_of_ble_eq_true rfl) (Nat.le_of_ble_eq_true rfl) (Nat.le_of_ble_eq_true rfl) ?_
      refine z_st (st' := [vi x_28]) rfl ?_
      have H := congrArg some (hk_6 _ ((K_10 _ (Option.some.inj H).symm).symm))
      cases H
      exact z_iret (M := M_X1_ringsFault) dX1_ringsFault_45 rfl (Nat.le_of_ble_eq_true rfl) (Nat.le_of_ble_eq_true rfl) ⟨rfl, rfl⟩
  · refine z_icmp_ge_t (M := M_X1_ringsFault) (tgt := 80) dX1_ringsFault_13 (by decide) rfl rfl (Int.not_lt.mp h_13) ?_
    exact J_33 _ _ _ (K_10 _ (Option.some.inj H).symm).symm
theorem c_X1_polygonsFault (hl : l.stackTraces = false) {σ : SG} {shape_0 : Nat} {first_0 : Int} {begin_0 : Int} {parts_0 : Int} {r : Int} {σ' : SG} (h_shape : isS shape_0) (H : fJ_polygonsFault σ shape_0 first_0 begin_0 parts_0 = some (r, σ')) : en_S l E M_X1_polygonsFault 7 0 0 [vr 177, vr shape_0, vi first_0, vi begin_0, vi parts_0] σ (pS (some (vi r)) σ') := by
  unfold fJ_polygonsFault at H
  refine z_mk (lv := [some (vr 177), some (vr shape_0), some (vi first_0), some (vi begin_0), some (vi parts_0), none, none, none, none]) m_X1_polygonsFault rfl hl (Nat.le_of_ble_eq_true rfl) rfl ?_
  refine z_aload_n (M := M_X1_polygonsFault) dX1_polygonsFault_0 rfl ?_
  refine z_getR (M := M_X1_polygonsFault) (ci := 4) (C := RX1) (T := TX1) (Nf := 11) (ty := tyX1) cl4 dX1_polygonsFault_1 ly_177 1 (by decide) t_286 rfl ?_
  refine z_iconst (M := M_X1_polygonsFault) dX1_polygonsFault_4 ?_
  obtain ⟨σ_1, σ_1_e, H⟩ := wf_e H
  refine z_putI (M := M_X1_polygonsFault) (ci := 8) (C := RX5) (T := TX5) (Nf := 8) (ty := tyX5) cl8 dX1_polygonsFault_5 (ly_G (by decide)) 5 (by decide) t_256 rfl rfl rfl rfl σ_1_e ?_
  refine z_aload_n (M := M_X1_polygonsFault) dX1_polygonsFault_8 rfl ?_
  refine z_iconst (M := M_X1_polygonsFault) dX1_polygonsFault_9 ?_
  obtain ⟨σ_2, σ_2_e, H⟩ := wf_e H
  refine z_putI (M := M_X1_polygonsFault) (ci := 4) (C := RX1) (T := TX1) (Nf := 11) (ty := tyX1) cl4 dX1_polygonsFault_10 ly_177 7 (by decide) t_292 rfl rfl rfl rfl σ_2_e ?_
  refine z_iload_n (M := M_X1_polygonsFault) dX1_polygonsFault_13 rfl ?_
  refine z_istore (M := M_X1_polygonsFault) (lv' := [some (vr 177), some (vr shape_0), some (vi first_0), some (vi begin_0), some (vi parts_0), some (vi first_0), none, none, none]) dX1_polygonsFault_14 (Nat.le_of_ble_eq_true rfl) rfl rfl ?_
  refine z_iload_n (M := M_X1_polygonsFault) dX1_polygonsFault_16 rfl ?_
  refine z_istore (M := M_X1_polygonsFault) (lv' := [some (vr 177), some (vr shape_0), some (vi first_0), some (vi begin_0), some (vi parts_0), some (vi first_0), some (vi begin_0), none, none]) dX1_polygonsFault_17 (Nat.le_of_ble_eq_true rfl) rfl rfl ?_
  refine z_iconst (M := M_X1_polygonsFault) dX1_polygonsFault_19 ?_
  refine z_istore (M := M_X1_polygonsFault) (lv' := [some (vr 177), some (vr shape_0), some (vi first_0), some (vi begin_0), some (vi parts_0), some (vi first_0), some (vi begin_0), some (vi 0), none]) dX1_polygonsFault_20 (Nat.le_of_ble_eq_true rfl) rfl rfl ?_
  obtain ⟨rl_10, hw_7, hk_8, hk_9⟩ := bx_e H
  have J_93 : ∀ at_86 from_87 part_88 σ_89, rl_10 = (.inl (at_86, from_87, part_88, σ_89)) → YY l E M_X1_polygonsFault 7 0 0 (pS (some (vi r)) σ') 148 [some (vr 177), some (vr shape_0), some (vi first_0), some (vi begin_0), some (vi parts_0), some (vi at_86), some (vi from_87), some (vi part_88), none] [] σ_89 0 0 := by
    intro at_86 from_87 part_88 σ_89 e
    have H := hk_8 _ e
    refine z_aload_n (M := M_X1_polygonsFault) dX1_polygonsFault_148 rfl ?_
    refine z_iload (M := M_X1_polygonsFault) dX1_polygonsFault_149 rfl ?_
    obtain ⟨⟨x_92, σ_91⟩, hc_90, H⟩ := bd_e H
    refine z_callV (M := M_X1_polygonsFault) (M' := M_X1_partPairsFault) (as := [vi parts_0]) (rest := []) rfl rfl dX1_polygonsFault_151 m_X1_partPairsFault t_1350 t_1352 s_65 (c_X1_partPairsFault hl  hc_90) rfl rfl ly_177 rfl (Nat.le_of_ble_eq_true rfl) (Nat.le_of_ble_eq_true rfl) (Nat.le_of_ble_eq_true rfl) (Nat.le_of_ble_eq_true rfl) ?_
    refine z_st (st' := [vi x_92]) rfl ?_
    cases H
    exact z_iret (M := M_X1_polygonsFault) dX1_polygonsFault_154 rfl (Nat.le_of_ble_eq_true rfl) (Nat.le_of_ble_eq_true rfl) ⟨rfl, rfl⟩
  refine whl_go hw_7 (fun (at_3, from_4, part_5, σ_6) => YY l E M_X1_polygonsFault 7 0 0 (pS (some (vi r)) σ') 22 [some (vr 177), some (vr shape_0), some (vi first_0), some (vi begin_0), some (vi parts_0), some (vi at_3), some (vi from_4), some (vi part_5), none] [] σ_6 0 0) ?_
  rintro ⟨at_3, from_4, part_5, σ_6⟩ o_11 H K_12 K_13
  rcases if_e H with ⟨h_79, H⟩ | ⟨h_79, H⟩
  · have J_80 : YY l E M_X1_polygonsFault 7 0 0 (pS (some (vi r)) σ') 40 [some (vr 177), some (vr shape_0), some (vi first_0), some (vi begin_0), some (vi parts_0), some (vi at_3), some (vi from_4), some (vi part_5), none] [] σ_6 0 0 := by
      refine z_aload_n (M := M_X1_polygonsFault) dX1_polygonsFault_40 rfl ?_
      refine z_aload_n (M := M_X1_polygonsFault) dX1_polygonsFault_41 rfl ?_
      refine z_iload (M := M_X1_polygonsFault) dX1_polygonsFault_42 rfl ?_
      refine z_iload (M := M_X1_polygonsFault) dX1_polygonsFault_44 rfl ?_
      refine z_iload (M := M_X1_polygonsFault) dX1_polygonsFault_46 rfl ?_
      obtain ⟨⟨x_16, σ_15⟩, hc_14, H⟩ := bd_e H
      refine z_callV (M := M_X1_polygonsFault) (M' := M_X1_ringsFault) (as := [vr shape_0, vi at_3, vi from_4, vi part_5]) (rest := []) rfl rfl dX1_polygonsFault_48 m_X1_ringsFault t_1195 t_1197 s_44 (c_X1_ringsFault hl h_shape hc_14) rfl rfl ly_177 rfl (Nat.le_of_ble_eq_true rfl) (Nat.le_of_ble_eq_true rfl) (Nat.le_of_ble_eq_true rfl) (Nat.le_of_ble_eq_true rfl) ?_
      refine z_st (st' := [vi x_16]) rfl ?_
      refine z_istore (M := M_X1_polygonsFault) (lv' := [some (vr 177), some (vr shape_0), some (vi first_0), some (vi begin_0), some (vi parts_0), some (vi at_3), some (vi from_4), some (vi part_5), some (vi x_16)]) dX1_polygonsFault_51 (Nat.le_of_ble_eq_true rfl) rfl rfl ?_
      obtain ⟨v_20, he_17, hk_18⟩ := bd_e H
      have J_77 : ∀ fault_29 σ_30, v_20 = (fault_29, σ_30) → YY l E M_X1_polygonsFault 7 0 0 (pS (some (vi r)) σ') 77 [some (vr 177), some (vr shape_0), some (vi first_0), some (vi begin_0), some (vi parts_0), some (vi at_3), some (vi from_4), some (vi part_5), some (vi fault_29)] [] σ_30 0 0 := by
        intro fault_29 σ_30 e
        have H := hk_18
        rw [e] at H
        obtain ⟨v_34, he_31, hk_32⟩ := bd_e H
        have J_76 : ∀ fault_41 σ_42, v_34 = (fault_41, σ_42) → YY l E M_X1_polygonsFault 7 0 0 (pS (some (vi r)) σ') 90 [some (vr 177), some (vr shape_0), some (vi first_0), some (vi begin_0), some (vi parts_0), some (vi at_3), some (vi from_4), some (vi part_5), some (vi fault_41)] [] σ_42 0 0 := by
          intro fault_41 σ_42 e
          have H := hk_32
          rw [e] at H
          obtain ⟨v_46, he_43, hk_44⟩ := bd_e H
          have J_75 : ∀ fault_67 σ_68, v_46 = (fault_67, σ_68) → YY l E M_X1_polygonsFault 7 0 0 (pS (some (vi r)) σ') 115 [some (vr 177), some (vr shape_0), some (vi first_0), some (vi begin_0), some (vi parts_0), some (vi at_3), some (vi from_4), some (vi part_5), some (vi fault_67)] [] σ_68 0 0 := by
            intro fault_67 σ_68 e
            have H := hk_44
            rw [e] at H
            refine z_iload (M := M_X1_polygonsFault) dX1_polygonsFault_115 rfl ?_
            rcases if_e H with ⟨h_69, H⟩ | ⟨h_69, H⟩
            · refine z_if_eq_f (M := M_X1_polygonsFault) (tgt := 123) dX1_polygonsFault_117 (by decide) rfl h_69 ?_
              refine z_iload (M := M_X1_polygonsFault) dX1_polygonsFault_120 rfl ?_
              have H := congrArg some (hk_9 _ ((K_13 _ (Option.some.inj H).symm).symm))
              cases H
              exact z_iret (M := M_X1_polygonsFault) dX1_polygonsFault_122 rfl (Nat.le_of_ble_eq_true rfl) (Nat.le_of_ble_eq_true rfl) ⟨rfl, rfl⟩
            · refine z_if_eq_t (M := M_X1_polygonsFault) (tgt := 123) dX1_polygonsFault_117 (by decide) rfl (Decidable.not_not.mp h_69) ?_
              refine z_iload (M := M_X1_polygonsFault) dX1_polygonsFault_123 rfl ?_
              refine z_aload_n (M := M_X1_polygonsFault) dX1_polygonsFault_125 rfl ?_
              refine z_iload (M := M_X1_polygonsFault) dX1_polygonsFault_126 rfl ?_
              obtain ⟨x_71, hc_70, H⟩ := bd_e H
              refine z_callV (M := M_X1_polygonsFault) (M' := M_X6_pointsAt) (as := [vi at_3]) (rest := [vi from_4]) rfl rfl dX1_polygonsFault_128 m_X6_pointsAt t_1348 t_1097 t_1098 (c_X6_pointsAt hl h_shape hc_70) rfl rfl (ly_S h_shape) rfl (Nat.le_of_ble_eq_true rfl) (Nat.le_of_ble_eq_true rfl) (Nat.le_of_ble_eq_true rfl) (Nat.le_of_ble_eq_true rfl) ?_
              refine z_st (st' := [vi x_71, vi from_4]) rfl ?_
              refine z_iadd (M := M_X1_polygonsFault) dX1_polygonsFault_131 ?_
              refine z_istore (M := M_X1_polygonsFault) (lv' := [some (vr 177), some (vr shape_0), some (vi first_0), some (vi begin_0), some (vi parts_0), some (vi at_3), some (vi (from_4 + x_71)), some (vi part_5), some (vi fault_67)]) dX1_polygonsFault_132 (Nat.le_of_ble_eq_true rfl) rfl rfl ?_
              refine z_aload_n (M := M_X1_polygonsFault) dX1_polygonsFault_134 rfl ?_
              refine z_iload (M := M_X1_polygonsFault) dX1_polygonsFault_135 rfl ?_
              obtain ⟨x_73, hc_72, H⟩ := bd_e H
              refine z_callV (M := M_X1_polygonsFault) (M' := M_X6_behind) (as := [vi at_3]) (rest := []) rfl rfl dX1_polygonsFault_137 m_X6_behind t_1349 t_1107 t_1108 (c_X6_behind hl h_shape hc_72) rfl rfl (ly_S h_shape) rfl (Nat.le_of_ble_eq_true rfl) (Nat.le_of_ble_eq_true rfl) (Nat.le_of_ble_eq_true rfl) (Nat.le_of_ble_eq_true rfl) ?_
              refine z_st (st' := [vi x_73]) rfl ?_
              refine z_istore (M := M_X1_polygonsFault) (lv' := [some (vr 177), some (vr shape_0), some (vi first_0), some (vi begin_0), some (vi parts_0), some (vi x_73), some (vi (from_4 + x_71)), some (vi part_5), some (vi fault_67)]) dX1_polygonsFault_140 (Nat.le_of_ble_eq_true rfl) rfl rfl ?_
              refine z_iinc (M := M_X1_polygonsFault) (lv' := [some (vr 177), some (vr shape_0), some (vi first_0), some (vi begin_0), some (vi parts_0), some (vi x_73), some (vi (from_4 + x_71)), some (vi (part_5 + 1)), some (vi fault_67)]) dX1_polygonsFault_142 rfl (Nat.le_of_ble_eq_true rfl) rfl rfl ?_
              refine z_goto (M := M_X1_polygonsFault) (tgt := 22) dX1_polygonsFault_145 (by decide) ?_
              refine z_le (lv' := [some (vr 177), some (vr shape_0), some (vi first_0), some (vi begin_0), some (vi parts_0), some (vi x_73), some (vi (from_4 + x_71)), some (vi (part_5 + 1)), none]) ⟨Or.inr rfl, Or.inr rfl, Or.inr rfl, Or.inr rfl, Or.inr rfl, Or.inr rfl, Or.inr rfl, Or.inr rfl, Or.inl rfl, trivial⟩ ?_
              exact K_12 _ (Option.some.inj H).symm
          have H := he_43
          refine z_iload (M := M_X1_polygonsFault) dX1_polygonsFault_90 rfl ?_
          rcases if_e H with ⟨h_56, H⟩ | ⟨h_56, H⟩
          · refine z_if_ne_f (M := M_X1_polygonsFault) (tgt := 115) dX1_polygonsFault_92 (by decide) rfl h_56 ?_
            refine z_aload_n (M := M_X1_polygonsFault) dX1_polygonsFault_95 rfl ?_
            refine z_iload (M := M_X1_polygonsFault) dX1_polygonsFault_96 rfl ?_
            obtain ⟨⟨x_59, σ_58⟩, hc_57, H⟩ := bd_e H
            refine z_callV (M := M_X1_polygonsFault) (M' := M_X1_isSplit) (as := [vi part_5]) (rest := []) rfl rfl dX1_polygonsFault_98 m_X1_isSplit t_1332 t_1334 s_61 (c_X1_isSplit hl  hc_57) rfl rfl ly_177 rfl (Nat.le_of_ble_eq_true rfl) (Nat.le_of_ble_eq_true rfl) (Nat.le_of_ble_eq_true rfl) (Nat.le_of_ble_eq_true rfl) ?_
            refine z_st (st' := [zv x_59]) rfl ?_
            rcases if_e H with ⟨h_60, H⟩ | ⟨h_60, H⟩
            · refine z_zeq_f (M := M_X1_polygonsFault) (tgt := 115) dX1_polygonsFault_101 (by decide) h_60 ?_
              refine z_aload_n (M := M_X1_polygonsFault) dX1_polygonsFault_104 rfl ?_
              refine z_bipush (M := M_X1_polygonsFault) dX1_polygonsFault_105 (by decide +kernel) ?_
              refine z_iload (M := M_X1_polygonsFault) dX1_polygonsFault_107 rfl ?_
              refine z_iconst (M := M_X1_polygonsFault) dX1_polygonsFault_109 ?_
              obtain ⟨⟨x_63, σ_62⟩, hc_61, H⟩ := bd_e H
              refine z_callV (M := M_X1_polygonsFault) (M' := M_X1_tell) (as := [vi 8, vi part_5, vi (-1)]) (rest := []) rfl rfl dX1_polygonsFault_110 m_X1_tell t_1206 t_1208 s_45 (c_X1_tell hl  hc_61) rfl rfl ly_177 rfl (Nat.le_of_ble_eq_true rfl) (Nat.le_of_ble_eq_true rfl) (Nat.le_of_ble_eq_true rfl) (Nat.le_of_ble_eq_true rfl) ?_
              refine z_st (st' := [vi x_63]) rfl ?_
              refine z_istore (M := M_X1_polygonsFault) (lv' := [some (vr 177), some (vr shape_0), some (vi first_0), some (vi begin_0), some (vi parts_0), some (vi at_3), some (vi from_4), some (vi part_5), some (vi x_63)]) dX1_polygonsFault_113 (Nat.le_of_ble_eq_true rfl) rfl rfl ?_
              exact J_75 _ _ (Option.some.inj H).symm
            · refine z_zeq_t (M := M_X1_polygonsFault) (tgt := 115) dX1_polygonsFault_101 (by decide) h_60 ?_
              exact J_75 _ _ (Option.some.inj H).symm
          · refine z_if_ne_t (M := M_X1_polygonsFault) (tgt := 115) dX1_polygonsFault_92 (by decide) rfl h_56 ?_
            exact J_75 _ _ (Option.some.inj H).symm
        have H := he_31
        refine z_iload (M := M_X1_polygonsFault) dX1_polygonsFault_77 rfl ?_
        rcases if_e H with ⟨h_35, H⟩ | ⟨h_35, H⟩
        · refine z_if_ne_f (M := M_X1_polygonsFault) (tgt := 90) dX1_polygonsFault_79 (by decide) rfl h_35 ?_
          refine z_aload_n (M := M_X1_polygonsFault) dX1_polygonsFault_82 rfl ?_
          refine z_iload (M := M_X1_polygonsFault) dX1_polygonsFault_83 rfl ?_
          obtain ⟨⟨x_38, σ_37⟩, hc_36, H⟩ := bd_e H
          refine z_callV (M := M_X1_polygonsFault) (M' := M_X1_holesFault) (as := [vi part_5]) (rest := []) rfl rfl dX1_polygonsFault_85 m_X1_holesFault t_1307 t_1309 s_57 (c_X1_holesFault hl  hc_36) rfl rfl ly_177 rfl (Nat.le_of_ble_eq_true rfl) (Nat.le_of_ble_eq_true rfl) (Nat.le_of_ble_eq_true rfl) (Nat.le_of_ble_eq_true rfl) ?_
          refine z_st (st' := [vi x_38]) rfl ?_
          refine z_istore (M := M_X1_polygonsFault) (lv' := [some (vr 177), some (vr shape_0), some (vi first_0), some (vi begin_0), some (vi parts_0), some (vi at_3), some (vi from_4), some (vi part_5), some (vi x_38)]) dX1_polygonsFault_88 (Nat.le_of_ble_eq_true rfl) rfl rfl ?_
          exact J_76 _ _ (Option.some.inj H).symm
        · refine z_if_ne_t (M := M_X1_polygonsFault) (tgt := 90) dX1_polygonsFault_79 (by decide) rfl h_35 ?_
          exact J_76 _ _ (Option.some.inj H).symm
      have H := he_17
      refine z_iload (M := M_X1_polygonsFault) dX1_polygonsFault_53 rfl ?_
      rcases if_e H with ⟨h_21, H⟩ | ⟨h_21, H⟩
      · refine z_if_ne_f (M := M_X1_polygonsFault) (tgt := 77) dX1_polygonsFault_55 (by decide) rfl h_21 ?_
        refine z_aload_n (M := M_X1_polygonsFault) dX1_polygonsFault_58 rfl ?_
        refine z_aload_n (M := M_X1_polygonsFault) dX1_polygonsFault_59 rfl ?_
        refine z_iload (M := M_X1_polygonsFault) dX1_polygonsFault_60 rfl ?_
        refine z_iload (M := M_X1_polygonsFault) dX1_polygonsFault_62 rfl ?_
        refine z_iload (M := M_X1_polygonsFault) dX1_polygonsFault_64 rfl ?_
        obtain ⟨σ_23, hc_22, H⟩ := bd_e H
        refine z_callV (M := M_X1_polygonsFault) (M' := M_X1_layOut) (as := [vr shape_0, vi at_3, vi from_4, vi part_5]) (rest := []) rfl rfl dX1_polygonsFault_66 m_X1_layOut t_1213 t_1215 s_46 (c_X1_layOut hl h_shape hc_22) rfl rfl ly_177 rfl (Nat.le_of_ble_eq_true rfl) (Nat.le_of_ble_eq_true rfl) (Nat.le_of_ble_eq_true rfl) (Nat.le_of_ble_eq_true rfl) ?_
        refine z_st (st' := []) rfl ?_
        refine z_aload_n (M := M_X1_polygonsFault) dX1_polygonsFault_69 rfl ?_
        refine z_iload (M := M_X1_polygonsFault) dX1_polygonsFault_70 rfl ?_
        obtain ⟨⟨x_26, σ_25⟩, hc_24, H⟩ := bd_e H
        refine z_callV (M := M_X1_polygonsFault) (M' := M_X1_pairsFault) (as := [vi part_5]) (rest := []) rfl rfl dX1_polygonsFault_72 m_X1_pairsFault t_1221 t_1223 s_47 (c_X1_pairsFault hl  hc_24) rfl rfl ly_177 rfl (Nat.le_of_ble_eq_true rfl) (Nat.le_of_ble_eq_true rfl) (Nat.le_of_ble_eq_true rfl) (Nat.le_of_ble_eq_true rfl) ?_
        refine z_st (st' := [vi x_26]) rfl ?_
        refine z_istore (M := M_X1_polygonsFault) (lv' := [some (vr 177), some (vr shape_0), some (vi first_0), some (vi begin_0), some (vi parts_0), some (vi at_3), some (vi from_4), some (vi part_5), some (vi x_26)]) dX1_polygonsFault_75 (Nat.le_of_ble_eq_true rfl) rfl rfl ?_
        exact J_77 _ _ (Option.some.inj H).symm
      · refine z_if_ne_t (M := M_X1_polygonsFault) (tgt := 77) dX1_polygonsFault_55 (by decide) rfl h_21 ?_
        exact J_77 _ _ (Option.some.inj H).symm
    refine z_iload (M := M_X1_polygonsFault) dX1_polygonsFault_22 rfl ?_
    refine z_iload (M := M_X1_polygonsFault) dX1_polygonsFault_24 rfl ?_
    by_cases h_82 : (w32 part_5) < (w32 parts_0)
    · refine z_icmp_ge_f (M := M_X1_polygonsFault) (tgt := 148) dX1_polygonsFault_26 (by decide) rfl rfl h_82 ?_
      refine z_iload (M := M_X1_polygonsFault) dX1_polygonsFault_29 rfl ?_
      refine z_iconst (M := M_X1_polygonsFault) dX1_polygonsFault_31 ?_
      refine z_iadd (M := M_X1_polygonsFault) dX1_polygonsFault_32 ?_
      refine z_aload_n (M := M_X1_polygonsFault) dX1_polygonsFault_33 rfl ?_
      refine z_getI (M := M_X1_polygonsFault) (ci := 9) (C := RX6) (T := TX6) (Nf := 5) (ty := tyX6) cl9 dX1_polygonsFault_34 (ly_S h_shape) 3 (by decide) t_73 rfl rfl ?_
      by_cases h_83 : (w32 (at_3 + 1)) < (w32 (σ_6 (kA_plans shape_0) 0))
      · refine z_icmp_ge_f (M := M_X1_polygonsFault) (tgt := 148) dX1_polygonsFault_37 (by decide) rfl rfl h_83 ?_
        exact J_80
      · refine z_icmp_ge_t (M := M_X1_polygonsFault) (tgt := 148) dX1_polygonsFault_37 (by decide) rfl rfl (Int.not_lt.mp h_83) ?_
        exact absurd h_79 (fun q => h_83 q.2)
    · refine z_icmp_ge_t (M := M_X1_polygonsFault) (tgt := 148) dX1_polygonsFault_26 (by decide) rfl rfl (Int.not_lt.mp h_82) ?_
      exact absurd h_79 (fun q => h_82 q.1)
  · have J_81 : YY l E M_X1_polygonsFault 7 0 0 (pS (some (vi r)) σ') 148 [some (vr 177), some (vr shape_0), some (vi first_0), some (vi begin_0), some (vi parts_0), some (vi at_3), some (vi from_4), some (vi part_5), none] [] σ_6 0 0 := by
      exact J_93 _ _ _ _ (K_13 _ (Option.some.inj H).symm).symm
    refine z_iload (M := M_X1_polygonsFault) dX1_polygonsFault_22 rfl ?_
    refine z_iload (M := M_X1_polygonsFault) dX1_polygonsFault_24 rfl ?_
    by_cases h_84 : (w32 part_5) < (w32 parts_0)
    · refine z_icmp_ge_f (M := M_X1_polygonsFault) (tgt := 148) dX1_polygonsFault_26 (by decide) rfl rfl h_84 ?_
      refine z_iload (M := M_X1_polygonsFault) dX1_polygonsFault_29 rfl ?_
      refine z_iconst (M := M_X1_polygonsFault) dX1_polygonsFault_31 ?_
      refine z_iadd (M := M_X1_polygonsFault) dX1_polygonsFault_32 ?_
      refine z_aload_n (M := M_X1_polygonsFault) dX1_polygonsFault_33 rfl ?_
      refine z_getI (M := M_X1_polygonsFault) (ci := 9) (C := RX6) (T := TX6) (Nf := 5) (ty := tyX6) cl9 dX1_polygonsFault_34 (ly_S h_shape) 3 (by decide) t_73 rfl rfl ?_
      by_cases h_85 : (w32 (at_3 + 1)) < (w32 (σ_6 (kA_plans shape_0) 0))
      · refine z_icmp_ge_f (M := M_X1_polygonsFault) (tgt := 148) dX1_polygonsFault_37 (by decide) rfl rfl h_85 ?_
        exact absurd ⟨h_84, h_85⟩ h_79
      · refine z_icmp_ge_t (M := M_X1_polygonsFault) (tgt := 148) dX1_polygonsFault_37 (by decide) rfl rfl (Int.not_lt.mp h_85) ?_
        exact J_81
    · refine z_icmp_ge_t (M := M_X1_polygonsFault) (tgt := 148) dX1_polygonsFault_26 (by decide) rfl rfl (Int.not_lt.mp h_84) ?_
      exact J_81
theorem c_X1_firstFault (hl : l.stackTraces = false) {σ : SG} {shape_0 : Nat} {r : Int} {σ' : SG} (h_shape : isS shape_0) (H : fJ_firstFault σ shape_0 = some (r, σ')) : en_S l E M_X1_firstFault 8 0 0 [vr 177, vr shape_0] σ (pS (some (vi r)) σ') := by
  unfold fJ_firstFault at H
  refine z_mk (lv := [some (vr 177), some (vr shape_0), none, none, none, none, none, none]) m_X1_firstFault rfl hl (Nat.le_of_ble_eq_true rfl) rfl ?_
  refine z_aload_n (M := M_X1_firstFault) dX1_firstFault_0 rfl ?_
  refine z_getR (M := M_X1_firstFault) (ci := 4) (C := RX1) (T := TX1) (Nf := 11) (ty := tyX1) cl4 dX1_firstFault_1 ly_177 0 (by decide) t_284 rfl ?_
  refine z_iconst (M := M_X1_firstFault) dX1_firstFault_4 ?_
  obtain ⟨σ_2, hc_1, H⟩ := bd_e H
  refine z_callS (M := M_X1_firstFault) (M' := M_J7_fill_53178) (as := [vr 178, vi (-1)]) (rest := []) rfl rfl dX1_firstFault_5 m_J7_fill_53178 t_281 t_282 (c_J7_fill_53178 hl ly_178 hc_1) rfl rfl (Nat.le_of_ble_eq_true rfl) (Nat.le_of_ble_eq_true rfl) (Nat.le_of_ble_eq_true rfl) (Nat.le_of_ble_eq_true rfl) ?_
  refine z_st (st' := []) rfl ?_
  refine z_iconst (M := M_X1_firstFault) dX1_firstFault_8 ?_
  refine z_istore_n (M := M_X1_firstFault) (lv' := [some (vr 177), some (vr shape_0), some (vi 0), none, none, none, none, none]) dX1_firstFault_9 (Nat.le_of_ble_eq_true rfl) rfl rfl ?_
  refine z_iconst (M := M_X1_firstFault) dX1_firstFault_10 ?_
  refine z_istore_n (M := M_X1_firstFault) (lv' := [some (vr 177), some (vr shape_0), some (vi 0), some (vi 0), none, none, none, none]) dX1_firstFault_11 (Nat.le_of_ble_eq_true rfl) rfl rfl ?_
  refine z_iconst (M := M_X1_firstFault) dX1_firstFault_12 ?_
  refine z_istore (M := M_X1_firstFault) (lv' := [some (vr 177), some (vr shape_0), some (vi 0), some (vi 0), some (vi 0), none, none, none]) dX1_firstFault_13 (Nat.le_of_ble_eq_true rfl) rfl rfl ?_
  refine z_iconst (M := M_X1_firstFault) dX1_firstFault_15 ?_
  refine z_istore (M := M_X1_firstFault) (lv' := [some (vr 177), some (vr shape_0), some (vi 0), some (vi 0), some (vi 0), some (vi 0), none, none]) dX1_firstFault_16 (Nat.le_of_ble_eq_true rfl) rfl rfl ?_
  obtain ⟨rl_11, hw_8, hk_9, hk_10⟩ := bx_e H
  have J_116 : ∀ from_111 number_112 judged_113 at_114 σ_115, rl_11 = (.inl (from_111, number_112, judged_113, at_114, σ_115)) → YY l E M_X1_firstFault 8 0 0 (pS (some (vi r)) σ') 199 [some (vr 177), some (vr shape_0), some (vi from_111), some (vi number_112), some (vi judged_113), some (vi at_114), none, none] [] σ_115 0 0 := by
    intro from_111 number_112 judged_113 at_114 σ_115 e
    have H := hk_9 _ e
    refine z_iconst (M := M_X1_firstFault) dX1_firstFault_199 ?_
    cases H
    exact z_iret (M := M_X1_firstFault) dX1_firstFault_200 rfl (Nat.le_of_ble_eq_true rfl) (Nat.le_of_ble_eq_true rfl) ⟨rfl, rfl⟩
  refine whl_go hw_8 (fun (from_3, number_4, judged_5, at_6, σ_7) => YY l E M_X1_firstFault 8 0 0 (pS (some (vi r)) σ') 18 [some (vr 177), some (vr shape_0), some (vi from_3), some (vi number_4), some (vi judged_5), some (vi at_6), none, none] [] σ_7 0 0) ?_
  rintro ⟨from_3, number_4, judged_5, at_6, σ_7⟩ o_12 H K_13 K_14
  refine z_iload (M := M_X1_firstFault) dX1_firstFault_18 rfl ?_
  refine z_iconst (M := M_X1_firstFault) dX1_firstFault_20 ?_
  refine z_iadd (M := M_X1_firstFault) dX1_firstFault_21 ?_
  refine z_aload_n (M := M_X1_firstFault) dX1_firstFault_22 rfl ?_
  refine z_getI (M := M_X1_firstFault) (ci := 9) (C := RX6) (T := TX6) (Nf := 5) (ty := tyX6) cl9 dX1_firstFault_23 (ly_S h_shape) 3 (by decide) t_73 rfl rfl ?_
  rcases if_e H with ⟨h_15, H⟩ | ⟨h_15, H⟩
  · refine z_icmp_ge_f (M := M_X1_firstFault) (tgt := 199) dX1_firstFault_26 (by decide) rfl rfl h_15 ?_
    refine z_aload_n (M := M_X1_firstFault) dX1_firstFault_29 rfl ?_
    refine z_getR (M := M_X1_firstFault) (ci := 9) (C := RX6) (T := TX6) (Nf := 5) (ty := tyX6) cl9 dX1_firstFault_30 (ly_S h_shape) 0 (by decide) t_51 rfl ?_
    refine z_iload (M := M_X1_firstFault) dX1_firstFault_33 rfl ?_
    obtain ⟨x_16, x_16_e, hi_17, H⟩ := rd_e H
    refine z_iald (M := M_X1_firstFault) dX1_firstFault_35 (ly_Sp h_shape) rfl rfl rfl hi_17 x_16_e ?_
    refine z_istore (M := M_X1_firstFault) (lv' := [some (vr 177), some (vr shape_0), some (vi from_3), some (vi number_4), some (vi judged_5), some (vi at_6), some (vi x_16), none]) dX1_firstFault_36 (Nat.le_of_ble_eq_true rfl) rfl rfl ?_
    refine z_iconst (M := M_X1_firstFault) dX1_firstFault_38 ?_
    refine z_istore (M := M_X1_firstFault) (lv' := [some (vr 177), some (vr shape_0), some (vi from_3), some (vi number_4), some (vi judged_5), some (vi at_6), some (vi x_16), some (vi 0)]) dX1_firstFault_39 (Nat.le_of_ble_eq_true rfl) rfl rfl ?_
    obtain ⟨v_21, he_18, hk_19⟩ := bd_e H
    have J_109 : ∀ judged_98 fault_99 σ_100, v_21 = (judged_98, fault_99, σ_100) → YY l E M_X1_firstFault 8 0 0 (pS (some (vi r)) σ') 161 [some (vr 177), some (vr shape_0), some (vi from_3), some (vi number_4), some (vi judged_98), some (vi at_6), some (vi x_16), some (vi fault_99)] [] σ_100 0 0 := by
      intro judged_98 fault_99 σ_100 e
      have H := hk_19
      rw [e] at H
      refine z_iload (M := M_X1_firstFault) dX1_firstFault_161 rfl ?_
      rcases if_e H with ⟨h_101, H⟩ | ⟨h_101, H⟩
      · refine z_if_eq_f (M := M_X1_firstFault) (tgt := 176) dX1_firstFault_163 (by decide) rfl h_101 ?_
        refine z_aload_n (M := M_X1_firstFault) dX1_firstFault_166 rfl ?_
        refine z_getR (M := M_X1_firstFault) (ci := 4) (C := RX1) (T := TX1) (Nf := 11) (ty := tyX1) cl4 dX1_firstFault_167 ly_177 0 (by decide) t_284 rfl ?_
        refine z_iconst (M := M_X1_firstFault) dX1_firstFault_170 ?_
        refine z_iload_n (M := M_X1_firstFault) dX1_firstFault_171 rfl ?_
        obtain ⟨σ_102, σ_102_e, hi_103, H⟩ := wa_e H
        refine z_iast (M := M_X1_firstFault) dX1_firstFault_172 ly_178 rfl (by decide +kernel) rfl hi_103 σ_102_e ?_
        refine z_iload (M := M_X1_firstFault) dX1_firstFault_173 rfl ?_
        have H := congrArg some (hk_10 _ ((K_14 _ (Option.some.inj H).symm).symm))
        cases H
        exact z_iret (M := M_X1_firstFault) dX1_firstFault_175 rfl (Nat.le_of_ble_eq_true rfl) (Nat.le_of_ble_eq_true rfl) ⟨rfl, rfl⟩
      · refine z_if_eq_t (M := M_X1_firstFault) (tgt := 176) dX1_firstFault_163 (by decide) rfl (Decidable.not_not.mp h_101) ?_
        refine z_iload_n (M := M_X1_firstFault) dX1_firstFault_176 rfl ?_
        refine z_aload_n (M := M_X1_firstFault) dX1_firstFault_177 rfl ?_
        refine z_iload (M := M_X1_firstFault) dX1_firstFault_178 rfl ?_
        obtain ⟨x_105, hc_104, H⟩ := bd_e H
        refine z_callV (M := M_X1_firstFault) (M' := M_X6_pointsAt) (as := [vi at_6]) (rest := [vi from_3]) rfl rfl dX1_firstFault_180 m_X6_pointsAt t_1348 t_1097 t_1098 (c_X6_pointsAt hl h_shape hc_104) rfl rfl (ly_S h_shape) rfl (Nat.le_of_ble_eq_true rfl) (Nat.le_of_ble_eq_true rfl) (Nat.le_of_ble_eq_true rfl) (Nat.le_of_ble_eq_true rfl) ?_
        refine z_st (st' := [vi x_105, vi from_3]) rfl ?_
        refine z_iadd (M := M_X1_firstFault) dX1_firstFault_183 ?_
        refine z_istore_n (M := M_X1_firstFault) (lv' := [some (vr 177), some (vr shape_0), some (vi (from_3 + x_105)), some (vi number_4), some (vi judged_98), some (vi at_6), some (vi x_16), some (vi fault_99)]) dX1_firstFault_184 (Nat.le_of_ble_eq_true rfl) rfl rfl ?_
        refine z_iinc (M := M_X1_firstFault) (lv' := [some (vr 177), some (vr shape_0), some (vi (from_3 + x_105)), some (vi (number_4 + 1)), some (vi judged_98), some (vi at_6), some (vi x_16), some (vi fault_99)]) dX1_firstFault_185 rfl (Nat.le_of_ble_eq_true rfl) rfl rfl ?_
        refine z_aload_n (M := M_X1_firstFault) dX1_firstFault_188 rfl ?_
        refine z_iload (M := M_X1_firstFault) dX1_firstFault_189 rfl ?_
        obtain ⟨x_107, hc_106, H⟩ := bd_e H
        refine z_callV (M := M_X1_firstFault) (M' := M_X6_behind) (as := [vi at_6]) (rest := []) rfl rfl dX1_firstFault_191 m_X6_behind t_1349 t_1107 t_1108 (c_X6_behind hl h_shape hc_106) rfl rfl (ly_S h_shape) rfl (Nat.le_of_ble_eq_true rfl) (Nat.le_of_ble_eq_true rfl) (Nat.le_of_ble_eq_true rfl) (Nat.le_of_ble_eq_true rfl) ?_
        refine z_st (st' := [vi x_107]) rfl ?_
        refine z_istore (M := M_X1_firstFault) (lv' := [some (vr 177), some (vr shape_0), some (vi (from_3 + x_105)), some (vi (number_4 + 1)), some (vi judged_98), some (vi x_107), some (vi x_16), some (vi fault_99)]) dX1_firstFault_194 (Nat.le_of_ble_eq_true rfl) rfl rfl ?_
        refine z_goto (M := M_X1_firstFault) (tgt := 18) dX1_firstFault_196 (by decide) ?_
        refine z_le (lv' := [some (vr 177), some (vr shape_0), some (vi (from_3 + x_105)), some (vi (number_4 + 1)), some (vi judged_98), some (vi x_107), none, none]) ⟨Or.inr rfl, Or.inr rfl, Or.inr rfl, Or.inr rfl, Or.inr rfl, Or.inr rfl, Or.inl rfl, Or.inl rfl, trivial⟩ ?_
        exact K_13 _ (Option.some.inj H).symm
    have H := he_18
    refine z_iload (M := M_X1_firstFault) dX1_firstFault_41 rfl ?_
    refine z_iconst (M := M_X1_firstFault) dX1_firstFault_43 ?_
    rcases if_e H with ⟨h_22, H⟩ | ⟨h_22, H⟩
    · refine z_icmp_ne_f (M := M_X1_firstFault) (tgt := 74) dX1_firstFault_44 (by decide) rfl (by decide +kernel) h_22 ?_
      obtain ⟨v_32, he_33, hk_34⟩ := bd_e H
      have J_35 : ∀ x_30, v_32 = x_30 → YY l E M_X1_firstFault 8 0 0 (pS (some (vi r)) σ') 69 [some (vr 177), some (vr shape_0), some (vi from_3), some (vi number_4), some (vi judged_5), some (vi at_6), some (vi x_16), some (vi 0)] [vi x_30] σ_7 0 0 := by
        intro x_30 e
        have H := hk_34
        rw [e] at H
        refine z_istore (M := M_X1_firstFault) (lv' := [some (vr 177), some (vr shape_0), some (vi from_3), some (vi number_4), some (vi judged_5), some (vi at_6), some (vi x_16), some (vi x_30)]) dX1_firstFault_69 (Nat.le_of_ble_eq_true rfl) rfl rfl ?_
        refine z_goto (M := M_X1_firstFault) (tgt := 161) dX1_firstFault_71 (by decide) ?_
        exact J_109 _ _ _ (Option.some.inj H).symm
      have H := he_33
      refine z_aload_n (M := M_X1_firstFault) dX1_firstFault_47 rfl ?_
      refine z_iload_n (M := M_X1_firstFault) dX1_firstFault_48 rfl ?_
      refine z_aload_n (M := M_X1_firstFault) dX1_firstFault_49 rfl ?_
      refine z_getR (M := M_X1_firstFault) (ci := 9) (C := RX6) (T := TX6) (Nf := 5) (ty := tyX6) cl9 dX1_firstFault_50 (ly_S h_shape) 0 (by decide) t_51 rfl ?_
      refine z_iload (M := M_X1_firstFault) dX1_firstFault_53 rfl ?_
      refine z_iconst (M := M_X1_firstFault) dX1_firstFault_55 ?_
      refine z_iadd (M := M_X1_firstFault) dX1_firstFault_56 ?_
      obtain ⟨x_23, x_23_e, hi_24, H⟩ := rd_e H
      refine z_iald (M := M_X1_firstFault) dX1_firstFault_57 (ly_Sp h_shape) rfl rfl rfl hi_24 x_23_e ?_
      obtain ⟨x_26, hc_25, H⟩ := bd_e H
      refine z_callS (M := M_X1_firstFault) (M' := M_X1_isOfOnePlace) (as := [vr shape_0, vi from_3, vi x_23]) (rest := []) rfl rfl dX1_firstFault_58 m_X1_isOfOnePlace t_1184 t_1185 (c_X1_isOfOnePlace hl h_shape hc_25) rfl rfl (Nat.le_of_ble_eq_true rfl) (Nat.le_of_ble_eq_true rfl) (Nat.le_of_ble_eq_true rfl) (Nat.le_of_ble_eq_true rfl) ?_
      refine z_st (st' := [zv x_26]) rfl ?_
      rcases if_e H with ⟨h_27, H⟩ | ⟨h_27, H⟩
      · refine z_zeq_f (M := M_X1_firstFault) (tgt := 68) dX1_firstFault_61 (by decide) h_27 ?_
        refine z_iconst (M := M_X1_firstFault) dX1_firstFault_64 ?_
        refine z_goto (M := M_X1_firstFault) (tgt := 69) dX1_firstFault_65 (by decide) ?_
        exact J_35 _ (Option.some.inj H).symm
      · refine z_zeq_t (M := M_X1_firstFault) (tgt := 68) dX1_firstFault_61 (by decide) h_27 ?_
        refine z_iconst (M := M_X1_firstFault) dX1_firstFault_68 ?_
        exact J_35 _ (Option.some.inj H).symm
    · refine z_icmp_ne_t (M := M_X1_firstFault) (tgt := 74) dX1_firstFault_44 (by decide) rfl (by decide +kernel) h_22 ?_
      obtain ⟨v_39, he_36, hk_37⟩ := bd_e H
      have J_97 : ∀ judged_93 fault_94 σ_95, v_39 = (judged_93, fault_94, σ_95) → YY l E M_X1_firstFault 8 0 0 (pS (some (vi r)) σ') 161 [some (vr 177), some (vr shape_0), some (vi from_3), some (vi number_4), some (vi judged_93), some (vi at_6), some (vi x_16), some (vi fault_94)] [] σ_95 0 0 := by
        intro judged_93 fault_94 σ_95 e
        have H := hk_37
        rw [e] at H
        exact J_109 _ _ _ (Option.some.inj H).symm
      have H := he_36
      refine z_iload (M := M_X1_firstFault) dX1_firstFault_74 rfl ?_
      refine z_bipush (M := M_X1_firstFault) dX1_firstFault_76 (by decide +kernel) ?_
      rcases if_e H with ⟨h_40, H⟩ | ⟨h_40, H⟩
      · refine z_icmp_ne_f (M := M_X1_firstFault) (tgt := 127) dX1_firstFault_78 (by decide) rfl (by decide +kernel) h_40 ?_
        refine z_aload_n (M := M_X1_firstFault) dX1_firstFault_81 rfl ?_
        refine z_getR (M := M_X1_firstFault) (ci := 9) (C := RX6) (T := TX6) (Nf := 5) (ty := tyX6) cl9 dX1_firstFault_82 (ly_S h_shape) 0 (by decide) t_51 rfl ?_
        refine z_iload (M := M_X1_firstFault) dX1_firstFault_85 rfl ?_
        refine z_iconst (M := M_X1_firstFault) dX1_firstFault_87 ?_
        refine z_iadd (M := M_X1_firstFault) dX1_firstFault_88 ?_
        obtain ⟨x_41, x_41_e, hi_42, H⟩ := rd_e H
        refine z_iald (M := M_X1_firstFault) dX1_firstFault_89 (ly_Sp h_shape) rfl rfl rfl hi_42 x_41_e ?_
        refine z_istore (M := M_X1_firstFault) (lv' := [some (vr 177), some (vr shape_0), some (vi from_3), some (vi number_4), some (vi x_41), some (vi at_6), some (vi x_16), some (vi 0)]) dX1_firstFault_90 (Nat.le_of_ble_eq_true rfl) rfl rfl ?_
        refine z_aload_n (M := M_X1_firstFault) dX1_firstFault_92 rfl ?_
        refine z_aload_n (M := M_X1_firstFault) dX1_firstFault_93 rfl ?_
        refine z_iload (M := M_X1_firstFault) dX1_firstFault_94 rfl ?_
        refine z_iconst (M := M_X1_firstFault) dX1_firstFault_96 ?_
        refine z_iadd (M := M_X1_firstFault) dX1_firstFault_97 ?_
        refine z_iload_n (M := M_X1_firstFault) dX1_firstFault_98 rfl ?_
        refine z_iload (M := M_X1_firstFault) dX1_firstFault_99 rfl ?_
        obtain ⟨⟨x_45, σ_44⟩, hc_43, H⟩ := bd_e H
        refine z_callV (M := M_X1_firstFault) (M' := M_X1_polygonsFault) (as := [vr shape_0, vi (at_6 + 2), vi from_3, vi x_41]) (rest := []) rfl rfl dX1_firstFault_101 m_X1_polygonsFault t_1191 t_1193 s_43 (c_X1_polygonsFault hl h_shape hc_43) rfl rfl ly_177 rfl (Nat.le_of_ble_eq_true rfl) (Nat.le_of_ble_eq_true rfl) (Nat.le_of_ble_eq_true rfl) (Nat.le_of_ble_eq_true rfl) ?_
        refine z_st (st' := [vi x_45]) rfl ?_
        refine z_istore (M := M_X1_firstFault) (lv' := [some (vr 177), some (vr shape_0), some (vi from_3), some (vi number_4), some (vi x_41), some (vi at_6), some (vi x_16), some (vi x_45)]) dX1_firstFault_104 (Nat.le_of_ble_eq_true rfl) rfl rfl ?_
        obtain ⟨v_58, he_59, hk_60⟩ := bd_e H
        have J_61 : ∀ x_55 σ_56, v_58 = (x_55, σ_56) → YY l E M_X1_firstFault 8 0 0 (pS (some (vi r)) σ') 122 [some (vr 177), some (vr shape_0), some (vi from_3), some (vi number_4), some (vi x_41), some (vi at_6), some (vi x_16), some (vi x_45)] [vi x_55] σ_56 0 0 := by
          intro x_55 σ_56 e
          have H := hk_60
          rw [e] at H
          refine z_istore (M := M_X1_firstFault) (lv' := [some (vr 177), some (vr shape_0), some (vi from_3), some (vi number_4), some (vi x_41), some (vi at_6), some (vi x_16), some (vi x_55)]) dX1_firstFault_122 (Nat.le_of_ble_eq_true rfl) rfl rfl ?_
          refine z_goto (M := M_X1_firstFault) (tgt := 161) dX1_firstFault_124 (by decide) ?_
          exact J_97 _ _ _ (Option.some.inj H).symm
        have H := he_59
        refine z_iload (M := M_X1_firstFault) dX1_firstFault_106 rfl ?_
        rcases if_e H with ⟨h_49, H⟩ | ⟨h_49, H⟩
        · refine z_if_eq_f (M := M_X1_firstFault) (tgt := 116) dX1_firstFault_108 (by decide) rfl h_49 ?_
          refine z_iload (M := M_X1_firstFault) dX1_firstFault_111 rfl ?_
          refine z_goto (M := M_X1_firstFault) (tgt := 122) dX1_firstFault_113 (by decide) ?_
          exact J_61 _ _ (Option.some.inj H).symm
        · refine z_if_eq_t (M := M_X1_firstFault) (tgt := 116) dX1_firstFault_108 (by decide) rfl (Decidable.not_not.mp h_49) ?_
          refine z_aload_n (M := M_X1_firstFault) dX1_firstFault_116 rfl ?_
          refine z_iload (M := M_X1_firstFault) dX1_firstFault_117 rfl ?_
          obtain ⟨⟨x_53, σ_52⟩, hc_51, H⟩ := bd_e H
          refine z_callV (M := M_X1_firstFault) (M' := M_X1_innerFault) (as := [vi x_41]) (rest := []) rfl rfl dX1_firstFault_119 m_X1_innerFault t_1354 t_1356 s_66 (c_X1_innerFault hl  hc_51) rfl rfl ly_177 rfl (Nat.le_of_ble_eq_true rfl) (Nat.le_of_ble_eq_true rfl) (Nat.le_of_ble_eq_true rfl) (Nat.le_of_ble_eq_true rfl) ?_
          refine z_st (st' := [vi x_53]) rfl ?_
          exact J_61 _ _ (Option.some.inj H).symm
      · refine z_icmp_ne_t (M := M_X1_firstFault) (tgt := 127) dX1_firstFault_78 (by decide) rfl (by decide +kernel) h_40 ?_
        obtain ⟨v_65, he_62, hk_63⟩ := bd_e H
        have J_92 : ∀ judged_88 fault_89 σ_90, v_65 = (judged_88, fault_89, σ_90) → YY l E M_X1_firstFault 8 0 0 (pS (some (vi r)) σ') 161 [some (vr 177), some (vr shape_0), some (vi from_3), some (vi number_4), some (vi judged_88), some (vi at_6), some (vi x_16), some (vi fault_89)] [] σ_90 0 0 := by
          intro judged_88 fault_89 σ_90 e
          have H := hk_63
          rw [e] at H
          exact J_97 _ _ _ (Option.some.inj H).symm
        have H := he_62
        rcases if_e H with ⟨h_81, H⟩ | ⟨h_81, H⟩
        · have J_82 : YY l E M_X1_firstFault 8 0 0 (pS (some (vi r)) σ') 138 [some (vr 177), some (vr shape_0), some (vi from_3), some (vi number_4), some (vi judged_5), some (vi at_6), some (vi x_16), some (vi 0)] [] σ_7 0 0 := by
            refine z_iinc (M := M_X1_firstFault) (lv' := [some (vr 177), some (vr shape_0), some (vi from_3), some (vi number_4), some (vi (judged_5 + (-1))), some (vi at_6), some (vi x_16), some (vi 0)]) dX1_firstFault_138 rfl (Nat.le_of_ble_eq_true rfl) rfl rfl ?_
            refine z_goto (M := M_X1_firstFault) (tgt := 161) dX1_firstFault_141 (by decide) ?_
            exact J_92 _ _ _ (Option.some.inj H).symm
          refine z_iload (M := M_X1_firstFault) dX1_firstFault_127 rfl ?_
          refine z_iconst (M := M_X1_firstFault) dX1_firstFault_129 ?_
          by_cases h_84 : (w32 x_16) = 3
          · refine z_icmp_ne_f (M := M_X1_firstFault) (tgt := 144) dX1_firstFault_130 (by decide) rfl (by decide +kernel) h_84 ?_
            refine z_iload (M := M_X1_firstFault) dX1_firstFault_133 rfl ?_
            by_cases h_85 : 0 < (w32 judged_5)
            · refine z_if_le_f (M := M_X1_firstFault) (tgt := 144) dX1_firstFault_135 (by decide) rfl h_85 ?_
              exact J_82
            · refine z_if_le_t (M := M_X1_firstFault) (tgt := 144) dX1_firstFault_135 (by decide) rfl (Int.not_lt.mp h_85) ?_
              exact absurd h_81 (fun q => h_85 q.2)
          · refine z_icmp_ne_t (M := M_X1_firstFault) (tgt := 144) dX1_firstFault_130 (by decide) rfl (by decide +kernel) h_84 ?_
            exact absurd h_81 (fun q => h_84 q.1)
        · have J_83 : YY l E M_X1_firstFault 8 0 0 (pS (some (vi r)) σ') 144 [some (vr 177), some (vr shape_0), some (vi from_3), some (vi number_4), some (vi judged_5), some (vi at_6), some (vi x_16), some (vi 0)] [] σ_7 0 0 := by
            obtain ⟨v_70, he_67, hk_68⟩ := bd_e H
            have J_80 : ∀ fault_77 σ_78, v_70 = (fault_77, σ_78) → YY l E M_X1_firstFault 8 0 0 (pS (some (vi r)) σ') 161 [some (vr 177), some (vr shape_0), some (vi from_3), some (vi number_4), some (vi judged_5), some (vi at_6), some (vi x_16), some (vi fault_77)] [] σ_78 0 0 := by
              intro fault_77 σ_78 e
              have H := hk_68
              rw [e] at H
              exact J_92 _ _ _ (Option.some.inj H).symm
            have H := he_67
            refine z_iload (M := M_X1_firstFault) dX1_firstFault_144 rfl ?_
            refine z_iconst (M := M_X1_firstFault) dX1_firstFault_146 ?_
            rcases if_e H with ⟨h_71, H⟩ | ⟨h_71, H⟩
            · refine z_icmp_ne_f (M := M_X1_firstFault) (tgt := 161) dX1_firstFault_147 (by decide) rfl (by decide +kernel) h_71 ?_
              refine z_aload_n (M := M_X1_firstFault) dX1_firstFault_150 rfl ?_
              refine z_aload_n (M := M_X1_firstFault) dX1_firstFault_151 rfl ?_
              refine z_iload (M := M_X1_firstFault) dX1_firstFault_152 rfl ?_
              refine z_iload_n (M := M_X1_firstFault) dX1_firstFault_154 rfl ?_
              refine z_iconst (M := M_X1_firstFault) dX1_firstFault_155 ?_
              obtain ⟨⟨x_74, σ_73⟩, hc_72, H⟩ := bd_e H
              refine z_callV (M := M_X1_firstFault) (M' := M_X1_polygonsFault) (as := [vr shape_0, vi at_6, vi from_3, vi 1]) (rest := []) rfl rfl dX1_firstFault_156 m_X1_polygonsFault t_1191 t_1193 s_43 (c_X1_polygonsFault hl h_shape hc_72) rfl rfl ly_177 rfl (Nat.le_of_ble_eq_true rfl) (Nat.le_of_ble_eq_true rfl) (Nat.le_of_ble_eq_true rfl) (Nat.le_of_ble_eq_true rfl) ?_
              refine z_st (st' := [vi x_74]) rfl ?_
              refine z_istore (M := M_X1_firstFault) (lv' := [some (vr 177), some (vr shape_0), some (vi from_3), some (vi number_4), some (vi judged_5), some (vi at_6), some (vi x_16), some (vi x_74)]) dX1_firstFault_159 (Nat.le_of_ble_eq_true rfl) rfl rfl ?_
              exact J_80 _ _ (Option.some.inj H).symm
            · refine z_icmp_ne_t (M := M_X1_firstFault) (tgt := 161) dX1_firstFault_147 (by decide) rfl (by decide +kernel) h_71 ?_
              exact J_80 _ _ (Option.some.inj H).symm
          refine z_iload (M := M_X1_firstFault) dX1_firstFault_127 rfl ?_
          refine z_iconst (M := M_X1_firstFault) dX1_firstFault_129 ?_
          by_cases h_86 : (w32 x_16) = 3
          · refine z_icmp_ne_f (M := M_X1_firstFault) (tgt := 144) dX1_firstFault_130 (by decide) rfl (by decide +kernel) h_86 ?_
            refine z_iload (M := M_X1_firstFault) dX1_firstFault_133 rfl ?_
            by_cases h_87 : 0 < (w32 judged_5)
            · refine z_if_le_f (M := M_X1_firstFault) (tgt := 144) dX1_firstFault_135 (by decide) rfl h_87 ?_
              exact absurd ⟨h_86, h_87⟩ h_81
            · refine z_if_le_t (M := M_X1_firstFault) (tgt := 144) dX1_firstFault_135 (by decide) rfl (Int.not_lt.mp h_87) ?_
              exact J_83
          · refine z_icmp_ne_t (M := M_X1_firstFault) (tgt := 144) dX1_firstFault_130 (by decide) rfl (by decide +kernel) h_86 ?_
            exact J_83
  · refine z_icmp_ge_t (M := M_X1_firstFault) (tgt := 199) dX1_firstFault_26 (by decide) rfl rfl (Int.not_lt.mp h_15) ?_
    exact J_116 _ _ _ _ _ (K_14 _ (Option.some.inj H).symm).symm
theorem c_X11_judge (hl : l.stackTraces = false) {σ : SG} {slot_0 : Int} {r : Int ⊕ Nat} {σ' : SG}  (H : fQ_judge σ slot_0 = some (r, σ')) : en_S l E M_X11_judge 9 2 12 [vr 32, vi slot_0] σ (pT (riT r) σ') := by
  unfold fQ_judge at H
  refine z_mk (lv := [some (vr 32), some (vi slot_0), none]) m_X11_judge rfl hl (Nat.le_of_ble_eq_true rfl) rfl ?_
  refine z_aload_n (M := M_X11_judge) dX11_judge_0 rfl ?_
  refine z_iload_n (M := M_X11_judge) dX11_judge_1 rfl ?_
  obtain ⟨z_16, σ_2, hc_1, K_4, K_5⟩ := bt_e H
  rcases z_16 with x_3 | z_16
  · have H := K_4 _ rfl
    refine z_callV (M := M_X11_judge) (M' := M_X11_slotNumbered) (as := [vi slot_0]) (rest := []) rfl rfl dX11_judge_2 m_X11_slotNumbered t_744 t_746 s_2 (v := some (vr x_3)) (c_X11_slotNumbered hl  hc_1) rfl rfl ly_32 rfl (Nat.le_of_ble_eq_true rfl) (Nat.le_of_ble_eq_true rfl) (Nat.le_of_ble_eq_true rfl) (Nat.le_of_ble_eq_true rfl) ?_
    refine z_st (st' := [vr x_3]) rfl ?_
    obtain ⟨hs_6, H⟩ := ck_e H
    refine z_astore_n (M := M_X11_judge) (lv' := [some (vr 32), some (vi slot_0), some (vr x_3)]) dX11_judge_5 (Nat.le_of_ble_eq_true rfl) rfl rfl ?_
    refine z_aload_n (M := M_X11_judge) dX11_judge_6 rfl ?_
    obtain ⟨z_15, σ_8, hc_7, K_10, K_11⟩ := bt_e H
    rcases z_15 with x_9 | z_15
    · have H := K_10 _ rfl
      refine z_callS (M := M_X11_judge) (M' := M_X11_mustBeThere) (as := [vr x_3]) (rest := []) rfl rfl dX11_judge_7 m_X11_mustBeThere t_1047 t_1048 (v := none) (c_X11_mustBeThere hl hs_6 hc_7) rfl rfl (Nat.le_of_ble_eq_true rfl) (Nat.le_of_ble_eq_true rfl) (Nat.le_of_ble_eq_true rfl) (Nat.le_of_ble_eq_true rfl) ?_
      refine z_st (st' := []) rfl ?_
      refine z_aload_n (M := M_X11_judge) dX11_judge_10 rfl ?_
      refine z_getR (M := M_X11_judge) (ci := 14) (C := RX11) (T := TX11) (Nf := 19) (ty := tyX11) cl14 dX11_judge_11 ly_32 9 (by decide) t_572 rfl ?_
      refine z_aload_n (M := M_X11_judge) dX11_judge_14 rfl ?_
      obtain ⟨⟨x_14, σ_13⟩, hc_12, H⟩ := bd_e H
      refine z_callV (M := M_X11_judge) (M' := M_X1_firstFault) (as := [vr x_3]) (rest := []) rfl rfl dX11_judge_15 m_X1_firstFault t_1180 t_1181 t_1182 (c_X1_firstFault hl hs_6 hc_12) rfl rfl ly_177 rfl (Nat.le_of_ble_eq_true rfl) (Nat.le_of_ble_eq_true rfl) (Nat.le_of_ble_eq_true rfl) (Nat.le_of_ble_eq_true rfl) ?_
      refine z_st (st' := [vi x_14]) rfl ?_
      cases H
      exact z_iret (M := M_X11_judge) dX11_judge_18 rfl (Nat.le_of_ble_eq_true rfl) (Nat.le_of_ble_eq_true rfl) ⟨rfl, rfl⟩
    · have H := K_11 _ rfl
      cases H
      exact z_callSX (M := M_X11_judge) (M' := M_X11_mustBeThere) (as := [vr x_3]) (rest := []) rfl rfl dX11_judge_7 m_X11_mustBeThere t_1047 t_1048 (e := z_15) (c_X11_mustBeThere hl hs_6 hc_7) rfl rfl (Nat.le_of_ble_eq_true rfl) (Nat.le_of_ble_eq_true rfl) (Nat.le_of_ble_eq_true rfl) (Nat.le_of_ble_eq_true rfl) ⟨rfl, rfl⟩
  · have H := K_5 _ rfl
    cases H
    exact z_callVX (M := M_X11_judge) (M' := M_X11_slotNumbered) (as := [vi slot_0]) (rest := []) rfl rfl dX11_judge_2 m_X11_slotNumbered t_744 t_746 s_2 (e := z_16) (c_X11_slotNumbered hl  hc_1) rfl rfl ly_32 rfl (Nat.le_of_ble_eq_true rfl) (Nat.le_of_ble_eq_true rfl) (Nat.le_of_ble_eq_true rfl) (Nat.le_of_ble_eq_true rfl) ⟨rfl, rfl⟩
theorem c_X11_place (hl : l.stackTraces = false) {σ : SG} {what_0 : Int} {r : Int ⊕ Nat} {σ' : SG}  (H : fQ_place σ what_0 = some (r, σ')) : en_S l E M_X11_place 6 1 6 [vr 32, vi what_0] σ (pT (riT r) σ') := by
  unfold fQ_place at H
  refine z_mk (lv := [some (vr 32), some (vi what_0)]) m_X11_place rfl hl (Nat.le_of_ble_eq_true rfl) rfl ?_
  rcases if_e H with ⟨h_3, H⟩ | ⟨h_3, H⟩
  · have J_4 : YY l E M_X11_place 6 1 6 (pT (riT r) σ') 10 [some (vr 32), some (vi what_0)] [] σ 0 0 := by
      cases H
      exact z_throw (M := M_X11_place) (names := en_nm) rfl dX11_place_10 dX11_place_13 dX11_place_14 dX11_place_17 (by decide +kernel) en_nm_ok (Or.inl t_748) (Or.inl t_22) at_X11_IndexOutOfBoundsException_139 (Nat.le_of_ble_eq_true rfl) (Nat.le_of_ble_eq_true rfl) (Nat.le_of_ble_eq_true rfl) (Nat.le_of_ble_eq_true rfl) ⟨rfl, rfl⟩
    refine z_iload_n (M := M_X11_place) dX11_place_0 rfl ?_
    by_cases h_6 : (w32 what_0) < 0
    · refine z_if_lt_t (M := M_X11_place) (tgt := 10) dX11_place_1 (by decide) rfl h_6 ?_
      exact J_4
    · refine z_if_lt_f (M := M_X11_place) (tgt := 10) dX11_place_1 (by decide) rfl (Int.not_lt.mp h_6) ?_
      refine z_iload_n (M := M_X11_place) dX11_place_4 rfl ?_
      refine z_bipush (M := M_X11_place) dX11_place_5 (by decide +kernel) ?_
      by_cases h_7 : 7 ≤ (w32 what_0)
      · refine z_icmp_lt_f (M := M_X11_place) (tgt := 18) dX11_place_7 (by decide) rfl (by decide +kernel) h_7 ?_
        exact J_4
      · refine z_icmp_lt_t (M := M_X11_place) (tgt := 18) dX11_place_7 (by decide) rfl (by decide +kernel) (Int.not_le.mp h_7) ?_
        exact absurd h_3 (fun q => q.elim h_6 h_7)
  · have J_5 : YY l E M_X11_place 6 1 6 (pT (riT r) σ') 18 [some (vr 32), some (vi what_0)] [] σ 0 0 := by
      refine z_aload_n (M := M_X11_place) dX11_place_18 rfl ?_
      refine z_getR (M := M_X11_place) (ci := 14) (C := RX11) (T := TX11) (Nf := 19) (ty := tyX11) cl14 dX11_place_19 ly_32 9 (by decide) t_572 rfl ?_
      refine z_getR (M := M_X11_place) (ci := 4) (C := RX1) (T := TX1) (Nf := 11) (ty := tyX1) cl4 dX11_place_22 ly_177 0 (by decide) t_285 rfl ?_
      refine z_iload_n (M := M_X11_place) dX11_place_25 rfl ?_
      obtain ⟨x_1, x_1_e, hi_2, H⟩ := rd_e H
      refine z_iald (M := M_X11_place) dX11_place_26 ly_178 rfl rfl rfl hi_2 x_1_e ?_
      cases H
      exact z_iret (M := M_X11_place) dX11_place_27 rfl (Nat.le_of_ble_eq_true rfl) (Nat.le_of_ble_eq_true rfl) ⟨rfl, rfl⟩
    refine z_iload_n (M := M_X11_place) dX11_place_0 rfl ?_
    by_cases h_8 : (w32 what_0) < 0
    · refine z_if_lt_t (M := M_X11_place) (tgt := 10) dX11_place_1 (by decide) rfl h_8 ?_
      exact absurd (Or.inl h_8) h_3
    · refine z_if_lt_f (M := M_X11_place) (tgt := 10) dX11_place_1 (by decide) rfl (Int.not_lt.mp h_8) ?_
      refine z_iload_n (M := M_X11_place) dX11_place_4 rfl ?_
      refine z_bipush (M := M_X11_place) dX11_place_5 (by decide +kernel) ?_
      by_cases h_9 : 7 ≤ (w32 what_0)
      · refine z_icmp_lt_f (M := M_X11_place) (tgt := 18) dX11_place_7 (by decide) rfl (by decide +kernel) h_9 ?_
        exact absurd (Or.inr h_9) h_3
      · refine z_icmp_lt_t (M := M_X11_place) (tgt := 18) dX11_place_7 (by decide) rfl (by decide +kernel) (Int.not_le.mp h_9) ?_
        exact J_5
theorem c_X4_isShell (hl : l.stackTraces = false) {σ : SG} {ring_0 : Int} {r : Bool}  (H : fG_isShell σ ring_0 = some r) : en_S l E M_X4_isShell 1 0 0 [vr 208, vi ring_0] σ (pS (some (zv r)) σ) := by
  unfold fG_isShell at H
  refine z_mk (lv := [some (vr 208), some (vi ring_0)]) m_X4_isShell rfl hl (Nat.le_of_ble_eq_true rfl) rfl ?_
  obtain ⟨v_7, he_8, hk_9⟩ := bd_e H
  have J_10 : ∀ x_6, v_7 = x_6 → YY l E M_X4_isShell 1 0 0 (pS (some (zv r)) σ) 16 [some (vr 208), some (vi ring_0)] [zv x_6] σ 0 0 := by
    intro x_6 e
    have H := hk_9
    rw [e] at H
    cases H
    exact z_zret (M := M_X4_isShell) dX4_isShell_16 rfl (Nat.le_of_ble_eq_true rfl) (Nat.le_of_ble_eq_true rfl) ⟨rfl, rfl⟩
  have H := he_8
  refine z_aload_n (M := M_X4_isShell) dX4_isShell_0 rfl ?_
  refine z_getR (M := M_X4_isShell) (ci := 7) (C := RX4) (T := TX4) (Nf := 17) (ty := tyX4) cl7 dX4_isShell_1 ly_208 13 (by decide) t_394 rfl ?_
  refine z_iload_n (M := M_X4_isShell) dX4_isShell_4 rfl ?_
  obtain ⟨x_1, x_1_e, hi_2, H⟩ := rd_e H
  refine z_lald (M := M_X4_isShell) dX4_isShell_5 ly_219 rfl rfl rfl hi_2 x_1_e ?_
  refine z_lconst (M := M_X4_isShell) (m := 0) dX4_isShell_6 (by decide +kernel) ?_
  refine z_lcmp (M := M_X4_isShell) dX4_isShell_7 ?_
  rcases if_e H with ⟨h_3, H⟩ | ⟨h_3, H⟩
  · refine z_lif_le_f (M := M_X4_isShell) (tgt := 15) dX4_isShell_8 (by decide) rfl (by decide +kernel) h_3 ?_
    refine z_zconst (M := M_X4_isShell) (b := true) dX4_isShell_11 rfl ?_
    refine z_goto (M := M_X4_isShell) (tgt := 16) dX4_isShell_12 (by decide) ?_
    exact J_10 _ (Option.some.inj H).symm
  · refine z_lif_le_t (M := M_X4_isShell) (tgt := 15) dX4_isShell_8 (by decide) rfl (by decide +kernel) (Int.not_lt.mp h_3) ?_
    refine z_zconst (M := M_X4_isShell) (b := false) dX4_isShell_15 rfl ?_
    exact J_10 _ (Option.some.inj H).symm
theorem c_X4_whereIs (hl : l.stackTraces = false) {σ : SG} {ring_0 : Int} {x_0 : Int} {y_0 : Int} {r : Int}  (H : fG_whereIs σ ring_0 x_0 y_0 = some r) : en_S l E M_X4_whereIs 4 0 0 [vr 208, vi ring_0, vi x_0, vi y_0] σ (pS (some (vi r)) σ) := by
  unfold fG_whereIs at H
  refine z_mk (lv := [some (vr 208), some (vi ring_0), some (vi x_0), some (vi y_0), none, none, none, none, none, none, none, none]) m_X4_whereIs rfl hl (Nat.le_of_ble_eq_true rfl) rfl ?_
  refine z_zconst (M := M_X4_whereIs) (b := false) dX4_whereIs_0 rfl ?_
  refine z_zstore (M := M_X4_whereIs) (lv' := [some (vr 208), some (vi ring_0), some (vi x_0), some (vi y_0), some (zv false), none, none, none, none, none, none, none]) dX4_whereIs_1 (Nat.le_of_ble_eq_true rfl) rfl rfl ?_
  refine z_aload_n (M := M_X4_whereIs) dX4_whereIs_3 rfl ?_
  refine z_getR (M := M_X4_whereIs) (ci := 7) (C := RX4) (T := TX4) (Nf := 17) (ty := tyX4) cl7 dX4_whereIs_4 ly_208 12 (by decide) t_393 rfl ?_
  refine z_iload_n (M := M_X4_whereIs) dX4_whereIs_7 rfl ?_
  obtain ⟨x_1, x_1_e, hi_2, H⟩ := rd_e H
  refine z_iald (M := M_X4_whereIs) dX4_whereIs_8 ly_218 rfl rfl rfl hi_2 x_1_e ?_
  refine z_istore (M := M_X4_whereIs) (lv' := [some (vr 208), some (vi ring_0), some (vi x_0), some (vi y_0), some (zv false), some (vi x_1), none, none, none, none, none, none]) dX4_whereIs_9 (Nat.le_of_ble_eq_true rfl) rfl rfl ?_
  obtain ⟨rl_8, hw_5, hk_6, hk_7⟩ := bx_e H
  have J_59 : ∀ odd_55 k_56, rl_8 = (.inl (odd_55, k_56)) → YY l E M_X4_whereIs 4 0 0 (pS (some (vi r)) σ) 173 [some (vr 208), some (vi ring_0), some (vi x_0), some (vi y_0), some (zv odd_55), some (vi k_56), none, none, none, none, none, none] [] σ 0 0 := by
    intro odd_55 k_56 e
    have H := hk_6 _ e
    have J_57 : YY l E M_X4_whereIs 4 0 0 (pS (some (vi r)) σ) 183 [some (vr 208), some (vi ring_0), some (vi x_0), some (vi y_0), some (zv odd_55), some (vi k_56), none, none, none, none, none, none] [vi (if odd_55 = true then 0 else 2)] σ 0 0 := by
      cases H
      exact z_iret (M := M_X4_whereIs) dX4_whereIs_183 rfl (Nat.le_of_ble_eq_true rfl) (Nat.le_of_ble_eq_true rfl) ⟨rfl, rfl⟩
    refine z_zload (M := M_X4_whereIs) dX4_whereIs_173 rfl ?_
    by_cases h_58 : odd_55 = true
    · refine z_zeq_f (M := M_X4_whereIs) (tgt := 182) dX4_whereIs_175 (by decide) h_58 ?_
      refine z_iconst (M := M_X4_whereIs) dX4_whereIs_178 ?_
      refine z_goto (M := M_X4_whereIs) (tgt := 183) dX4_whereIs_179 (by decide) ?_
      exact z_st (by rw [if_pos (c := odd_55 = true) h_58]) J_57
    · refine z_zeq_t (M := M_X4_whereIs) (tgt := 182) dX4_whereIs_175 (by decide) h_58 ?_
      refine z_iconst (M := M_X4_whereIs) dX4_whereIs_182 ?_
      exact z_st (by rw [if_neg (c := odd_55 = true) h_58]) J_57
  refine whl_go hw_5 (fun (odd_3, k_4) => YY l E M_X4_whereIs 4 0 0 (pS (some (vi r)) σ) 11 [some (vr 208), some (vi ring_0), some (vi x_0), some (vi y_0), some (zv odd_3), some (vi k_4), none, none, none, none, none, none] [] σ 0 0) ?_
  rintro ⟨odd_3, k_4⟩ o_9 H K_10 K_11
  refine z_iload (M := M_X4_whereIs) dX4_whereIs_11 rfl ?_
  refine z_aload_n (M := M_X4_whereIs) dX4_whereIs_13 rfl ?_
  refine z_getR (M := M_X4_whereIs) (ci := 7) (C := RX4) (T := TX4) (Nf := 17) (ty := tyX4) cl7 dX4_whereIs_14 ly_208 12 (by decide) t_393 rfl ?_
  refine z_iload_n (M := M_X4_whereIs) dX4_whereIs_17 rfl ?_
  refine z_iconst (M := M_X4_whereIs) dX4_whereIs_18 ?_
  refine z_iadd (M := M_X4_whereIs) dX4_whereIs_19 ?_
  obtain ⟨x_12, x_12_e, hi_13, H⟩ := rd_e H
  refine z_iald (M := M_X4_whereIs) dX4_whereIs_20 ly_218 rfl rfl rfl hi_13 x_12_e ?_
  rcases if_e H with ⟨h_14, H⟩ | ⟨h_14, H⟩
  · refine z_icmp_ge_f (M := M_X4_whereIs) (tgt := 173) dX4_whereIs_21 (by decide) rfl rfl h_14 ?_
    refine z_aload_n (M := M_X4_whereIs) dX4_whereIs_24 rfl ?_
    refine z_getR (M := M_X4_whereIs) (ci := 7) (C := RX4) (T := TX4) (Nf := 17) (ty := tyX4) cl7 dX4_whereIs_25 ly_208 10 (by decide) t_391 rfl ?_
    refine z_iload (M := M_X4_whereIs) dX4_whereIs_28 rfl ?_
    obtain ⟨x_15, x_15_e, hi_16, H⟩ := rd_e H
    refine z_iald (M := M_X4_whereIs) dX4_whereIs_30 ly_217 rfl rfl rfl hi_16 x_15_e ?_
    refine z_istore (M := M_X4_whereIs) (lv' := [some (vr 208), some (vi ring_0), some (vi x_0), some (vi y_0), some (zv odd_3), some (vi k_4), some (vi x_15), none, none, none, none, none]) dX4_whereIs_31 (Nat.le_of_ble_eq_true rfl) rfl rfl ?_
    obtain ⟨v_50, he_51, hk_52⟩ := bd_e H
    have J_53 : ∀ x_28, v_50 = x_28 → YY l E M_X4_whereIs 4 0 0 (pS (some (vi r)) σ) 71 [some (vr 208), some (vi ring_0), some (vi x_0), some (vi y_0), some (zv odd_3), some (vi k_4), some (vi x_15), none, none, none, none, none] [vi x_28] σ 0 0 := by
      intro x_28 e
      have H := hk_52
      rw [e] at H
      refine z_istore (M := M_X4_whereIs) (lv' := [some (vr 208), some (vi ring_0), some (vi x_0), some (vi y_0), some (zv odd_3), some (vi k_4), some (vi x_15), some (vi x_28), none, none, none, none]) dX4_whereIs_71 (Nat.le_of_ble_eq_true rfl) rfl rfl ?_
      refine z_aload_n (M := M_X4_whereIs) dX4_whereIs_73 rfl ?_
      refine z_getR (M := M_X4_whereIs) (ci := 7) (C := RX4) (T := TX4) (Nf := 17) (ty := tyX4) cl7 dX4_whereIs_74 ly_208 0 (by decide) t_381 rfl ?_
      refine z_getR (M := M_X4_whereIs) (ci := 11) (C := RX8) (T := TX8) (Nf := 13) (ty := tyX8) cl11 dX4_whereIs_77 ly_193 6 (by decide) t_334 rfl ?_
      refine z_iload (M := M_X4_whereIs) dX4_whereIs_80 rfl ?_
      obtain ⟨x_29, x_29_e, hi_30, H⟩ := rd_e H
      refine z_iald (M := M_X4_whereIs) dX4_whereIs_82 ly_203 rfl rfl rfl hi_30 x_29_e ?_
      refine z_istore (M := M_X4_whereIs) (lv' := [some (vr 208), some (vi ring_0), some (vi x_0), some (vi y_0), some (zv odd_3), some (vi k_4), some (vi x_15), some (vi x_28), some (vi x_29), none, none, none]) dX4_whereIs_83 (Nat.le_of_ble_eq_true rfl) rfl rfl ?_
      refine z_aload_n (M := M_X4_whereIs) dX4_whereIs_85 rfl ?_
      refine z_getR (M := M_X4_whereIs) (ci := 7) (C := RX4) (T := TX4) (Nf := 17) (ty := tyX4) cl7 dX4_whereIs_86 ly_208 0 (by decide) t_381 rfl ?_
      refine z_getR (M := M_X4_whereIs) (ci := 11) (C := RX8) (T := TX8) (Nf := 13) (ty := tyX8) cl11 dX4_whereIs_89 ly_193 7 (by decide) t_336 rfl ?_
      refine z_iload (M := M_X4_whereIs) dX4_whereIs_92 rfl ?_
      obtain ⟨x_31, x_31_e, hi_32, H⟩ := rd_e H
      refine z_iald (M := M_X4_whereIs) dX4_whereIs_94 ly_204 rfl rfl rfl hi_32 x_31_e ?_
      refine z_istore (M := M_X4_whereIs) (lv' := [some (vr 208), some (vi ring_0), some (vi x_0), some (vi y_0), some (zv odd_3), some (vi k_4), some (vi x_15), some (vi x_28), some (vi x_29), some (vi x_31), none, none]) dX4_whereIs_95 (Nat.le_of_ble_eq_true rfl) rfl rfl ?_
      refine z_aload_n (M := M_X4_whereIs) dX4_whereIs_97 rfl ?_
      refine z_getR (M := M_X4_whereIs) (ci := 7) (C := RX4) (T := TX4) (Nf := 17) (ty := tyX4) cl7 dX4_whereIs_98 ly_208 0 (by decide) t_381 rfl ?_
      refine z_getR (M := M_X4_whereIs) (ci := 11) (C := RX8) (T := TX8) (Nf := 13) (ty := tyX8) cl11 dX4_whereIs_101 ly_193 6 (by decide) t_334 rfl ?_
      refine z_iload (M := M_X4_whereIs) dX4_whereIs_104 rfl ?_
      obtain ⟨x_33, x_33_e, hi_34, H⟩ := rd_e H
      refine z_iald (M := M_X4_whereIs) dX4_whereIs_106 ly_203 rfl rfl rfl hi_34 x_33_e ?_
      refine z_istore (M := M_X4_whereIs) (lv' := [some (vr 208), some (vi ring_0), some (vi x_0), some (vi y_0), some (zv odd_3), some (vi k_4), some (vi x_15), some (vi x_28), some (vi x_29), some (vi x_31), some (vi x_33), none]) dX4_whereIs_107 (Nat.le_of_ble_eq_true rfl) rfl rfl ?_
      refine z_aload_n (M := M_X4_whereIs) dX4_whereIs_109 rfl ?_
      refine z_getR (M := M_X4_whereIs) (ci := 7) (C := RX4) (T := TX4) (Nf := 17) (ty := tyX4) cl7 dX4_whereIs_110 ly_208 0 (by decide) t_381 rfl ?_
      refine z_getR (M := M_X4_whereIs) (ci := 11) (C := RX8) (T := TX8) (Nf := 13) (ty := tyX8) cl11 dX4_whereIs_113 ly_193 7 (by decide) t_336 rfl ?_
      refine z_iload (M := M_X4_whereIs) dX4_whereIs_116 rfl ?_
      obtain ⟨x_35, x_35_e, hi_36, H⟩ := rd_e H
      refine z_iald (M := M_X4_whereIs) dX4_whereIs_118 ly_204 rfl rfl rfl hi_36 x_35_e ?_
      refine z_istore (M := M_X4_whereIs) (lv' := [some (vr 208), some (vi ring_0), some (vi x_0), some (vi y_0), some (zv odd_3), some (vi k_4), some (vi x_15), some (vi x_28), some (vi x_29), some (vi x_31), some (vi x_33), some (vi x_35)]) dX4_whereIs_119 (Nat.le_of_ble_eq_true rfl) rfl rfl ?_
      refine z_iload (M := M_X4_whereIs) dX4_whereIs_121 rfl ?_
      refine z_iload (M := M_X4_whereIs) dX4_whereIs_123 rfl ?_
      refine z_iload (M := M_X4_whereIs) dX4_whereIs_125 rfl ?_
      refine z_iload (M := M_X4_whereIs) dX4_whereIs_127 rfl ?_
      refine z_iload_n (M := M_X4_whereIs) dX4_whereIs_129 rfl ?_
      refine z_iload_n (M := M_X4_whereIs) dX4_whereIs_130 rfl ?_
      refine z_callSN (M := M_X4_whereIs) (M' := M_X11_isOnSegment) (as := [vi x_29, vi x_31, vi x_33, vi x_35, vi x_0, vi y_0]) (rest := []) rfl rfl dX4_whereIs_131 m_X11_isOnSegment n_1833 t_1320 (c_X11_isOnSegment hl  rfl) rfl rfl (Nat.le_of_ble_eq_true rfl) (Nat.le_of_ble_eq_true rfl) (Nat.le_of_ble_eq_true rfl) (Nat.le_of_ble_eq_true rfl) ?_
      refine z_st (st' := [zv (fQ_isOnSegment x_29 x_31 x_33 x_35 x_0 y_0)]) rfl ?_
      rcases if_e H with ⟨h_37, H⟩ | ⟨h_37, H⟩
      · refine z_zeq_f (M := M_X4_whereIs) (tgt := 139) dX4_whereIs_134 (by decide) h_37 ?_
        refine z_iconst (M := M_X4_whereIs) dX4_whereIs_137 ?_
        have H := congrArg some (hk_7 _ ((K_11 _ (Option.some.inj H).symm).symm))
        cases H
        exact z_iret (M := M_X4_whereIs) dX4_whereIs_138 rfl (Nat.le_of_ble_eq_true rfl) (Nat.le_of_ble_eq_true rfl) ⟨rfl, rfl⟩
      · refine z_zeq_t (M := M_X4_whereIs) (tgt := 139) dX4_whereIs_134 (by decide) h_37 ?_
        obtain ⟨v_41, he_38, hk_39⟩ := bd_e H
        have J_49 : ∀ odd_47, v_41 = odd_47 → YY l E M_X4_whereIs 4 0 0 (pS (some (vi r)) σ) 167 [some (vr 208), some (vi ring_0), some (vi x_0), some (vi y_0), some (zv odd_47), some (vi k_4), some (vi x_15), some (vi x_28), some (vi x_29), some (vi x_31), some (vi x_33), some (vi x_35)] [] σ 0 0 := by
          intro odd_47 e
          have H := hk_39
          rw [e] at H
          refine z_iinc (M := M_X4_whereIs) (lv' := [some (vr 208), some (vi ring_0), some (vi x_0), some (vi y_0), some (zv odd_47), some (vi (k_4 + 1)), some (vi x_15), some (vi x_28), some (vi x_29), some (vi x_31), some (vi x_33), some (vi x_35)]) dX4_whereIs_167 rfl (Nat.le_of_ble_eq_true rfl) rfl rfl ?_
          refine z_goto (M := M_X4_whereIs) (tgt := 11) dX4_whereIs_170 (by decide) ?_
          refine z_le (lv' := [some (vr 208), some (vi ring_0), some (vi x_0), some (vi y_0), some (zv odd_47), some (vi (k_4 + 1)), none, none, none, none, none, none]) ⟨Or.inr rfl, Or.inr rfl, Or.inr rfl, Or.inr rfl, Or.inr rfl, Or.inr rfl, Or.inl rfl, Or.inl rfl, Or.inl rfl, Or.inl rfl, Or.inl rfl, Or.inl rfl, trivial⟩ ?_
          exact K_10 _ (Option.some.inj H).symm
        have H := he_38
        refine z_iload (M := M_X4_whereIs) dX4_whereIs_139 rfl ?_
        refine z_iload (M := M_X4_whereIs) dX4_whereIs_141 rfl ?_
        refine z_iload (M := M_X4_whereIs) dX4_whereIs_143 rfl ?_
        refine z_iload (M := M_X4_whereIs) dX4_whereIs_145 rfl ?_
        refine z_iload_n (M := M_X4_whereIs) dX4_whereIs_147 rfl ?_
        refine z_iload_n (M := M_X4_whereIs) dX4_whereIs_148 rfl ?_
        refine z_callSN (M := M_X4_whereIs) (M' := M_X11_isCrossedFrom) (as := [vi x_29, vi x_31, vi x_33, vi x_35, vi x_0, vi y_0]) (rest := []) rfl rfl dX4_whereIs_149 m_X11_isCrossedFrom n_1834 t_1325 (c_X11_isCrossedFrom hl  rfl) rfl rfl (Nat.le_of_ble_eq_true rfl) (Nat.le_of_ble_eq_true rfl) (Nat.le_of_ble_eq_true rfl) (Nat.le_of_ble_eq_true rfl) ?_
        refine z_st (st' := [zv (fQ_isCrossedFrom x_29 x_31 x_33 x_35 x_0 y_0)]) rfl ?_
        rcases if_e H with ⟨h_42, H⟩ | ⟨h_42, H⟩
        · refine z_zeq_f (M := M_X4_whereIs) (tgt := 167) dX4_whereIs_152 (by decide) h_42 ?_
          have J_43 : YY l E M_X4_whereIs 4 0 0 (pS (some (vi r)) σ) 165 [some (vr 208), some (vi ring_0), some (vi x_0), some (vi y_0), some (zv odd_3), some (vi k_4), some (vi x_15), some (vi x_28), some (vi x_29), some (vi x_31), some (vi x_33), some (vi x_35)] [zv (decide (¬ (odd_3 = true)))] σ 0 0 := by
            refine z_zstore (M := M_X4_whereIs) (lv' := [some (vr 208), some (vi ring_0), some (vi x_0), some (vi y_0), some (zv (decide (¬ (odd_3 = true)))), some (vi k_4), some (vi x_15), some (vi x_28), some (vi x_29), some (vi x_31), some (vi x_33), some (vi x_35)]) dX4_whereIs_165 (Nat.le_of_ble_eq_true rfl) rfl rfl ?_
            exact J_49 _ (Option.some.inj H).symm
          refine z_zload (M := M_X4_whereIs) dX4_whereIs_155 rfl ?_
          by_cases h_45 : odd_3 = true
          · refine z_zne_t (M := M_X4_whereIs) (tgt := 164) dX4_whereIs_157 (by decide) h_45 ?_
            refine z_iconst (M := M_X4_whereIs) dX4_whereIs_164 ?_
            exact z_st (by rw [zv_f (p := ¬ (odd_3 = true)) (not_not_intro h_45)]) J_43
          · refine z_zne_f (M := M_X4_whereIs) (tgt := 164) dX4_whereIs_157 (by decide) h_45 ?_
            refine z_iconst (M := M_X4_whereIs) dX4_whereIs_160 ?_
            refine z_goto (M := M_X4_whereIs) (tgt := 165) dX4_whereIs_161 (by decide) ?_
            exact z_st (by rw [zv_t (p := ¬ (odd_3 = true)) h_45]) J_43
        · refine z_zeq_t (M := M_X4_whereIs) (tgt := 167) dX4_whereIs_152 (by decide) h_42 ?_
          exact J_49 _ (Option.some.inj H).symm
    have H := he_51
    refine z_iload (M := M_X4_whereIs) dX4_whereIs_33 rfl ?_
    refine z_iconst (M := M_X4_whereIs) dX4_whereIs_35 ?_
    refine z_iadd (M := M_X4_whereIs) dX4_whereIs_36 ?_
    refine z_aload_n (M := M_X4_whereIs) dX4_whereIs_37 rfl ?_
    refine z_getR (M := M_X4_whereIs) (ci := 7) (C := RX4) (T := TX4) (Nf := 17) (ty := tyX4) cl7 dX4_whereIs_38 ly_208 12 (by decide) t_393 rfl ?_
    refine z_iload_n (M := M_X4_whereIs) dX4_whereIs_41 rfl ?_
    refine z_iconst (M := M_X4_whereIs) dX4_whereIs_42 ?_
    refine z_iadd (M := M_X4_whereIs) dX4_whereIs_43 ?_
    obtain ⟨x_17, x_17_e, hi_18, H⟩ := rd_e H
    refine z_iald (M := M_X4_whereIs) dX4_whereIs_44 ly_218 rfl rfl rfl hi_18 x_17_e ?_
    rcases if_e H with ⟨h_19, H⟩ | ⟨h_19, H⟩
    · refine z_icmp_ge_f (M := M_X4_whereIs) (tgt := 60) dX4_whereIs_45 (by decide) rfl rfl h_19 ?_
      refine z_aload_n (M := M_X4_whereIs) dX4_whereIs_48 rfl ?_
      refine z_getR (M := M_X4_whereIs) (ci := 7) (C := RX4) (T := TX4) (Nf := 17) (ty := tyX4) cl7 dX4_whereIs_49 ly_208 10 (by decide) t_391 rfl ?_
      refine z_iload (M := M_X4_whereIs) dX4_whereIs_52 rfl ?_
      refine z_iconst (M := M_X4_whereIs) dX4_whereIs_54 ?_
      refine z_iadd (M := M_X4_whereIs) dX4_whereIs_55 ?_
      obtain ⟨x_20, x_20_e, hi_21, H⟩ := rd_e H
      refine z_iald (M := M_X4_whereIs) dX4_whereIs_56 ly_217 rfl rfl rfl hi_21 x_20_e ?_
      refine z_goto (M := M_X4_whereIs) (tgt := 71) dX4_whereIs_57 (by decide) ?_
      exact J_53 _ (Option.some.inj H).symm
    · refine z_icmp_ge_t (M := M_X4_whereIs) (tgt := 60) dX4_whereIs_45 (by decide) rfl rfl (Int.not_lt.mp h_19) ?_
      refine z_aload_n (M := M_X4_whereIs) dX4_whereIs_60 rfl ?_
      refine z_getR (M := M_X4_whereIs) (ci := 7) (C := RX4) (T := TX4) (Nf := 17) (ty := tyX4) cl7 dX4_whereIs_61 ly_208 10 (by decide) t_391 rfl ?_
      refine z_aload_n (M := M_X4_whereIs) dX4_whereIs_64 rfl ?_
      refine z_getR (M := M_X4_whereIs) (ci := 7) (C := RX4) (T := TX4) (Nf := 17) (ty := tyX4) cl7 dX4_whereIs_65 ly_208 12 (by decide) t_393 rfl ?_
      refine z_iload_n (M := M_X4_whereIs) dX4_whereIs_68 rfl ?_
      obtain ⟨x_23, x_23_e, hi_24, H⟩ := rd_e H
      refine z_iald (M := M_X4_whereIs) dX4_whereIs_69 ly_218 rfl rfl rfl hi_24 x_23_e ?_
      obtain ⟨x_25, x_25_e, hi_26, H⟩ := rd_e H
      refine z_iald (M := M_X4_whereIs) dX4_whereIs_70 ly_217 rfl rfl rfl hi_26 x_25_e ?_
      exact J_53 _ (Option.some.inj H).symm
  · refine z_icmp_ge_t (M := M_X4_whereIs) (tgt := 173) dX4_whereIs_21 (by decide) rfl rfl (Int.not_lt.mp h_14) ?_
    exact J_59 _ _ (K_11 _ (Option.some.inj H).symm).symm
end LFAF
