section LFBD
variable {l : Launch} {E : EE}
theorem c_X12_thins (hl : l.stackTraces = false) {σ : SG} {from_0 : Int} {n_0 : Int} {far_0 : Int} {σ' : SG}  (H : fR_thins σ from_0 n_0 far_0 = some σ') : en_S l E M_X12_thins 5 0 0 [vr 277, vi from_0, vi n_0, vl far_0] σ (pS (none) σ') := by
  unfold fR_thins at H
  refine z_mk (lv := [some (vr 277), some (vi from_0), some (vi n_0), some (vl far_0), none, none, none, none, none, none]) m_X12_thins rfl hl (Nat.le_of_ble_eq_true rfl) rfl ?_
  refine z_iload_n (M := M_X12_thins) dX12_thins_0 rfl ?_
  refine z_iload_n (M := M_X12_thins) dX12_thins_1 rfl ?_
  refine z_sipush (M := M_X12_thins) dX12_thins_2 (by decide +kernel) ?_
  refine z_idiv (M := M_X12_thins) dX12_thins_5 (by decide +kernel) ?_
  refine z_sipush (M := M_X12_thins) dX12_thins_6 (by decide +kernel) ?_
  refine z_imul (M := M_X12_thins) dX12_thins_9 ?_
  refine z_isub (M := M_X12_thins) dX12_thins_10 ?_
  refine z_istore (M := M_X12_thins) (lv' := [some (vr 277), some (vi from_0), some (vi n_0), some (vl far_0), none, some (vi (from_0 - ((q_idv from_0 2048) * 2048))), none, none, none, none]) dX12_thins_11 (Nat.le_of_ble_eq_true rfl) rfl rfl ?_
  refine z_iconst (M := M_X12_thins) dX12_thins_13 ?_
  refine z_istore (M := M_X12_thins) (lv' := [some (vr 277), some (vi from_0), some (vi n_0), some (vl far_0), none, some (vi (from_0 - ((q_idv from_0 2048) * 2048))), some (vi 0), none, none, none]) dX12_thins_14 (Nat.le_of_ble_eq_true rfl) rfl rfl ?_
  obtain ⟨rl_6, hw_3, hk_4⟩ := bd_e H
  have J_70 : ∀ k_18 σ_19, rl_6 = (k_18, σ_19) → YY l E M_X12_thins 5 0 0 (pS (none) σ') 56 [some (vr 277), some (vi from_0), some (vi n_0), some (vl far_0), none, some (vi (from_0 - ((q_idv from_0 2048) * 2048))), some (vi k_18), none, none, none] [] σ_19 0 0 := by
    intro k_18 σ_19 e
    have H := hk_4
    rw [e] at H
    refine z_aload_n (M := M_X12_thins) dX12_thins_56 rfl ?_
    refine z_bipush (M := M_X12_thins) dX12_thins_57 (by decide +kernel) ?_
    refine z_lconst (M := M_X12_thins) (m := 0) dX12_thins_59 (by decide +kernel) ?_
    obtain ⟨σ_21, hc_20, H⟩ := bd_e H
    refine z_callV (M := M_X12_thins) (M' := M_X12_set) (as := [vi 6, vl 0]) (rest := []) rfl rfl dX12_thins_60 m_X12_set t_3210 t_3212 s_222 (c_X12_set hl  hc_20) rfl rfl ly_277 rfl (Nat.le_of_ble_eq_true rfl) (Nat.le_of_ble_eq_true rfl) (Nat.le_of_ble_eq_true rfl) (Nat.le_of_ble_eq_true rfl) ?_
    refine z_st (st' := []) rfl ?_
    refine z_iconst (M := M_X12_thins) dX12_thins_63 ?_
    refine z_istore (M := M_X12_thins) (lv' := [some (vr 277), some (vi from_0), some (vi n_0), some (vl far_0), none, some (vi (from_0 - ((q_idv from_0 2048) * 2048))), some (vi 0), none, none, none]) dX12_thins_64 (Nat.le_of_ble_eq_true rfl) rfl rfl ?_
    obtain ⟨v_25, he_22, hk_23⟩ := bd_e H
    have J_69 : ∀ spans_33 σ_34, v_25 = (spans_33, σ_34) → YY l E M_X12_thins 5 0 0 (pS (none) σ') 92 [some (vr 277), some (vi from_0), some (vi n_0), some (vl far_0), none, some (vi (from_0 - ((q_idv from_0 2048) * 2048))), some (vi spans_33), none, none, none] [] σ_34 0 0 := by
      intro spans_33 σ_34 e
      have H := hk_23
      rw [e] at H
      obtain ⟨rl_40, hw_37, hk_38⟩ := bd_e H
      have J_68 : ∀ spans_66 σ_67, rl_40 = (spans_66, σ_67) → YY l E M_X12_thins 5 0 0 (pS (none) σ') 197 [some (vr 277), some (vi from_0), some (vi n_0), some (vl far_0), none, some (vi (from_0 - ((q_idv from_0 2048) * 2048))), some (vi spans_66), none, none, none] [] σ_67 0 0 := by
        intro spans_66 σ_67 e
        have H := hk_38
        rw [e] at H
        cases H
        exact z_vret (M := M_X12_thins) dX12_thins_197 rfl (Nat.le_of_ble_eq_true rfl) (Nat.le_of_ble_eq_true rfl) ⟨rfl, rfl⟩
      refine whl_go hw_37 (fun (spans_35, σ_36) => YY l E M_X12_thins 5 0 0 (pS (none) σ') 92 [some (vr 277), some (vi from_0), some (vi n_0), some (vl far_0), none, some (vi (from_0 - ((q_idv from_0 2048) * 2048))), some (vi spans_35), none, none, none] [] σ_36 0 0) ?_
      rintro ⟨spans_35, σ_36⟩ o_41 H K_42 K_43
      refine z_iload (M := M_X12_thins) dX12_thins_92 rfl ?_
      rcases if_e H with ⟨h_44, H⟩ | ⟨h_44, H⟩
      · refine z_if_le_f (M := M_X12_thins) (tgt := 197) dX12_thins_94 (by decide) rfl h_44 ?_
        refine z_iinc (M := M_X12_thins) (lv' := [some (vr 277), some (vi from_0), some (vi n_0), some (vl far_0), none, some (vi (from_0 - ((q_idv from_0 2048) * 2048))), some (vi (spans_35 + (-1))), none, none, none]) dX12_thins_97 rfl (Nat.le_of_ble_eq_true rfl) rfl rfl ?_
        refine z_aload_n (M := M_X12_thins) dX12_thins_100 rfl ?_
        refine z_getR (M := M_X12_thins) (ci := 15) (C := RX12) (T := TX12) (Nf := 135) (ty := tyX12) cl15 dX12_thins_101 ly_277 133 (by decide) t_2524 rfl ?_
        refine z_iload (M := M_X12_thins) dX12_thins_104 rfl ?_
        obtain ⟨x_45, x_45_e, hi_46, H⟩ := rd_e H
        refine z_iald (M := M_X12_thins) dX12_thins_106 ly_357 rfl rfl rfl hi_46 x_45_e ?_
        refine z_istore (M := M_X12_thins) (lv' := [some (vr 277), some (vi from_0), some (vi n_0), some (vl far_0), none, some (vi (from_0 - ((q_idv from_0 2048) * 2048))), some (vi (spans_35 + (-1))), some (vi x_45), none, none]) dX12_thins_107 (Nat.le_of_ble_eq_true rfl) rfl rfl ?_
        refine z_aload_n (M := M_X12_thins) dX12_thins_109 rfl ?_
        refine z_getR (M := M_X12_thins) (ci := 15) (C := RX12) (T := TX12) (Nf := 135) (ty := tyX12) cl15 dX12_thins_110 ly_277 134 (by decide) t_2525 rfl ?_
        refine z_iload (M := M_X12_thins) dX12_thins_113 rfl ?_
        obtain ⟨x_47, x_47_e, hi_48, H⟩ := rd_e H
        refine z_iald (M := M_X12_thins) dX12_thins_115 ly_358 rfl rfl rfl hi_48 x_47_e ?_
        refine z_istore (M := M_X12_thins) (lv' := [some (vr 277), some (vi from_0), some (vi n_0), some (vl far_0), none, some (vi (from_0 - ((q_idv from_0 2048) * 2048))), some (vi (spans_35 + (-1))), some (vi x_45), some (vi x_47), none]) dX12_thins_116 (Nat.le_of_ble_eq_true rfl) rfl rfl ?_
        refine z_aload_n (M := M_X12_thins) dX12_thins_118 rfl ?_
        refine z_iload (M := M_X12_thins) dX12_thins_119 rfl ?_
        refine z_iload (M := M_X12_thins) dX12_thins_121 rfl ?_
        refine z_lload_n (M := M_X12_thins) dX12_thins_123 rfl ?_
        obtain ⟨⟨x_51, σ_50⟩, hc_49, H⟩ := bd_e H
        refine z_callV (M := M_X12_thins) (M' := M_X12_farthest) (as := [vi x_45, vi x_47, vl far_0]) (rest := []) rfl rfl dX12_thins_124 m_X12_farthest t_3697 t_3699 s_325 (c_X12_farthest hl  hc_49) rfl rfl ly_277 rfl (Nat.le_of_ble_eq_true rfl) (Nat.le_of_ble_eq_true rfl) (Nat.le_of_ble_eq_true rfl) (Nat.le_of_ble_eq_true rfl) ?_
        refine z_st (st' := [vi x_51]) rfl ?_
        refine z_istore (M := M_X12_thins) (lv' := [some (vr 277), some (vi from_0), some (vi n_0), some (vl far_0), none, some (vi (from_0 - ((q_idv from_0 2048) * 2048))), some (vi (spans_35 + (-1))), some (vi x_45), some (vi x_47), some (vi x_51)]) dX12_thins_127 (Nat.le_of_ble_eq_true rfl) rfl rfl ?_
        refine z_iload (M := M_X12_thins) dX12_thins_129 rfl ?_
        refine z_iconst (M := M_X12_thins) dX12_thins_131 ?_
        rcases if_e H with ⟨h_52, H⟩ | ⟨h_52, H⟩
        · refine z_icmp_ne_f (M := M_X12_thins) (tgt := 138) dX12_thins_132 (by decide) rfl (by decide +kernel) h_52 ?_
          refine z_goto (M := M_X12_thins) (tgt := 92) dX12_thins_135 (by decide) ?_
          refine z_le (lv' := [some (vr 277), some (vi from_0), some (vi n_0), some (vl far_0), none, some (vi (from_0 - ((q_idv from_0 2048) * 2048))), some (vi (spans_35 + (-1))), none, none, none]) ⟨Or.inr rfl, Or.inr rfl, Or.inr rfl, Or.inr rfl, Or.inl rfl, Or.inr rfl, Or.inr rfl, Or.inl rfl, Or.inl rfl, Or.inl rfl, trivial⟩ ?_
          exact K_42 _ (Option.some.inj H).symm
        · refine z_icmp_ne_t (M := M_X12_thins) (tgt := 138) dX12_thins_132 (by decide) rfl (by decide +kernel) h_52 ?_
          refine z_aload_n (M := M_X12_thins) dX12_thins_138 rfl ?_
          refine z_getR (M := M_X12_thins) (ci := 15) (C := RX12) (T := TX12) (Nf := 135) (ty := tyX12) cl15 dX12_thins_139 ly_277 132 (by decide) t_2523 rfl ?_
          refine z_iload (M := M_X12_thins) dX12_thins_142 rfl ?_
          refine z_iload (M := M_X12_thins) dX12_thins_144 rfl ?_
          refine z_iadd (M := M_X12_thins) dX12_thins_146 ?_
          refine z_iload_n (M := M_X12_thins) dX12_thins_147 rfl ?_
          refine z_isub (M := M_X12_thins) dX12_thins_148 ?_
          refine z_zconst (M := M_X12_thins) (b := true) dX12_thins_149 rfl ?_
          obtain ⟨σ_54, σ_54_e, hi_55, H⟩ := wa_e H
          refine z_zast (M := M_X12_thins) dX12_thins_150 ly_356 rfl rfl rfl hi_55 σ_54_e ?_
          refine z_aload_n (M := M_X12_thins) dX12_thins_151 rfl ?_
          refine z_getR (M := M_X12_thins) (ci := 15) (C := RX12) (T := TX12) (Nf := 135) (ty := tyX12) cl15 dX12_thins_152 ly_277 133 (by decide) t_2524 rfl ?_
          refine z_iload (M := M_X12_thins) dX12_thins_155 rfl ?_
          refine z_iload (M := M_X12_thins) dX12_thins_157 rfl ?_
          obtain ⟨σ_56, σ_56_e, hi_57, H⟩ := wa_e H
          refine z_iast (M := M_X12_thins) dX12_thins_159 ly_357 rfl rfl rfl hi_57 σ_56_e ?_
          refine z_aload_n (M := M_X12_thins) dX12_thins_160 rfl ?_
          refine z_getR (M := M_X12_thins) (ci := 15) (C := RX12) (T := TX12) (Nf := 135) (ty := tyX12) cl15 dX12_thins_161 ly_277 134 (by decide) t_2525 rfl ?_
          refine z_iload (M := M_X12_thins) dX12_thins_164 rfl ?_
          refine z_iload (M := M_X12_thins) dX12_thins_166 rfl ?_
          obtain ⟨σ_58, σ_58_e, hi_59, H⟩ := wa_e H
          refine z_iast (M := M_X12_thins) dX12_thins_168 ly_358 rfl rfl rfl hi_59 σ_58_e ?_
          refine z_aload_n (M := M_X12_thins) dX12_thins_169 rfl ?_
          refine z_getR (M := M_X12_thins) (ci := 15) (C := RX12) (T := TX12) (Nf := 135) (ty := tyX12) cl15 dX12_thins_170 ly_277 133 (by decide) t_2524 rfl ?_
          refine z_iload (M := M_X12_thins) dX12_thins_173 rfl ?_
          refine z_iconst (M := M_X12_thins) dX12_thins_175 ?_
          refine z_iadd (M := M_X12_thins) dX12_thins_176 ?_
          refine z_iload (M := M_X12_thins) dX12_thins_177 rfl ?_
          obtain ⟨σ_60, σ_60_e, hi_61, H⟩ := wa_e H
          refine z_iast (M := M_X12_thins) dX12_thins_179 ly_357 rfl rfl rfl hi_61 σ_60_e ?_
          refine z_aload_n (M := M_X12_thins) dX12_thins_180 rfl ?_
          refine z_getR (M := M_X12_thins) (ci := 15) (C := RX12) (T := TX12) (Nf := 135) (ty := tyX12) cl15 dX12_thins_181 ly_277 134 (by decide) t_2525 rfl ?_
          refine z_iload (M := M_X12_thins) dX12_thins_184 rfl ?_
          refine z_iconst (M := M_X12_thins) dX12_thins_186 ?_
          refine z_iadd (M := M_X12_thins) dX12_thins_187 ?_
          refine z_iload (M := M_X12_thins) dX12_thins_188 rfl ?_
          obtain ⟨σ_62, σ_62_e, hi_63, H⟩ := wa_e H
          refine z_iast (M := M_X12_thins) dX12_thins_190 ly_358 rfl rfl rfl hi_63 σ_62_e ?_
          refine z_iinc (M := M_X12_thins) (lv' := [some (vr 277), some (vi from_0), some (vi n_0), some (vl far_0), none, some (vi (from_0 - ((q_idv from_0 2048) * 2048))), some (vi ((spans_35 + (-1)) + 2)), some (vi x_45), some (vi x_47), some (vi x_51)]) dX12_thins_191 rfl (Nat.le_of_ble_eq_true rfl) rfl rfl ?_
          refine z_goto (M := M_X12_thins) (tgt := 92) dX12_thins_194 (by decide) ?_
          refine z_le (lv' := [some (vr 277), some (vi from_0), some (vi n_0), some (vl far_0), none, some (vi (from_0 - ((q_idv from_0 2048) * 2048))), some (vi ((spans_35 + (-1)) + 2)), none, none, none]) ⟨Or.inr rfl, Or.inr rfl, Or.inr rfl, Or.inr rfl, Or.inl rfl, Or.inr rfl, Or.inr rfl, Or.inl rfl, Or.inl rfl, Or.inl rfl, trivial⟩ ?_
          exact K_42 _ (Option.some.inj H).symm
      · refine z_if_le_t (M := M_X12_thins) (tgt := 197) dX12_thins_94 (by decide) rfl (Int.not_lt.mp h_44) ?_
        exact J_68 _ _ (K_43 _ (Option.some.inj H).symm).symm
    have H := he_22
    refine z_iload_n (M := M_X12_thins) dX12_thins_66 rfl ?_
    refine z_iconst (M := M_X12_thins) dX12_thins_67 ?_
    rcases if_e H with ⟨h_26, H⟩ | ⟨h_26, H⟩
    · refine z_icmp_le_f (M := M_X12_thins) (tgt := 92) dX12_thins_68 (by decide) rfl (by decide +kernel) h_26 ?_
      refine z_aload_n (M := M_X12_thins) dX12_thins_71 rfl ?_
      refine z_getR (M := M_X12_thins) (ci := 15) (C := RX12) (T := TX12) (Nf := 135) (ty := tyX12) cl15 dX12_thins_72 ly_277 133 (by decide) t_2524 rfl ?_
      refine z_iconst (M := M_X12_thins) dX12_thins_75 ?_
      refine z_iload_n (M := M_X12_thins) dX12_thins_76 rfl ?_
      obtain ⟨σ_27, σ_27_e, hi_28, H⟩ := wa_e H
      refine z_iast (M := M_X12_thins) dX12_thins_77 ly_357 rfl (by decide +kernel) rfl hi_28 σ_27_e ?_
      refine z_aload_n (M := M_X12_thins) dX12_thins_78 rfl ?_
      refine z_getR (M := M_X12_thins) (ci := 15) (C := RX12) (T := TX12) (Nf := 135) (ty := tyX12) cl15 dX12_thins_79 ly_277 134 (by decide) t_2525 rfl ?_
      refine z_iconst (M := M_X12_thins) dX12_thins_82 ?_
      refine z_iload_n (M := M_X12_thins) dX12_thins_83 rfl ?_
      refine z_iload_n (M := M_X12_thins) dX12_thins_84 rfl ?_
      refine z_iadd (M := M_X12_thins) dX12_thins_85 ?_
      refine z_iconst (M := M_X12_thins) dX12_thins_86 ?_
      refine z_isub (M := M_X12_thins) dX12_thins_87 ?_
      obtain ⟨σ_29, σ_29_e, hi_30, H⟩ := wa_e H
      refine z_iast (M := M_X12_thins) dX12_thins_88 ly_358 rfl (by decide +kernel) rfl hi_30 σ_29_e ?_
      refine z_iconst (M := M_X12_thins) dX12_thins_89 ?_
      refine z_istore (M := M_X12_thins) (lv' := [some (vr 277), some (vi from_0), some (vi n_0), some (vl far_0), none, some (vi (from_0 - ((q_idv from_0 2048) * 2048))), some (vi 1), none, none, none]) dX12_thins_90 (Nat.le_of_ble_eq_true rfl) rfl rfl ?_
      exact J_69 _ _ (Option.some.inj H).symm
    · refine z_icmp_le_t (M := M_X12_thins) (tgt := 92) dX12_thins_68 (by decide) rfl (by decide +kernel) (Int.not_lt.mp h_26) ?_
      exact J_69 _ _ (Option.some.inj H).symm
  refine whl_go hw_3 (fun (k_1, σ_2) => YY l E M_X12_thins 5 0 0 (pS (none) σ') 16 [some (vr 277), some (vi from_0), some (vi n_0), some (vl far_0), none, some (vi (from_0 - ((q_idv from_0 2048) * 2048))), some (vi k_1), none, none, none] [] σ_2 0 0) ?_
  rintro ⟨k_1, σ_2⟩ o_7 H K_8 K_9
  refine z_iload (M := M_X12_thins) dX12_thins_16 rfl ?_
  refine z_iload_n (M := M_X12_thins) dX12_thins_18 rfl ?_
  rcases if_e H with ⟨h_10, H⟩ | ⟨h_10, H⟩
  · refine z_icmp_ge_f (M := M_X12_thins) (tgt := 56) dX12_thins_19 (by decide) rfl rfl h_10 ?_
    refine z_aload_n (M := M_X12_thins) dX12_thins_22 rfl ?_
    refine z_getR (M := M_X12_thins) (ci := 15) (C := RX12) (T := TX12) (Nf := 135) (ty := tyX12) cl15 dX12_thins_23 ly_277 132 (by decide) t_2523 rfl ?_
    refine z_iload (M := M_X12_thins) dX12_thins_26 rfl ?_
    refine z_iload (M := M_X12_thins) dX12_thins_28 rfl ?_
    refine z_iadd (M := M_X12_thins) dX12_thins_30 ?_
    have J_11 : YY l E M_X12_thins 5 0 0 (pS (none) σ') 49 [some (vr 277), some (vi from_0), some (vi n_0), some (vl far_0), none, some (vi (from_0 - ((q_idv from_0 2048) * 2048))), some (vi k_1), none, none, none] [zv (decide (((w32 k_1) = 0) ∨ ((w32 k_1) = (w32 (n_0 - 1))))), vi ((from_0 - ((q_idv from_0 2048) * 2048)) + k_1), vr 356] σ_2 0 0 := by
      obtain ⟨σ_12, σ_12_e, hi_13, H⟩ := wa_e H
      refine z_zast (M := M_X12_thins) dX12_thins_49 ly_356 rfl rfl rfl hi_13 σ_12_e ?_
      refine z_iinc (M := M_X12_thins) (lv' := [some (vr 277), some (vi from_0), some (vi n_0), some (vl far_0), none, some (vi (from_0 - ((q_idv from_0 2048) * 2048))), some (vi (k_1 + 1)), none, none, none]) dX12_thins_50 rfl (Nat.le_of_ble_eq_true rfl) rfl rfl ?_
      refine z_goto (M := M_X12_thins) (tgt := 16) dX12_thins_53 (by decide) ?_
      exact K_8 _ (Option.some.inj H).symm
    refine z_iload (M := M_X12_thins) dX12_thins_31 rfl ?_
    by_cases h_15 : (w32 k_1) = 0
    · refine z_if_eq_t (M := M_X12_thins) (tgt := 44) dX12_thins_33 (by decide) rfl h_15 ?_
      refine z_iconst (M := M_X12_thins) dX12_thins_44 ?_
      refine z_goto (M := M_X12_thins) (tgt := 49) dX12_thins_45 (by decide) ?_
      exact z_st (by rw [zv_t (p := ((w32 k_1) = 0) ∨ ((w32 k_1) = (w32 (n_0 - 1)))) (Or.inl h_15)]) J_11
    · refine z_if_eq_f (M := M_X12_thins) (tgt := 44) dX12_thins_33 (by decide) rfl h_15 ?_
      refine z_iload (M := M_X12_thins) dX12_thins_36 rfl ?_
      refine z_iload_n (M := M_X12_thins) dX12_thins_38 rfl ?_
      refine z_iconst (M := M_X12_thins) dX12_thins_39 ?_
      refine z_isub (M := M_X12_thins) dX12_thins_40 ?_
      by_cases h_16 : (w32 k_1) = (w32 (n_0 - 1))
      · refine z_icmp_ne_f (M := M_X12_thins) (tgt := 48) dX12_thins_41 (by decide) rfl rfl h_16 ?_
        refine z_iconst (M := M_X12_thins) dX12_thins_44 ?_
        refine z_goto (M := M_X12_thins) (tgt := 49) dX12_thins_45 (by decide) ?_
        exact z_st (by rw [zv_t (p := ((w32 k_1) = 0) ∨ ((w32 k_1) = (w32 (n_0 - 1)))) (Or.inr h_16)]) J_11
      · refine z_icmp_ne_t (M := M_X12_thins) (tgt := 48) dX12_thins_41 (by decide) rfl rfl h_16 ?_
        refine z_iconst (M := M_X12_thins) dX12_thins_48 ?_
        exact z_st (by rw [zv_f (p := ((w32 k_1) = 0) ∨ ((w32 k_1) = (w32 (n_0 - 1)))) (fun q => q.elim h_15 h_16)]) J_11
  · refine z_icmp_ge_t (M := M_X12_thins) (tgt := 56) dX12_thins_19 (by decide) rfl rfl (Int.not_lt.mp h_10) ?_
    exact J_70 _ _ (K_9 _ (Option.some.inj H).symm).symm
theorem c_X12_keeps (hl : l.stackTraces = false) {σ : SG} {from_0 : Int} {n_0 : Int} {far_0 : Int} {r : Int} {σ' : SG}  (H : fR_keeps σ from_0 n_0 far_0 = some (r, σ')) : en_S l E M_X12_keeps 6 0 0 [vr 277, vi from_0, vi n_0, vl far_0] σ (pS (some (vi r)) σ') := by
  unfold fR_keeps at H
  refine z_mk (lv := [some (vr 277), some (vi from_0), some (vi n_0), some (vl far_0), none, none, none, none]) m_X12_keeps rfl hl (Nat.le_of_ble_eq_true rfl) rfl ?_
  refine z_aload_n (M := M_X12_keeps) dX12_keeps_0 rfl ?_
  refine z_iload_n (M := M_X12_keeps) dX12_keeps_1 rfl ?_
  refine z_iload_n (M := M_X12_keeps) dX12_keeps_2 rfl ?_
  refine z_lload_n (M := M_X12_keeps) dX12_keeps_3 rfl ?_
  obtain ⟨σ_2, hc_1, H⟩ := bd_e H
  refine z_callV (M := M_X12_keeps) (M' := M_X12_thins) (as := [vi from_0, vi n_0, vl far_0]) (rest := []) rfl rfl dX12_keeps_4 m_X12_thins t_3693 t_3695 s_324 (c_X12_thins hl  hc_1) rfl rfl ly_277 rfl (Nat.le_of_ble_eq_true rfl) (Nat.le_of_ble_eq_true rfl) (Nat.le_of_ble_eq_true rfl) (Nat.le_of_ble_eq_true rfl) ?_
  refine z_st (st' := []) rfl ?_
  refine z_iload_n (M := M_X12_keeps) dX12_keeps_7 rfl ?_
  refine z_iload_n (M := M_X12_keeps) dX12_keeps_8 rfl ?_
  refine z_sipush (M := M_X12_keeps) dX12_keeps_9 (by decide +kernel) ?_
  refine z_idiv (M := M_X12_keeps) dX12_keeps_12 (by decide +kernel) ?_
  refine z_sipush (M := M_X12_keeps) dX12_keeps_13 (by decide +kernel) ?_
  refine z_imul (M := M_X12_keeps) dX12_keeps_16 ?_
  refine z_isub (M := M_X12_keeps) dX12_keeps_17 ?_
  refine z_istore (M := M_X12_keeps) (lv' := [some (vr 277), some (vi from_0), some (vi n_0), some (vl far_0), none, some (vi (from_0 - ((q_idv from_0 2048) * 2048))), none, none]) dX12_keeps_18 (Nat.le_of_ble_eq_true rfl) rfl rfl ?_
  refine z_iconst (M := M_X12_keeps) dX12_keeps_20 ?_
  refine z_istore (M := M_X12_keeps) (lv' := [some (vr 277), some (vi from_0), some (vi n_0), some (vl far_0), none, some (vi (from_0 - ((q_idv from_0 2048) * 2048))), some (vi 0), none]) dX12_keeps_21 (Nat.le_of_ble_eq_true rfl) rfl rfl ?_
  refine z_iconst (M := M_X12_keeps) dX12_keeps_23 ?_
  refine z_istore (M := M_X12_keeps) (lv' := [some (vr 277), some (vi from_0), some (vi n_0), some (vl far_0), none, some (vi (from_0 - ((q_idv from_0 2048) * 2048))), some (vi 0), some (vi 0)]) dX12_keeps_24 (Nat.le_of_ble_eq_true rfl) rfl rfl ?_
  obtain ⟨rl_9, hw_6, hk_7⟩ := bd_e H
  have J_29 : ∀ many_26 k_27 σ_28, rl_9 = (many_26, k_27, σ_28) → YY l E M_X12_keeps 6 0 0 (pS (some (vi r)) σ') 81 [some (vr 277), some (vi from_0), some (vi n_0), some (vl far_0), none, some (vi (from_0 - ((q_idv from_0 2048) * 2048))), some (vi many_26), some (vi k_27)] [] σ_28 0 0 := by
    intro many_26 k_27 σ_28 e
    have H := hk_7
    rw [e] at H
    refine z_iload (M := M_X12_keeps) dX12_keeps_81 rfl ?_
    cases H
    exact z_iret (M := M_X12_keeps) dX12_keeps_83 rfl (Nat.le_of_ble_eq_true rfl) (Nat.le_of_ble_eq_true rfl) ⟨rfl, rfl⟩
  refine whl_go hw_6 (fun (many_3, k_4, σ_5) => YY l E M_X12_keeps 6 0 0 (pS (some (vi r)) σ') 26 [some (vr 277), some (vi from_0), some (vi n_0), some (vl far_0), none, some (vi (from_0 - ((q_idv from_0 2048) * 2048))), some (vi many_3), some (vi k_4)] [] σ_5 0 0) ?_
  rintro ⟨many_3, k_4, σ_5⟩ o_10 H K_11 K_12
  refine z_iload (M := M_X12_keeps) dX12_keeps_26 rfl ?_
  refine z_iload_n (M := M_X12_keeps) dX12_keeps_28 rfl ?_
  rcases if_e H with ⟨h_13, H⟩ | ⟨h_13, H⟩
  · refine z_icmp_ge_f (M := M_X12_keeps) (tgt := 81) dX12_keeps_29 (by decide) rfl rfl h_13 ?_
    refine z_aload_n (M := M_X12_keeps) dX12_keeps_32 rfl ?_
    refine z_getR (M := M_X12_keeps) (ci := 15) (C := RX12) (T := TX12) (Nf := 135) (ty := tyX12) cl15 dX12_keeps_33 ly_277 132 (by decide) t_2523 rfl ?_
    refine z_iload (M := M_X12_keeps) dX12_keeps_36 rfl ?_
    refine z_iload (M := M_X12_keeps) dX12_keeps_38 rfl ?_
    refine z_iadd (M := M_X12_keeps) dX12_keeps_40 ?_
    obtain ⟨x_14, x_14_e, hi_15, H⟩ := rd_e H
    refine z_zald (M := M_X12_keeps) dX12_keeps_41 ly_356 rfl rfl rfl hi_15 x_14_e ?_
    rcases if_e H with ⟨h_16, H⟩ | ⟨h_16, H⟩
    · refine z_zne_t (M := M_X12_keeps) (tgt := 48) dX12_keeps_42 (by decide) h_16 ?_
      refine z_aload_n (M := M_X12_keeps) dX12_keeps_48 rfl ?_
      refine z_aload_n (M := M_X12_keeps) dX12_keeps_49 rfl ?_
      refine z_getR (M := M_X12_keeps) (ci := 15) (C := RX12) (T := TX12) (Nf := 135) (ty := tyX12) cl15 dX12_keeps_50 ly_277 12 (by decide) t_2403 rfl ?_
      refine z_iload_n (M := M_X12_keeps) dX12_keeps_53 rfl ?_
      refine z_iload (M := M_X12_keeps) dX12_keeps_54 rfl ?_
      refine z_iadd (M := M_X12_keeps) dX12_keeps_56 ?_
      obtain ⟨x_17, x_17_e, hi_18, H⟩ := rd_e H
      refine z_iald (M := M_X12_keeps) dX12_keeps_57 ly_283 rfl rfl rfl hi_18 x_17_e ?_
      refine z_i2l (M := M_X12_keeps) dX12_keeps_58 ?_
      refine z_aload_n (M := M_X12_keeps) dX12_keeps_59 rfl ?_
      refine z_getR (M := M_X12_keeps) (ci := 15) (C := RX12) (T := TX12) (Nf := 135) (ty := tyX12) cl15 dX12_keeps_60 ly_277 13 (by decide) t_2404 rfl ?_
      refine z_iload_n (M := M_X12_keeps) dX12_keeps_63 rfl ?_
      refine z_iload (M := M_X12_keeps) dX12_keeps_64 rfl ?_
      refine z_iadd (M := M_X12_keeps) dX12_keeps_66 ?_
      obtain ⟨x_19, x_19_e, hi_20, H⟩ := rd_e H
      refine z_iald (M := M_X12_keeps) dX12_keeps_67 ly_284 rfl rfl rfl hi_20 x_19_e ?_
      refine z_i2l (M := M_X12_keeps) dX12_keeps_68 ?_
      obtain ⟨σ_22, hc_21, H⟩ := bd_e H
      refine z_callV (M := M_X12_keeps) (M' := M_X12_dot) (as := [vl (w32 x_17), vl (w32 x_19)]) (rest := []) rfl rfl dX12_keeps_69 m_X12_dot t_2938 t_2940 s_178 (c_X12_dot hl  hc_21) rfl rfl ly_277 rfl (Nat.le_of_ble_eq_true rfl) (Nat.le_of_ble_eq_true rfl) (Nat.le_of_ble_eq_true rfl) (Nat.le_of_ble_eq_true rfl) ?_
      refine z_st (st' := []) rfl ?_
      refine z_iinc (M := M_X12_keeps) (lv' := [some (vr 277), some (vi from_0), some (vi n_0), some (vl far_0), none, some (vi (from_0 - ((q_idv from_0 2048) * 2048))), some (vi (many_3 + 1)), some (vi k_4)]) dX12_keeps_72 rfl (Nat.le_of_ble_eq_true rfl) rfl rfl ?_
      refine z_iinc (M := M_X12_keeps) (lv' := [some (vr 277), some (vi from_0), some (vi n_0), some (vl far_0), none, some (vi (from_0 - ((q_idv from_0 2048) * 2048))), some (vi (many_3 + 1)), some (vi (k_4 + 1))]) dX12_keeps_75 rfl (Nat.le_of_ble_eq_true rfl) rfl rfl ?_
      refine z_goto (M := M_X12_keeps) (tgt := 26) dX12_keeps_78 (by decide) ?_
      exact K_11 _ (Option.some.inj H).symm
    · refine z_zne_f (M := M_X12_keeps) (tgt := 48) dX12_keeps_42 (by decide) h_16 ?_
      refine z_goto (M := M_X12_keeps) (tgt := 75) dX12_keeps_45 (by decide) ?_
      refine z_iinc (M := M_X12_keeps) (lv' := [some (vr 277), some (vi from_0), some (vi n_0), some (vl far_0), none, some (vi (from_0 - ((q_idv from_0 2048) * 2048))), some (vi many_3), some (vi (k_4 + 1))]) dX12_keeps_75 rfl (Nat.le_of_ble_eq_true rfl) rfl rfl ?_
      refine z_goto (M := M_X12_keeps) (tgt := 26) dX12_keeps_78 (by decide) ?_
      exact K_11 _ (Option.some.inj H).symm
  · refine z_icmp_ge_t (M := M_X12_keeps) (tgt := 81) dX12_keeps_29 (by decide) rfl rfl (Int.not_lt.mp h_13) ?_
    exact J_29 _ _ _ (K_12 _ (Option.some.inj H).symm).symm
theorem c_X12_simplify (hl : l.stackTraces = false) {σ : SG} {slot_0 : Int} {to_0 : Int} {distance_0 : Int} {r : Int} {σ' : SG}  (H : fR_simplify σ slot_0 to_0 distance_0 = some (r, σ')) : en_S l E M_X12_simplify 7 0 0 [vr 277, vi slot_0, vi to_0, vi distance_0] σ (pS (some (vi r)) σ') := by
  unfold fR_simplify at H
  refine z_mk (lv := [some (vr 277), some (vi slot_0), some (vi to_0), some (vi distance_0), none, none, none, none, none, none, none]) m_X12_simplify rfl hl (Nat.le_of_ble_eq_true rfl) rfl ?_
  refine z_aload_n (M := M_X12_simplify) dX12_simplify_0 rfl ?_
  refine z_iconst (M := M_X12_simplify) dX12_simplify_1 ?_
  obtain ⟨σ_1, σ_1_e, H⟩ := wf_e H
  refine z_putI (M := M_X12_simplify) (ci := 15) (C := RX12) (T := TX12) (Nf := 135) (ty := tyX12) cl15 dX12_simplify_2 ly_277 0 (by decide) t_2391 rfl rfl rfl rfl σ_1_e ?_
  refine z_aload_n (M := M_X12_simplify) dX12_simplify_5 rfl ?_
  have J_33 : YY l E M_X12_simplify 7 0 0 (pS (some (vi r)) σ') 25 [some (vr 277), some (vi slot_0), some (vi to_0), some (vi distance_0), none, none, none, none, none, none, none] [zv (decide ((¬ ((fR_isSlot slot_0) = true)) ∨ (¬ ((fR_isSlot to_0) = true)))), vr 277] σ_1 0 0 := by
    refine z_iconst (M := M_X12_simplify) dX12_simplify_25 ?_
    obtain ⟨⟨x_36, σ_35⟩, hc_34, H⟩ := bd_e H
    refine z_callV (M := M_X12_simplify) (M' := M_X12_fails) (as := [zv (decide ((¬ ((fR_isSlot slot_0) = true)) ∨ (¬ ((fR_isSlot to_0) = true)))), vi 1]) (rest := []) rfl rfl dX12_simplify_26 m_X12_fails t_2805 t_2807 s_157 (c_X12_fails hl  hc_34) rfl rfl ly_277 rfl (Nat.le_of_ble_eq_true rfl) (Nat.le_of_ble_eq_true rfl) (Nat.le_of_ble_eq_true rfl) (Nat.le_of_ble_eq_true rfl) ?_
    refine z_st (st' := [zv x_36]) rfl ?_
    rcases if_e H with ⟨h_37, H⟩ | ⟨h_37, H⟩
    · refine z_zne_t (M := M_X12_simplify) (tgt := 78) dX12_simplify_29 (by decide) h_37 ?_
      refine z_iconst (M := M_X12_simplify) dX12_simplify_78 ?_
      cases H
      exact z_iret (M := M_X12_simplify) dX12_simplify_79 rfl (Nat.le_of_ble_eq_true rfl) (Nat.le_of_ble_eq_true rfl) ⟨rfl, rfl⟩
    · refine z_zne_f (M := M_X12_simplify) (tgt := 78) dX12_simplify_29 (by decide) h_37 ?_
      refine z_aload_n (M := M_X12_simplify) dX12_simplify_32 rfl ?_
      obtain ⟨v_153, he_154, hk_155⟩ := bd_e H
      have J_156 : ∀ x_43, v_153 = x_43 → YY l E M_X12_simplify 7 0 0 (pS (some (vi r)) σ') 46 [some (vr 277), some (vi slot_0), some (vi to_0), some (vi distance_0), none, none, none, none, none, none, none] [zv x_43, vr 277] σ_35 0 0 := by
        intro x_43 e
        have H := hk_155
        rw [e] at H
        refine z_iconst (M := M_X12_simplify) dX12_simplify_46 ?_
        obtain ⟨⟨x_46, σ_45⟩, hc_44, H⟩ := bd_e H
        refine z_callV (M := M_X12_simplify) (M' := M_X12_fails) (as := [zv x_43, vi 2]) (rest := []) rfl rfl dX12_simplify_47 m_X12_fails t_2805 t_2807 s_157 (c_X12_fails hl  hc_44) rfl rfl ly_277 rfl (Nat.le_of_ble_eq_true rfl) (Nat.le_of_ble_eq_true rfl) (Nat.le_of_ble_eq_true rfl) (Nat.le_of_ble_eq_true rfl) ?_
        refine z_st (st' := [zv x_46]) rfl ?_
        rcases if_e H with ⟨h_47, H⟩ | ⟨h_47, H⟩
        · refine z_zne_t (M := M_X12_simplify) (tgt := 78) dX12_simplify_50 (by decide) h_47 ?_
          refine z_iconst (M := M_X12_simplify) dX12_simplify_78 ?_
          cases H
          exact z_iret (M := M_X12_simplify) dX12_simplify_79 rfl (Nat.le_of_ble_eq_true rfl) (Nat.le_of_ble_eq_true rfl) ⟨rfl, rfl⟩
        · refine z_zne_f (M := M_X12_simplify) (tgt := 78) dX12_simplify_50 (by decide) h_47 ?_
          refine z_aload_n (M := M_X12_simplify) dX12_simplify_53 rfl ?_
          have J_48 : YY l E M_X12_simplify 7 0 0 (pS (some (vi r)) σ') 71 [some (vr 277), some (vi slot_0), some (vi to_0), some (vi distance_0), none, none, none, none, none, none, none] [zv (decide (¬ ((fR_in (w32 distance_0) 0 1000000000) = true))), vr 277] σ_45 0 0 := by
            refine z_iconst (M := M_X12_simplify) dX12_simplify_71 ?_
            obtain ⟨⟨x_51, σ_50⟩, hc_49, H⟩ := bd_e H
            refine z_callV (M := M_X12_simplify) (M' := M_X12_fails) (as := [zv (decide (¬ ((fR_in (w32 distance_0) 0 1000000000) = true))), vi 3]) (rest := []) rfl rfl dX12_simplify_72 m_X12_fails t_2805 t_2807 s_157 (c_X12_fails hl  hc_49) rfl rfl ly_277 rfl (Nat.le_of_ble_eq_true rfl) (Nat.le_of_ble_eq_true rfl) (Nat.le_of_ble_eq_true rfl) (Nat.le_of_ble_eq_true rfl) ?_
            refine z_st (st' := [zv x_51]) rfl ?_
            rcases if_e H with ⟨h_52, H⟩ | ⟨h_52, H⟩
            · refine z_zeq_f (M := M_X12_simplify) (tgt := 80) dX12_simplify_75 (by decide) h_52 ?_
              refine z_iconst (M := M_X12_simplify) dX12_simplify_78 ?_
              cases H
              exact z_iret (M := M_X12_simplify) dX12_simplify_79 rfl (Nat.le_of_ble_eq_true rfl) (Nat.le_of_ble_eq_true rfl) ⟨rfl, rfl⟩
            · refine z_zeq_t (M := M_X12_simplify) (tgt := 80) dX12_simplify_75 (by decide) h_52 ?_
              refine z_aload_n (M := M_X12_simplify) dX12_simplify_80 rfl ?_
              refine z_bipush (M := M_X12_simplify) dX12_simplify_81 (by decide +kernel) ?_
              obtain ⟨σ_54, hc_53, H⟩ := bd_e H
              refine z_callV (M := M_X12_simplify) (M' := M_X12_clear) (as := [vi 32]) (rest := []) rfl rfl dX12_simplify_83 m_X12_clear t_2848 t_2850 s_161 (c_X12_clear hl  hc_53) rfl rfl ly_277 rfl (Nat.le_of_ble_eq_true rfl) (Nat.le_of_ble_eq_true rfl) (Nat.le_of_ble_eq_true rfl) (Nat.le_of_ble_eq_true rfl) ?_
              refine z_st (st' := []) rfl ?_
              refine z_aload_n (M := M_X12_simplify) dX12_simplify_86 rfl ?_
              refine z_getR (M := M_X12_simplify) (ci := 15) (C := RX12) (T := TX12) (Nf := 135) (ty := tyX12) cl15 dX12_simplify_87 ly_277 11 (by decide) t_2402 rfl ?_
              refine z_iload_n (M := M_X12_simplify) dX12_simplify_90 rfl ?_
              obtain ⟨x_55, x_55_e, hi_56, H⟩ := rd_e H
              refine z_iald (M := M_X12_simplify) dX12_simplify_91 ly_282 rfl rfl rfl hi_56 x_55_e ?_
              refine z_istore (M := M_X12_simplify) (lv' := [some (vr 277), some (vi slot_0), some (vi to_0), some (vi distance_0), some (vi x_55), none, none, none, none, none, none]) dX12_simplify_92 (Nat.le_of_ble_eq_true rfl) rfl rfl ?_
              refine z_sipush (M := M_X12_simplify) dX12_simplify_94 (by decide +kernel) ?_
              refine z_iload_n (M := M_X12_simplify) dX12_simplify_97 rfl ?_
              refine z_imul (M := M_X12_simplify) dX12_simplify_98 ?_
              refine z_istore (M := M_X12_simplify) (lv' := [some (vr 277), some (vi slot_0), some (vi to_0), some (vi distance_0), some (vi x_55), some (vi (2048 * slot_0)), none, none, none, none, none]) dX12_simplify_99 (Nat.le_of_ble_eq_true rfl) rfl rfl ?_
              refine z_iload (M := M_X12_simplify) dX12_simplify_101 rfl ?_
              refine z_aload_n (M := M_X12_simplify) dX12_simplify_103 rfl ?_
              refine z_getR (M := M_X12_simplify) (ci := 15) (C := RX12) (T := TX12) (Nf := 135) (ty := tyX12) cl15 dX12_simplify_104 ly_277 9 (by decide) t_2400 rfl ?_
              refine z_iload_n (M := M_X12_simplify) dX12_simplify_107 rfl ?_
              obtain ⟨x_57, x_57_e, hi_58, H⟩ := rd_e H
              refine z_iald (M := M_X12_simplify) dX12_simplify_108 ly_280 rfl rfl rfl hi_58 x_57_e ?_
              refine z_iadd (M := M_X12_simplify) dX12_simplify_109 ?_
              refine z_istore (M := M_X12_simplify) (lv' := [some (vr 277), some (vi slot_0), some (vi to_0), some (vi distance_0), some (vi x_55), some (vi (2048 * slot_0)), some (vi ((2048 * slot_0) + x_57)), none, none, none, none]) dX12_simplify_110 (Nat.le_of_ble_eq_true rfl) rfl rfl ?_
              refine z_sipush (M := M_X12_simplify) dX12_simplify_112 (by decide +kernel) ?_
              refine z_iload_n (M := M_X12_simplify) dX12_simplify_115 rfl ?_
              refine z_imul (M := M_X12_simplify) dX12_simplify_116 ?_
              refine z_istore (M := M_X12_simplify) (lv' := [some (vr 277), some (vi slot_0), some (vi to_0), some (vi distance_0), some (vi x_55), some (vi (2048 * slot_0)), some (vi ((2048 * slot_0) + x_57)), some (vi (2048 * slot_0)), none, none, none]) dX12_simplify_117 (Nat.le_of_ble_eq_true rfl) rfl rfl ?_
              obtain ⟨rl_65, hw_62, hk_63⟩ := bd_e H
              have J_151 : ∀ p_144 point_145 σ_146, rl_65 = (p_144, point_145, σ_146) → YY l E M_X12_simplify 7 0 0 (pS (some (vi r)) σ') 299 [some (vr 277), some (vi slot_0), some (vi to_0), some (vi distance_0), some (vi x_55), some (vi p_144), some (vi ((2048 * slot_0) + x_57)), some (vi point_145), none, none, none] [] σ_146 0 0 := by
                intro p_144 point_145 σ_146 e
                have H := hk_63
                rw [e] at H
                refine z_aload_n (M := M_X12_simplify) dX12_simplify_299 rfl ?_
                refine z_bipush (M := M_X12_simplify) dX12_simplify_300 (by decide +kernel) ?_
                refine z_iload_n (M := M_X12_simplify) dX12_simplify_302 rfl ?_
                obtain ⟨σ_148, hc_147, H⟩ := bd_e H
                refine z_callV (M := M_X12_simplify) (M' := M_X12_move) (as := [vi 32, vi to_0]) (rest := []) rfl rfl dX12_simplify_303 m_X12_move t_3021 t_3023 s_196 (c_X12_move hl  hc_147) rfl rfl ly_277 rfl (Nat.le_of_ble_eq_true rfl) (Nat.le_of_ble_eq_true rfl) (Nat.le_of_ble_eq_true rfl) (Nat.le_of_ble_eq_true rfl) ?_
                refine z_st (st' := []) rfl ?_
                refine z_iload (M := M_X12_simplify) dX12_simplify_306 rfl ?_
                refine z_aload_n (M := M_X12_simplify) dX12_simplify_308 rfl ?_
                refine z_getR (M := M_X12_simplify) (ci := 15) (C := RX12) (T := TX12) (Nf := 135) (ty := tyX12) cl15 dX12_simplify_309 ly_277 11 (by decide) t_2402 rfl ?_
                refine z_iload_n (M := M_X12_simplify) dX12_simplify_312 rfl ?_
                obtain ⟨x_149, x_149_e, hi_150, H⟩ := rd_e H
                refine z_iald (M := M_X12_simplify) dX12_simplify_313 ly_282 rfl rfl rfl hi_150 x_149_e ?_
                refine z_isub (M := M_X12_simplify) dX12_simplify_314 ?_
                cases H
                exact z_iret (M := M_X12_simplify) dX12_simplify_315 rfl (Nat.le_of_ble_eq_true rfl) (Nat.le_of_ble_eq_true rfl) ⟨rfl, rfl⟩
              refine whl_go hw_62 (fun (p_59, point_60, σ_61) => YY l E M_X12_simplify 7 0 0 (pS (some (vi r)) σ') 119 [some (vr 277), some (vi slot_0), some (vi to_0), some (vi distance_0), some (vi x_55), some (vi p_59), some (vi ((2048 * slot_0) + x_57)), some (vi point_60), none, none, none] [] σ_61 0 0) ?_
              rintro ⟨p_59, point_60, σ_61⟩ o_66 H K_67 K_68
              refine z_iload (M := M_X12_simplify) dX12_simplify_119 rfl ?_
              refine z_iload (M := M_X12_simplify) dX12_simplify_121 rfl ?_
              rcases if_e H with ⟨h_69, H⟩ | ⟨h_69, H⟩
              · refine z_icmp_ge_f (M := M_X12_simplify) (tgt := 299) dX12_simplify_123 (by decide) rfl rfl h_69 ?_
                refine z_aload_n (M := M_X12_simplify) dX12_simplify_126 rfl ?_
                refine z_getR (M := M_X12_simplify) (ci := 15) (C := RX12) (T := TX12) (Nf := 135) (ty := tyX12) cl15 dX12_simplify_127 ly_277 10 (by decide) t_2401 rfl ?_
                refine z_iload (M := M_X12_simplify) dX12_simplify_130 rfl ?_
                obtain ⟨x_70, x_70_e, hi_71, H⟩ := rd_e H
                refine z_iald (M := M_X12_simplify) dX12_simplify_132 ly_281 rfl rfl rfl hi_71 x_70_e ?_
                refine z_istore (M := M_X12_simplify) (lv' := [some (vr 277), some (vi slot_0), some (vi to_0), some (vi distance_0), some (vi x_55), some (vi p_59), some (vi ((2048 * slot_0) + x_57)), some (vi point_60), some (vi x_70), none, none]) dX12_simplify_133 (Nat.le_of_ble_eq_true rfl) rfl rfl ?_
                refine z_aload_n (M := M_X12_simplify) dX12_simplify_135 rfl ?_
                refine z_getR (M := M_X12_simplify) (ci := 15) (C := RX12) (T := TX12) (Nf := 135) (ty := tyX12) cl15 dX12_simplify_136 ly_277 10 (by decide) t_2401 rfl ?_
                refine z_iload (M := M_X12_simplify) dX12_simplify_139 rfl ?_
                refine z_iconst (M := M_X12_simplify) dX12_simplify_141 ?_
                refine z_iadd (M := M_X12_simplify) dX12_simplify_142 ?_
                obtain ⟨x_72, x_72_e, hi_73, H⟩ := rd_e H
                refine z_iald (M := M_X12_simplify) dX12_simplify_143 ly_281 rfl rfl rfl hi_73 x_72_e ?_
                refine z_istore (M := M_X12_simplify) (lv' := [some (vr 277), some (vi slot_0), some (vi to_0), some (vi distance_0), some (vi x_55), some (vi p_59), some (vi ((2048 * slot_0) + x_57)), some (vi point_60), some (vi x_70), some (vi x_72), none]) dX12_simplify_144 (Nat.le_of_ble_eq_true rfl) rfl rfl ?_
                refine z_iinc (M := M_X12_simplify) (lv' := [some (vr 277), some (vi slot_0), some (vi to_0), some (vi distance_0), some (vi x_55), some (vi (p_59 + 2)), some (vi ((2048 * slot_0) + x_57)), some (vi point_60), some (vi x_70), some (vi x_72), none]) dX12_simplify_146 rfl (Nat.le_of_ble_eq_true rfl) rfl rfl ?_
                refine z_aload_n (M := M_X12_simplify) dX12_simplify_149 rfl ?_
                refine z_iload (M := M_X12_simplify) dX12_simplify_150 rfl ?_
                obtain ⟨σ_75, hc_74, H⟩ := bd_e H
                refine z_callV (M := M_X12_simplify) (M' := M_X12_tell) (as := [vi x_70]) (rest := []) rfl rfl dX12_simplify_152 m_X12_tell t_2902 t_2904 s_170 (c_X12_tell hl  hc_74) rfl rfl ly_277 rfl (Nat.le_of_ble_eq_true rfl) (Nat.le_of_ble_eq_true rfl) (Nat.le_of_ble_eq_true rfl) (Nat.le_of_ble_eq_true rfl) ?_
                refine z_st (st' := []) rfl ?_
                refine z_iload (M := M_X12_simplify) dX12_simplify_155 rfl ?_
                refine z_iconst (M := M_X12_simplify) dX12_simplify_157 ?_
                rcases if_e H with ⟨h_76, H⟩ | ⟨h_76, H⟩
                · refine z_icmp_ne_f (M := M_X12_simplify) (tgt := 185) dX12_simplify_158 (by decide) rfl (by decide +kernel) h_76 ?_
                  refine z_aload_n (M := M_X12_simplify) dX12_simplify_161 rfl ?_
                  refine z_aload_n (M := M_X12_simplify) dX12_simplify_162 rfl ?_
                  refine z_iload (M := M_X12_simplify) dX12_simplify_163 rfl ?_
                  refine z_iload (M := M_X12_simplify) dX12_simplify_165 rfl ?_
                  refine z_iload_n (M := M_X12_simplify) dX12_simplify_167 rfl ?_
                  refine z_i2l (M := M_X12_simplify) dX12_simplify_168 ?_
                  obtain ⟨⟨x_79, σ_78⟩, hc_77, H⟩ := bd_e H
                  refine z_callV (M := M_X12_simplify) (M' := M_X12_keeps) (as := [vi point_60, vi x_72, vl (w32 distance_0)]) (rest := [vr 277]) rfl rfl dX12_simplify_169 m_X12_keeps t_3689 t_3691 s_323 (c_X12_keeps hl  hc_77) rfl rfl ly_277 rfl (Nat.le_of_ble_eq_true rfl) (Nat.le_of_ble_eq_true rfl) (Nat.le_of_ble_eq_true rfl) (Nat.le_of_ble_eq_true rfl) ?_
                  refine z_st (st' := [vi x_79, vr 277]) rfl ?_
                  obtain ⟨σ_81, hc_80, H⟩ := bd_e H
                  refine z_callV (M := M_X12_simplify) (M' := M_X12_tell) (as := [vi x_79]) (rest := []) rfl rfl dX12_simplify_172 m_X12_tell t_2902 t_2904 s_170 (c_X12_tell hl  hc_80) rfl rfl ly_277 rfl (Nat.le_of_ble_eq_true rfl) (Nat.le_of_ble_eq_true rfl) (Nat.le_of_ble_eq_true rfl) (Nat.le_of_ble_eq_true rfl) ?_
                  refine z_st (st' := []) rfl ?_
                  refine z_iload (M := M_X12_simplify) dX12_simplify_175 rfl ?_
                  refine z_iload (M := M_X12_simplify) dX12_simplify_177 rfl ?_
                  refine z_iadd (M := M_X12_simplify) dX12_simplify_179 ?_
                  refine z_istore (M := M_X12_simplify) (lv' := [some (vr 277), some (vi slot_0), some (vi to_0), some (vi distance_0), some (vi x_55), some (vi (p_59 + 2)), some (vi ((2048 * slot_0) + x_57)), some (vi (point_60 + x_72)), some (vi x_70), some (vi x_72), none]) dX12_simplify_180 (Nat.le_of_ble_eq_true rfl) rfl rfl ?_
                  refine z_goto (M := M_X12_simplify) (tgt := 119) dX12_simplify_182 (by decide) ?_
                  refine z_le (lv' := [some (vr 277), some (vi slot_0), some (vi to_0), some (vi distance_0), some (vi x_55), some (vi (p_59 + 2)), some (vi ((2048 * slot_0) + x_57)), some (vi (point_60 + x_72)), none, none, none]) ⟨Or.inr rfl, Or.inr rfl, Or.inr rfl, Or.inr rfl, Or.inr rfl, Or.inr rfl, Or.inr rfl, Or.inr rfl, Or.inl rfl, Or.inl rfl, Or.inl rfl, trivial⟩ ?_
                  exact K_67 _ (Option.some.inj H).symm
                · refine z_icmp_ne_t (M := M_X12_simplify) (tgt := 185) dX12_simplify_158 (by decide) rfl (by decide +kernel) h_76 ?_
                  refine z_aload_n (M := M_X12_simplify) dX12_simplify_185 rfl ?_
                  refine z_iload (M := M_X12_simplify) dX12_simplify_186 rfl ?_
                  obtain ⟨σ_84, hc_83, H⟩ := bd_e H
                  refine z_callV (M := M_X12_simplify) (M' := M_X12_tell) (as := [vi x_72]) (rest := []) rfl rfl dX12_simplify_188 m_X12_tell t_2902 t_2904 s_170 (c_X12_tell hl  hc_83) rfl rfl ly_277 rfl (Nat.le_of_ble_eq_true rfl) (Nat.le_of_ble_eq_true rfl) (Nat.le_of_ble_eq_true rfl) (Nat.le_of_ble_eq_true rfl) ?_
                  refine z_st (st' := []) rfl ?_
                  obtain ⟨v_88, he_85, hk_86⟩ := bd_e H
                  have J_142 : ∀ σ_104, v_88 = σ_104 → YY l E M_X12_simplify 7 0 0 (pS (some (vi r)) σ') 223 [some (vr 277), some (vi slot_0), some (vi to_0), some (vi distance_0), some (vi x_55), some (vi (p_59 + 2)), some (vi ((2048 * slot_0) + x_57)), some (vi point_60), some (vi x_70), some (vi x_72), none] [] σ_104 0 0 := by
                    intro σ_104 e
                    have H := hk_86
                    rw [e] at H
                    refine z_iload (M := M_X12_simplify) dX12_simplify_223 rfl ?_
                    have J_105 : YY l E M_X12_simplify 7 0 0 (pS (some (vi r)) σ') 237 [some (vr 277), some (vi slot_0), some (vi to_0), some (vi distance_0), some (vi x_55), some (vi (p_59 + 2)), some (vi ((2048 * slot_0) + x_57)), some (vi point_60), some (vi x_70), some (vi x_72), none] [vi (if (w32 x_70) = 1 then x_72 else 0), vi point_60] σ_104 0 0 := by
                      refine z_iadd (M := M_X12_simplify) dX12_simplify_237 ?_
                      refine z_istore (M := M_X12_simplify) (lv' := [some (vr 277), some (vi slot_0), some (vi to_0), some (vi distance_0), some (vi x_55), some (vi (p_59 + 2)), some (vi ((2048 * slot_0) + x_57)), some (vi (point_60 + (if (w32 x_70) = 1 then x_72 else 0))), some (vi x_70), some (vi x_72), none]) dX12_simplify_238 (Nat.le_of_ble_eq_true rfl) rfl rfl ?_
                      refine z_iconst (M := M_X12_simplify) dX12_simplify_240 ?_
                      refine z_istore (M := M_X12_simplify) (lv' := [some (vr 277), some (vi slot_0), some (vi to_0), some (vi distance_0), some (vi x_55), some (vi (p_59 + 2)), some (vi ((2048 * slot_0) + x_57)), some (vi (point_60 + (if (w32 x_70) = 1 then x_72 else 0))), some (vi x_70), some (vi x_72), some (vi 0)]) dX12_simplify_241 (Nat.le_of_ble_eq_true rfl) rfl rfl ?_
                      obtain ⟨rl_113, hw_110, hk_111⟩ := bd_e H
                      have J_140 : ∀ p_135 point_136 k_137 σ_138, rl_113 = (p_135, point_136, k_137, σ_138) → YY l E M_X12_simplify 7 0 0 (pS (some (vi r)) σ') 296 [some (vr 277), some (vi slot_0), some (vi to_0), some (vi distance_0), some (vi x_55), some (vi p_135), some (vi ((2048 * slot_0) + x_57)), some (vi point_136), some (vi x_70), some (vi x_72), some (vi k_137)] [] σ_138 0 0 := by
                        intro p_135 point_136 k_137 σ_138 e
                        have H := hk_111
                        rw [e] at H
                        refine z_goto (M := M_X12_simplify) (tgt := 119) dX12_simplify_296 (by decide) ?_
                        refine z_le (lv' := [some (vr 277), some (vi slot_0), some (vi to_0), some (vi distance_0), some (vi x_55), some (vi p_135), some (vi ((2048 * slot_0) + x_57)), some (vi point_136), none, none, none]) ⟨Or.inr rfl, Or.inr rfl, Or.inr rfl, Or.inr rfl, Or.inr rfl, Or.inr rfl, Or.inr rfl, Or.inr rfl, Or.inl rfl, Or.inl rfl, Or.inl rfl, trivial⟩ ?_
                        exact K_67 _ (Option.some.inj H).symm
                      refine whl_go hw_110 (fun (p_106, point_107, k_108, σ_109) => YY l E M_X12_simplify 7 0 0 (pS (some (vi r)) σ') 243 [some (vr 277), some (vi slot_0), some (vi to_0), some (vi distance_0), some (vi x_55), some (vi p_106), some (vi ((2048 * slot_0) + x_57)), some (vi point_107), some (vi x_70), some (vi x_72), some (vi k_108)] [] σ_109 0 0) ?_
                      rintro ⟨p_106, point_107, k_108, σ_109⟩ o_114 H K_115 K_116
                      rcases if_e H with ⟨h_128, H⟩ | ⟨h_128, H⟩
                      · have J_129 : YY l E M_X12_simplify 7 0 0 (pS (some (vi r)) σ') 256 [some (vr 277), some (vi slot_0), some (vi to_0), some (vi distance_0), some (vi x_55), some (vi p_106), some (vi ((2048 * slot_0) + x_57)), some (vi point_107), some (vi x_70), some (vi x_72), some (vi k_108)] [] σ_109 0 0 := by
                          refine z_aload_n (M := M_X12_simplify) dX12_simplify_256 rfl ?_
                          refine z_aload_n (M := M_X12_simplify) dX12_simplify_257 rfl ?_
                          refine z_iload (M := M_X12_simplify) dX12_simplify_258 rfl ?_
                          refine z_aload_n (M := M_X12_simplify) dX12_simplify_260 rfl ?_
                          refine z_getR (M := M_X12_simplify) (ci := 15) (C := RX12) (T := TX12) (Nf := 135) (ty := tyX12) cl15 dX12_simplify_261 ly_277 10 (by decide) t_2401 rfl ?_
                          refine z_iload (M := M_X12_simplify) dX12_simplify_264 rfl ?_
                          obtain ⟨x_117, x_117_e, hi_118, H⟩ := rd_e H
                          refine z_iald (M := M_X12_simplify) dX12_simplify_266 ly_281 rfl rfl rfl hi_118 x_117_e ?_
                          refine z_iload_n (M := M_X12_simplify) dX12_simplify_267 rfl ?_
                          refine z_i2l (M := M_X12_simplify) dX12_simplify_268 ?_
                          obtain ⟨⟨x_121, σ_120⟩, hc_119, H⟩ := bd_e H
                          refine z_callV (M := M_X12_simplify) (M' := M_X12_keeps) (as := [vi point_107, vi x_117, vl (w32 distance_0)]) (rest := [vr 277]) rfl rfl dX12_simplify_269 m_X12_keeps t_3689 t_3691 s_323 (c_X12_keeps hl  hc_119) rfl rfl ly_277 rfl (Nat.le_of_ble_eq_true rfl) (Nat.le_of_ble_eq_true rfl) (Nat.le_of_ble_eq_true rfl) (Nat.le_of_ble_eq_true rfl) ?_
                          refine z_st (st' := [vi x_121, vr 277]) rfl ?_
                          obtain ⟨σ_123, hc_122, H⟩ := bd_e H
                          refine z_callV (M := M_X12_simplify) (M' := M_X12_tell) (as := [vi x_121]) (rest := []) rfl rfl dX12_simplify_272 m_X12_tell t_2902 t_2904 s_170 (c_X12_tell hl  hc_122) rfl rfl ly_277 rfl (Nat.le_of_ble_eq_true rfl) (Nat.le_of_ble_eq_true rfl) (Nat.le_of_ble_eq_true rfl) (Nat.le_of_ble_eq_true rfl) ?_
                          refine z_st (st' := []) rfl ?_
                          refine z_iload (M := M_X12_simplify) dX12_simplify_275 rfl ?_
                          refine z_aload_n (M := M_X12_simplify) dX12_simplify_277 rfl ?_
                          refine z_getR (M := M_X12_simplify) (ci := 15) (C := RX12) (T := TX12) (Nf := 135) (ty := tyX12) cl15 dX12_simplify_278 ly_277 10 (by decide) t_2401 rfl ?_
                          refine z_iload (M := M_X12_simplify) dX12_simplify_281 rfl ?_
                          obtain ⟨x_124, x_124_e, hi_125, H⟩ := rd_e H
                          refine z_iald (M := M_X12_simplify) dX12_simplify_283 ly_281 rfl rfl rfl hi_125 x_124_e ?_
                          refine z_iadd (M := M_X12_simplify) dX12_simplify_284 ?_
                          refine z_istore (M := M_X12_simplify) (lv' := [some (vr 277), some (vi slot_0), some (vi to_0), some (vi distance_0), some (vi x_55), some (vi p_106), some (vi ((2048 * slot_0) + x_57)), some (vi (point_107 + x_124)), some (vi x_70), some (vi x_72), some (vi k_108)]) dX12_simplify_285 (Nat.le_of_ble_eq_true rfl) rfl rfl ?_
                          refine z_iinc (M := M_X12_simplify) (lv' := [some (vr 277), some (vi slot_0), some (vi to_0), some (vi distance_0), some (vi x_55), some (vi (p_106 + 1)), some (vi ((2048 * slot_0) + x_57)), some (vi (point_107 + x_124)), some (vi x_70), some (vi x_72), some (vi k_108)]) dX12_simplify_287 rfl (Nat.le_of_ble_eq_true rfl) rfl rfl ?_
                          refine z_iinc (M := M_X12_simplify) (lv' := [some (vr 277), some (vi slot_0), some (vi to_0), some (vi distance_0), some (vi x_55), some (vi (p_106 + 1)), some (vi ((2048 * slot_0) + x_57)), some (vi (point_107 + x_124)), some (vi x_70), some (vi x_72), some (vi (k_108 + 1))]) dX12_simplify_290 rfl (Nat.le_of_ble_eq_true rfl) rfl rfl ?_
                          refine z_goto (M := M_X12_simplify) (tgt := 243) dX12_simplify_293 (by decide) ?_
                          exact K_115 _ (Option.some.inj H).symm
                        refine z_iload (M := M_X12_simplify) dX12_simplify_243 rfl ?_
                        refine z_iconst (M := M_X12_simplify) dX12_simplify_245 ?_
                        by_cases h_131 : (w32 x_70) = 3
                        · refine z_icmp_ne_f (M := M_X12_simplify) (tgt := 296) dX12_simplify_246 (by decide) rfl (by decide +kernel) h_131 ?_
                          refine z_iload (M := M_X12_simplify) dX12_simplify_249 rfl ?_
                          refine z_iload (M := M_X12_simplify) dX12_simplify_251 rfl ?_
                          by_cases h_132 : (w32 k_108) < (w32 x_72)
                          · refine z_icmp_ge_f (M := M_X12_simplify) (tgt := 296) dX12_simplify_253 (by decide) rfl rfl h_132 ?_
                            exact J_129
                          · refine z_icmp_ge_t (M := M_X12_simplify) (tgt := 296) dX12_simplify_253 (by decide) rfl rfl (Int.not_lt.mp h_132) ?_
                            exact absurd h_128 (fun q => h_132 q.2)
                        · refine z_icmp_ne_t (M := M_X12_simplify) (tgt := 296) dX12_simplify_246 (by decide) rfl (by decide +kernel) h_131 ?_
                          exact absurd h_128 (fun q => h_131 q.1)
                      · have J_130 : YY l E M_X12_simplify 7 0 0 (pS (some (vi r)) σ') 296 [some (vr 277), some (vi slot_0), some (vi to_0), some (vi distance_0), some (vi x_55), some (vi p_106), some (vi ((2048 * slot_0) + x_57)), some (vi point_107), some (vi x_70), some (vi x_72), some (vi k_108)] [] σ_109 0 0 := by
                          exact J_140 _ _ _ _ (K_116 _ (Option.some.inj H).symm).symm
                        refine z_iload (M := M_X12_simplify) dX12_simplify_243 rfl ?_
                        refine z_iconst (M := M_X12_simplify) dX12_simplify_245 ?_
                        by_cases h_133 : (w32 x_70) = 3
                        · refine z_icmp_ne_f (M := M_X12_simplify) (tgt := 296) dX12_simplify_246 (by decide) rfl (by decide +kernel) h_133 ?_
                          refine z_iload (M := M_X12_simplify) dX12_simplify_249 rfl ?_
                          refine z_iload (M := M_X12_simplify) dX12_simplify_251 rfl ?_
                          by_cases h_134 : (w32 k_108) < (w32 x_72)
                          · refine z_icmp_ge_f (M := M_X12_simplify) (tgt := 296) dX12_simplify_253 (by decide) rfl rfl h_134 ?_
                            exact absurd ⟨h_133, h_134⟩ h_128
                          · refine z_icmp_ge_t (M := M_X12_simplify) (tgt := 296) dX12_simplify_253 (by decide) rfl rfl (Int.not_lt.mp h_134) ?_
                            exact J_130
                        · refine z_icmp_ne_t (M := M_X12_simplify) (tgt := 296) dX12_simplify_246 (by decide) rfl (by decide +kernel) h_133 ?_
                          exact J_130
                    refine z_iload (M := M_X12_simplify) dX12_simplify_225 rfl ?_
                    refine z_iconst (M := M_X12_simplify) dX12_simplify_227 ?_
                    by_cases h_141 : (w32 x_70) = 1
                    · refine z_icmp_ne_f (M := M_X12_simplify) (tgt := 236) dX12_simplify_228 (by decide) rfl (by decide +kernel) h_141 ?_
                      refine z_iload (M := M_X12_simplify) dX12_simplify_231 rfl ?_
                      refine z_goto (M := M_X12_simplify) (tgt := 237) dX12_simplify_233 (by decide) ?_
                      exact z_st (by rw [if_pos (c := (w32 x_70) = 1) h_141]) J_105
                    · refine z_icmp_ne_t (M := M_X12_simplify) (tgt := 236) dX12_simplify_228 (by decide) rfl (by decide +kernel) h_141 ?_
                      refine z_iconst (M := M_X12_simplify) dX12_simplify_236 ?_
                      exact z_st (by rw [if_neg (c := (w32 x_70) = 1) h_141]) J_105
                  have H := he_85
                  rcases if_e H with ⟨h_97, H⟩ | ⟨h_97, H⟩
                  · have J_98 : YY l E M_X12_simplify 7 0 0 (pS (some (vi r)) σ') 203 [some (vr 277), some (vi slot_0), some (vi to_0), some (vi distance_0), some (vi x_55), some (vi (p_59 + 2)), some (vi ((2048 * slot_0) + x_57)), some (vi point_60), some (vi x_70), some (vi x_72), none] [] σ_84 0 0 := by
                      refine z_aload_n (M := M_X12_simplify) dX12_simplify_203 rfl ?_
                      refine z_aload_n (M := M_X12_simplify) dX12_simplify_204 rfl ?_
                      refine z_getR (M := M_X12_simplify) (ci := 15) (C := RX12) (T := TX12) (Nf := 135) (ty := tyX12) cl15 dX12_simplify_205 ly_277 12 (by decide) t_2403 rfl ?_
                      refine z_iload (M := M_X12_simplify) dX12_simplify_208 rfl ?_
                      obtain ⟨x_89, x_89_e, hi_90, H⟩ := rd_e H
                      refine z_iald (M := M_X12_simplify) dX12_simplify_210 ly_283 rfl rfl rfl hi_90 x_89_e ?_
                      refine z_i2l (M := M_X12_simplify) dX12_simplify_211 ?_
                      refine z_aload_n (M := M_X12_simplify) dX12_simplify_212 rfl ?_
                      refine z_getR (M := M_X12_simplify) (ci := 15) (C := RX12) (T := TX12) (Nf := 135) (ty := tyX12) cl15 dX12_simplify_213 ly_277 13 (by decide) t_2404 rfl ?_
                      refine z_iload (M := M_X12_simplify) dX12_simplify_216 rfl ?_
                      obtain ⟨x_91, x_91_e, hi_92, H⟩ := rd_e H
                      refine z_iald (M := M_X12_simplify) dX12_simplify_218 ly_284 rfl rfl rfl hi_92 x_91_e ?_
                      refine z_i2l (M := M_X12_simplify) dX12_simplify_219 ?_
                      obtain ⟨σ_94, hc_93, H⟩ := bd_e H
                      refine z_callV (M := M_X12_simplify) (M' := M_X12_dot) (as := [vl (w32 x_89), vl (w32 x_91)]) (rest := []) rfl rfl dX12_simplify_220 m_X12_dot t_2938 t_2940 s_178 (c_X12_dot hl  hc_93) rfl rfl ly_277 rfl (Nat.le_of_ble_eq_true rfl) (Nat.le_of_ble_eq_true rfl) (Nat.le_of_ble_eq_true rfl) (Nat.le_of_ble_eq_true rfl) ?_
                      refine z_st (st' := []) rfl ?_
                      exact J_142 _ (Option.some.inj H).symm
                    refine z_iload (M := M_X12_simplify) dX12_simplify_191 rfl ?_
                    refine z_iconst (M := M_X12_simplify) dX12_simplify_193 ?_
                    by_cases h_100 : (w32 x_70) = 1
                    · refine z_icmp_ne_f (M := M_X12_simplify) (tgt := 223) dX12_simplify_194 (by decide) rfl (by decide +kernel) h_100 ?_
                      refine z_iload (M := M_X12_simplify) dX12_simplify_197 rfl ?_
                      refine z_iconst (M := M_X12_simplify) dX12_simplify_199 ?_
                      by_cases h_101 : (w32 x_72) = 1
                      · refine z_icmp_ne_f (M := M_X12_simplify) (tgt := 223) dX12_simplify_200 (by decide) rfl (by decide +kernel) h_101 ?_
                        exact J_98
                      · refine z_icmp_ne_t (M := M_X12_simplify) (tgt := 223) dX12_simplify_200 (by decide) rfl (by decide +kernel) h_101 ?_
                        exact absurd h_97 (fun q => h_101 q.2)
                    · refine z_icmp_ne_t (M := M_X12_simplify) (tgt := 223) dX12_simplify_194 (by decide) rfl (by decide +kernel) h_100 ?_
                      exact absurd h_97 (fun q => h_100 q.1)
                  · have J_99 : YY l E M_X12_simplify 7 0 0 (pS (some (vi r)) σ') 223 [some (vr 277), some (vi slot_0), some (vi to_0), some (vi distance_0), some (vi x_55), some (vi (p_59 + 2)), some (vi ((2048 * slot_0) + x_57)), some (vi point_60), some (vi x_70), some (vi x_72), none] [] σ_84 0 0 := by
                      exact J_142 _ (Option.some.inj H).symm
                    refine z_iload (M := M_X12_simplify) dX12_simplify_191 rfl ?_
                    refine z_iconst (M := M_X12_simplify) dX12_simplify_193 ?_
                    by_cases h_102 : (w32 x_70) = 1
                    · refine z_icmp_ne_f (M := M_X12_simplify) (tgt := 223) dX12_simplify_194 (by decide) rfl (by decide +kernel) h_102 ?_
                      refine z_iload (M := M_X12_simplify) dX12_simplify_197 rfl ?_
                      refine z_iconst (M := M_X12_simplify) dX12_simplify_199 ?_
                      by_cases h_103 : (w32 x_72) = 1
                      · refine z_icmp_ne_f (M := M_X12_simplify) (tgt := 223) dX12_simplify_200 (by decide) rfl (by decide +kernel) h_103 ?_
                        exact absurd ⟨h_102, h_103⟩ h_97
                      · refine z_icmp_ne_t (M := M_X12_simplify) (tgt := 223) dX12_simplify_200 (by decide) rfl (by decide +kernel) h_103 ?_
                        exact J_99
                    · refine z_icmp_ne_t (M := M_X12_simplify) (tgt := 223) dX12_simplify_194 (by decide) rfl (by decide +kernel) h_102 ?_
                      exact J_99
              · refine z_icmp_ge_t (M := M_X12_simplify) (tgt := 299) dX12_simplify_123 (by decide) rfl rfl (Int.not_lt.mp h_69) ?_
                exact J_151 _ _ _ (K_68 _ (Option.some.inj H).symm).symm
          refine z_iload_n (M := M_X12_simplify) dX12_simplify_54 rfl ?_
          refine z_i2l (M := M_X12_simplify) dX12_simplify_55 ?_
          refine z_lconst (M := M_X12_simplify) (m := 0) dX12_simplify_56 (by decide +kernel) ?_
          refine z_ldc2 (M := M_X12_simplify) (n := 1000000000) dX12_simplify_57 t_2937 (by decide +kernel) ?_
          refine z_callS (M := M_X12_simplify) (M' := M_X12_in) (as := [vl (w32 distance_0), vl 0, vl 1000000000]) (rest := [vr 277]) rfl rfl dX12_simplify_60 m_X12_in t_2818 t_2819 (c_X12_in hl  rfl) rfl rfl (Nat.le_of_ble_eq_true rfl) (Nat.le_of_ble_eq_true rfl) (Nat.le_of_ble_eq_true rfl) (Nat.le_of_ble_eq_true rfl) ?_
          refine z_st (st' := [zv (fR_in (w32 distance_0) 0 1000000000), vr 277]) rfl ?_
          by_cases h_152 : (fR_in (w32 distance_0) 0 1000000000) = true
          · refine z_zne_t (M := M_X12_simplify) (tgt := 70) dX12_simplify_63 (by decide) h_152 ?_
            refine z_iconst (M := M_X12_simplify) dX12_simplify_70 ?_
            exact z_st (by rw [zv_f (p := ¬ ((fR_in (w32 distance_0) 0 1000000000) = true)) (not_not_intro h_152)]) J_48
          · refine z_zne_f (M := M_X12_simplify) (tgt := 70) dX12_simplify_63 (by decide) h_152 ?_
            refine z_iconst (M := M_X12_simplify) dX12_simplify_66 ?_
            refine z_goto (M := M_X12_simplify) (tgt := 71) dX12_simplify_67 (by decide) ?_
            exact z_st (by rw [zv_t (p := ¬ ((fR_in (w32 distance_0) 0 1000000000) = true)) h_152]) J_48
      have H := he_154
      refine z_aload_n (M := M_X12_simplify) dX12_simplify_33 rfl ?_
      refine z_iload_n (M := M_X12_simplify) dX12_simplify_34 rfl ?_
      obtain ⟨x_39, hc_38, H⟩ := bd_e H
      refine z_callV (M := M_X12_simplify) (M' := M_X12_has) (as := [vi slot_0]) (rest := [vr 277]) rfl rfl dX12_simplify_35 m_X12_has t_3033 t_3035 s_197 (c_X12_has hl  hc_38) rfl rfl ly_277 rfl (Nat.le_of_ble_eq_true rfl) (Nat.le_of_ble_eq_true rfl) (Nat.le_of_ble_eq_true rfl) (Nat.le_of_ble_eq_true rfl) ?_
      refine z_st (st' := [zv x_39, vr 277]) rfl ?_
      rcases if_e H with ⟨h_40, H⟩ | ⟨h_40, H⟩
      · refine z_zne_t (M := M_X12_simplify) (tgt := 45) dX12_simplify_38 (by decide) h_40 ?_
        refine z_zconst (M := M_X12_simplify) (b := false) dX12_simplify_45 rfl ?_
        exact J_156 _ (Option.some.inj H).symm
      · refine z_zne_f (M := M_X12_simplify) (tgt := 45) dX12_simplify_38 (by decide) h_40 ?_
        refine z_zconst (M := M_X12_simplify) (b := true) dX12_simplify_41 rfl ?_
        refine z_goto (M := M_X12_simplify) (tgt := 46) dX12_simplify_42 (by decide) ?_
        exact J_156 _ (Option.some.inj H).symm
  refine z_iload_n (M := M_X12_simplify) dX12_simplify_6 rfl ?_
  refine z_callS (M := M_X12_simplify) (M' := M_X12_isSlot) (as := [vi slot_0]) (rest := [vr 277]) rfl rfl dX12_simplify_7 m_X12_isSlot t_2841 t_2842 (c_X12_isSlot hl  rfl) rfl rfl (Nat.le_of_ble_eq_true rfl) (Nat.le_of_ble_eq_true rfl) (Nat.le_of_ble_eq_true rfl) (Nat.le_of_ble_eq_true rfl) ?_
  refine z_st (st' := [zv (fR_isSlot slot_0), vr 277]) rfl ?_
  by_cases h_157 : (fR_isSlot slot_0) = true
  · refine z_zeq_f (M := M_X12_simplify) (tgt := 20) dX12_simplify_10 (by decide) h_157 ?_
    refine z_iload_n (M := M_X12_simplify) dX12_simplify_13 rfl ?_
    refine z_callS (M := M_X12_simplify) (M' := M_X12_isSlot) (as := [vi to_0]) (rest := [vr 277]) rfl rfl dX12_simplify_14 m_X12_isSlot t_2841 t_2842 (c_X12_isSlot hl  rfl) rfl rfl (Nat.le_of_ble_eq_true rfl) (Nat.le_of_ble_eq_true rfl) (Nat.le_of_ble_eq_true rfl) (Nat.le_of_ble_eq_true rfl) ?_
    refine z_st (st' := [zv (fR_isSlot to_0), vr 277]) rfl ?_
    by_cases h_158 : (fR_isSlot to_0) = true
    · refine z_zne_t (M := M_X12_simplify) (tgt := 24) dX12_simplify_17 (by decide) h_158 ?_
      refine z_iconst (M := M_X12_simplify) dX12_simplify_24 ?_
      exact z_st (by rw [zv_f (p := (¬ ((fR_isSlot slot_0) = true)) ∨ (¬ ((fR_isSlot to_0) = true))) (fun q => q.elim (not_not_intro h_157) (not_not_intro h_158))]) J_33
    · refine z_zne_f (M := M_X12_simplify) (tgt := 24) dX12_simplify_17 (by decide) h_158 ?_
      refine z_iconst (M := M_X12_simplify) dX12_simplify_20 ?_
      refine z_goto (M := M_X12_simplify) (tgt := 25) dX12_simplify_21 (by decide) ?_
      exact z_st (by rw [zv_t (p := (¬ ((fR_isSlot slot_0) = true)) ∨ (¬ ((fR_isSlot to_0) = true))) (Or.inr h_158)]) J_33
  · refine z_zeq_t (M := M_X12_simplify) (tgt := 20) dX12_simplify_10 (by decide) h_157 ?_
    refine z_iconst (M := M_X12_simplify) dX12_simplify_20 ?_
    refine z_goto (M := M_X12_simplify) (tgt := 25) dX12_simplify_21 (by decide) ?_
    exact z_st (by rw [zv_t (p := (¬ ((fR_isSlot slot_0) = true)) ∨ (¬ ((fR_isSlot to_0) = true))) (Or.inl h_157)]) J_33
end LFBD
