section LFAS
variable {l : Launch} {E : EE}
theorem c_X12_same (hl : l.stackTraces = false) {σ : SG} {slot_0 : Int} {other_0 : Int} {r : Bool} {σ' : SG}  (H : fR_same σ slot_0 other_0 = some (r, σ')) : en_S l E M_X12_same 2 0 0 [vr 277, vi slot_0, vi other_0] σ (pS (some (zv r)) σ') := by
  unfold fR_same at H
  refine z_mk (lv := [some (vr 277), some (vi slot_0), some (vi other_0), none, none]) m_X12_same rfl hl (Nat.le_of_ble_eq_true rfl) rfl ?_
  refine z_aload_n (M := M_X12_same) dX12_same_0 rfl ?_
  refine z_iconst (M := M_X12_same) dX12_same_1 ?_
  obtain ⟨σ_1, σ_1_e, H⟩ := wf_e H
  refine z_putI (M := M_X12_same) (ci := 15) (C := RX12) (T := TX12) (Nf := 135) (ty := tyX12) cl15 dX12_same_2 ly_277 0 (by decide) t_2391 rfl rfl rfl rfl σ_1_e ?_
  refine z_aload_n (M := M_X12_same) dX12_same_5 rfl ?_
  have J_2 : YY l E M_X12_same 2 0 0 (pS (some (zv r)) σ') 25 [some (vr 277), some (vi slot_0), some (vi other_0), none, none] [zv (decide ((¬ ((fR_isSlot slot_0) = true)) ∨ (¬ ((fR_isSlot other_0) = true)))), vr 277] σ_1 0 0 := by
    refine z_iconst (M := M_X12_same) dX12_same_25 ?_
    obtain ⟨⟨x_5, σ_4⟩, hc_3, H⟩ := bd_e H
    refine z_callV (M := M_X12_same) (M' := M_X12_fails) (as := [zv (decide ((¬ ((fR_isSlot slot_0) = true)) ∨ (¬ ((fR_isSlot other_0) = true)))), vi 1]) (rest := []) rfl rfl dX12_same_26 m_X12_fails t_2805 t_2807 s_157 (c_X12_fails hl  hc_3) rfl rfl ly_277 rfl (Nat.le_of_ble_eq_true rfl) (Nat.le_of_ble_eq_true rfl) (Nat.le_of_ble_eq_true rfl) (Nat.le_of_ble_eq_true rfl) ?_
    refine z_st (st' := [zv x_5]) rfl ?_
    rcases if_e H with ⟨h_6, H⟩ | ⟨h_6, H⟩
    · refine z_zeq_f (M := M_X12_same) (tgt := 34) dX12_same_29 (by decide) h_6 ?_
      refine z_zconst (M := M_X12_same) (b := false) dX12_same_32 rfl ?_
      cases H
      exact z_zret (M := M_X12_same) dX12_same_33 rfl (Nat.le_of_ble_eq_true rfl) (Nat.le_of_ble_eq_true rfl) ⟨rfl, rfl⟩
    · refine z_zeq_t (M := M_X12_same) (tgt := 34) dX12_same_29 (by decide) h_6 ?_
      obtain ⟨v_105, he_106, hk_107⟩ := bd_e H
      have J_108 : ∀ x_20, v_105 = x_20 → YY l E M_X12_same 2 0 0 (pS (some (zv r)) σ') 69 [some (vr 277), some (vi slot_0), some (vi other_0), none, none] [zv x_20] σ_4 0 0 := by
        intro x_20 e
        have H := hk_107
        rw [e] at H
        refine z_zstore_n (M := M_X12_same) (lv' := [some (vr 277), some (vi slot_0), some (vi other_0), some (zv x_20), none]) dX12_same_69 (Nat.le_of_ble_eq_true rfl) rfl rfl ?_
        refine z_iconst (M := M_X12_same) dX12_same_70 ?_
        refine z_istore (M := M_X12_same) (lv' := [some (vr 277), some (vi slot_0), some (vi other_0), some (zv x_20), some (vi 0)]) dX12_same_71 (Nat.le_of_ble_eq_true rfl) rfl rfl ?_
        obtain ⟨rl_26, hw_23, hk_24⟩ := bd_e H
        have J_104 : ∀ like_57 k_58, rl_26 = (like_57, k_58) → YY l E M_X12_same 2 0 0 (pS (some (zv r)) σ') 129 [some (vr 277), some (vi slot_0), some (vi other_0), some (zv like_57), some (vi k_58)] [] σ_4 0 0 := by
          intro like_57 k_58 e
          have H := hk_24
          rw [e] at H
          refine z_iconst (M := M_X12_same) dX12_same_129 ?_
          refine z_istore (M := M_X12_same) (lv' := [some (vr 277), some (vi slot_0), some (vi other_0), some (zv like_57), some (vi 0)]) dX12_same_130 (Nat.le_of_ble_eq_true rfl) rfl rfl ?_
          obtain ⟨rl_64, hw_61, hk_62⟩ := bd_e H
          have J_103 : ∀ like_101 k_102, rl_64 = (like_101, k_102) → YY l E M_X12_same 2 0 0 (pS (some (zv r)) σ') 217 [some (vr 277), some (vi slot_0), some (vi other_0), some (zv like_101), some (vi k_102)] [] σ_4 0 0 := by
            intro like_101 k_102 e
            have H := hk_62
            rw [e] at H
            refine z_zload_n (M := M_X12_same) dX12_same_217 rfl ?_
            cases H
            exact z_zret (M := M_X12_same) dX12_same_218 rfl (Nat.le_of_ble_eq_true rfl) (Nat.le_of_ble_eq_true rfl) ⟨rfl, rfl⟩
          refine whl_go hw_61 (fun (like_59, k_60) => YY l E M_X12_same 2 0 0 (pS (some (zv r)) σ') 132 [some (vr 277), some (vi slot_0), some (vi other_0), some (zv like_59), some (vi k_60)] [] σ_4 0 0) ?_
          rintro ⟨like_59, k_60⟩ o_65 H K_66 K_67
          refine z_zload_n (M := M_X12_same) dX12_same_132 rfl ?_
          rcases if_e H with ⟨h_76, H⟩ | ⟨h_76, H⟩
          · refine z_zeq_f (M := M_X12_same) (tgt := 217) dX12_same_133 (by decide) h_76 ?_
            refine z_iload (M := M_X12_same) dX12_same_136 rfl ?_
            refine z_aload_n (M := M_X12_same) dX12_same_138 rfl ?_
            refine z_getR (M := M_X12_same) (ci := 15) (C := RX12) (T := TX12) (Nf := 135) (ty := tyX12) cl15 dX12_same_139 ly_277 11 (by decide) t_2402 rfl ?_
            refine z_iload_n (M := M_X12_same) dX12_same_142 rfl ?_
            obtain ⟨x_77, x_77_e, hi_78, H⟩ := rd_e H
            refine z_iald (M := M_X12_same) dX12_same_143 ly_282 rfl rfl rfl hi_78 x_77_e ?_
            rcases if_e H with ⟨h_79, H⟩ | ⟨h_79, H⟩
            · refine z_icmp_ge_f (M := M_X12_same) (tgt := 217) dX12_same_144 (by decide) rfl rfl h_79 ?_
              obtain ⟨v_95, he_96, hk_97⟩ := bd_e H
              have J_98 : ∀ x_93, v_95 = x_93 → YY l E M_X12_same 2 0 0 (pS (some (zv r)) σ') 210 [some (vr 277), some (vi slot_0), some (vi other_0), some (zv like_59), some (vi k_60)] [zv x_93] σ_4 0 0 := by
                intro x_93 e
                have H := hk_97
                rw [e] at H
                refine z_zstore_n (M := M_X12_same) (lv' := [some (vr 277), some (vi slot_0), some (vi other_0), some (zv x_93), some (vi k_60)]) dX12_same_210 (Nat.le_of_ble_eq_true rfl) rfl rfl ?_
                refine z_iinc (M := M_X12_same) (lv' := [some (vr 277), some (vi slot_0), some (vi other_0), some (zv x_93), some (vi (k_60 + 1))]) dX12_same_211 rfl (Nat.le_of_ble_eq_true rfl) rfl rfl ?_
                refine z_goto (M := M_X12_same) (tgt := 132) dX12_same_214 (by decide) ?_
                exact K_66 _ (Option.some.inj H).symm
              have H := he_96
              refine z_aload_n (M := M_X12_same) dX12_same_147 rfl ?_
              refine z_getR (M := M_X12_same) (ci := 15) (C := RX12) (T := TX12) (Nf := 135) (ty := tyX12) cl15 dX12_same_148 ly_277 12 (by decide) t_2403 rfl ?_
              refine z_sipush (M := M_X12_same) dX12_same_151 (by decide +kernel) ?_
              refine z_iload_n (M := M_X12_same) dX12_same_154 rfl ?_
              refine z_imul (M := M_X12_same) dX12_same_155 ?_
              refine z_iload (M := M_X12_same) dX12_same_156 rfl ?_
              refine z_iadd (M := M_X12_same) dX12_same_158 ?_
              obtain ⟨x_80, x_80_e, hi_81, H⟩ := rd_e H
              refine z_iald (M := M_X12_same) dX12_same_159 ly_283 rfl rfl rfl hi_81 x_80_e ?_
              refine z_aload_n (M := M_X12_same) dX12_same_160 rfl ?_
              refine z_getR (M := M_X12_same) (ci := 15) (C := RX12) (T := TX12) (Nf := 135) (ty := tyX12) cl15 dX12_same_161 ly_277 12 (by decide) t_2403 rfl ?_
              refine z_sipush (M := M_X12_same) dX12_same_164 (by decide +kernel) ?_
              refine z_iload_n (M := M_X12_same) dX12_same_167 rfl ?_
              refine z_imul (M := M_X12_same) dX12_same_168 ?_
              refine z_iload (M := M_X12_same) dX12_same_169 rfl ?_
              refine z_iadd (M := M_X12_same) dX12_same_171 ?_
              obtain ⟨x_82, x_82_e, hi_83, H⟩ := rd_e H
              refine z_iald (M := M_X12_same) dX12_same_172 ly_283 rfl rfl rfl hi_83 x_82_e ?_
              rcases if_e H with ⟨h_84, H⟩ | ⟨h_84, H⟩
              · refine z_icmp_ne_f (M := M_X12_same) (tgt := 209) dX12_same_173 (by decide) rfl rfl h_84 ?_
                refine z_aload_n (M := M_X12_same) dX12_same_176 rfl ?_
                refine z_getR (M := M_X12_same) (ci := 15) (C := RX12) (T := TX12) (Nf := 135) (ty := tyX12) cl15 dX12_same_177 ly_277 13 (by decide) t_2404 rfl ?_
                refine z_sipush (M := M_X12_same) dX12_same_180 (by decide +kernel) ?_
                refine z_iload_n (M := M_X12_same) dX12_same_183 rfl ?_
                refine z_imul (M := M_X12_same) dX12_same_184 ?_
                refine z_iload (M := M_X12_same) dX12_same_185 rfl ?_
                refine z_iadd (M := M_X12_same) dX12_same_187 ?_
                obtain ⟨x_85, x_85_e, hi_86, H⟩ := rd_e H
                refine z_iald (M := M_X12_same) dX12_same_188 ly_284 rfl rfl rfl hi_86 x_85_e ?_
                refine z_aload_n (M := M_X12_same) dX12_same_189 rfl ?_
                refine z_getR (M := M_X12_same) (ci := 15) (C := RX12) (T := TX12) (Nf := 135) (ty := tyX12) cl15 dX12_same_190 ly_277 13 (by decide) t_2404 rfl ?_
                refine z_sipush (M := M_X12_same) dX12_same_193 (by decide +kernel) ?_
                refine z_iload_n (M := M_X12_same) dX12_same_196 rfl ?_
                refine z_imul (M := M_X12_same) dX12_same_197 ?_
                refine z_iload (M := M_X12_same) dX12_same_198 rfl ?_
                refine z_iadd (M := M_X12_same) dX12_same_200 ?_
                obtain ⟨x_87, x_87_e, hi_88, H⟩ := rd_e H
                refine z_iald (M := M_X12_same) dX12_same_201 ly_284 rfl rfl rfl hi_88 x_87_e ?_
                rcases if_e H with ⟨h_89, H⟩ | ⟨h_89, H⟩
                · refine z_icmp_ne_f (M := M_X12_same) (tgt := 209) dX12_same_202 (by decide) rfl rfl h_89 ?_
                  refine z_zconst (M := M_X12_same) (b := true) dX12_same_205 rfl ?_
                  refine z_goto (M := M_X12_same) (tgt := 210) dX12_same_206 (by decide) ?_
                  exact J_98 _ (Option.some.inj H).symm
                · refine z_icmp_ne_t (M := M_X12_same) (tgt := 209) dX12_same_202 (by decide) rfl rfl h_89 ?_
                  refine z_zconst (M := M_X12_same) (b := false) dX12_same_209 rfl ?_
                  exact J_98 _ (Option.some.inj H).symm
              · refine z_icmp_ne_t (M := M_X12_same) (tgt := 209) dX12_same_173 (by decide) rfl rfl h_84 ?_
                refine z_zconst (M := M_X12_same) (b := false) dX12_same_209 rfl ?_
                exact J_98 _ (Option.some.inj H).symm
            · refine z_icmp_ge_t (M := M_X12_same) (tgt := 217) dX12_same_144 (by decide) rfl rfl (Int.not_lt.mp h_79) ?_
              exact J_103 _ _ (K_67 _ (Option.some.inj H).symm).symm
          · refine z_zeq_t (M := M_X12_same) (tgt := 217) dX12_same_133 (by decide) h_76 ?_
            exact J_103 _ _ (K_67 _ (Option.some.inj H).symm).symm
        refine whl_go hw_23 (fun (like_21, k_22) => YY l E M_X12_same 2 0 0 (pS (some (zv r)) σ') 73 [some (vr 277), some (vi slot_0), some (vi other_0), some (zv like_21), some (vi k_22)] [] σ_4 0 0) ?_
        rintro ⟨like_21, k_22⟩ o_27 H K_28 K_29
        refine z_zload_n (M := M_X12_same) dX12_same_73 rfl ?_
        rcases if_e H with ⟨h_38, H⟩ | ⟨h_38, H⟩
        · refine z_zeq_f (M := M_X12_same) (tgt := 129) dX12_same_74 (by decide) h_38 ?_
          refine z_iload (M := M_X12_same) dX12_same_77 rfl ?_
          refine z_aload_n (M := M_X12_same) dX12_same_79 rfl ?_
          refine z_getR (M := M_X12_same) (ci := 15) (C := RX12) (T := TX12) (Nf := 135) (ty := tyX12) cl15 dX12_same_80 ly_277 9 (by decide) t_2400 rfl ?_
          refine z_iload_n (M := M_X12_same) dX12_same_83 rfl ?_
          obtain ⟨x_39, x_39_e, hi_40, H⟩ := rd_e H
          refine z_iald (M := M_X12_same) dX12_same_84 ly_280 rfl rfl rfl hi_40 x_39_e ?_
          rcases if_e H with ⟨h_41, H⟩ | ⟨h_41, H⟩
          · refine z_icmp_ge_f (M := M_X12_same) (tgt := 129) dX12_same_85 (by decide) rfl rfl h_41 ?_
            obtain ⟨v_51, he_52, hk_53⟩ := bd_e H
            have J_54 : ∀ x_49, v_51 = x_49 → YY l E M_X12_same 2 0 0 (pS (some (zv r)) σ') 122 [some (vr 277), some (vi slot_0), some (vi other_0), some (zv like_21), some (vi k_22)] [zv x_49] σ_4 0 0 := by
              intro x_49 e
              have H := hk_53
              rw [e] at H
              refine z_zstore_n (M := M_X12_same) (lv' := [some (vr 277), some (vi slot_0), some (vi other_0), some (zv x_49), some (vi k_22)]) dX12_same_122 (Nat.le_of_ble_eq_true rfl) rfl rfl ?_
              refine z_iinc (M := M_X12_same) (lv' := [some (vr 277), some (vi slot_0), some (vi other_0), some (zv x_49), some (vi (k_22 + 1))]) dX12_same_123 rfl (Nat.le_of_ble_eq_true rfl) rfl rfl ?_
              refine z_goto (M := M_X12_same) (tgt := 73) dX12_same_126 (by decide) ?_
              exact K_28 _ (Option.some.inj H).symm
            have H := he_52
            refine z_aload_n (M := M_X12_same) dX12_same_88 rfl ?_
            refine z_getR (M := M_X12_same) (ci := 15) (C := RX12) (T := TX12) (Nf := 135) (ty := tyX12) cl15 dX12_same_89 ly_277 10 (by decide) t_2401 rfl ?_
            refine z_sipush (M := M_X12_same) dX12_same_92 (by decide +kernel) ?_
            refine z_iload_n (M := M_X12_same) dX12_same_95 rfl ?_
            refine z_imul (M := M_X12_same) dX12_same_96 ?_
            refine z_iload (M := M_X12_same) dX12_same_97 rfl ?_
            refine z_iadd (M := M_X12_same) dX12_same_99 ?_
            obtain ⟨x_42, x_42_e, hi_43, H⟩ := rd_e H
            refine z_iald (M := M_X12_same) dX12_same_100 ly_281 rfl rfl rfl hi_43 x_42_e ?_
            refine z_aload_n (M := M_X12_same) dX12_same_101 rfl ?_
            refine z_getR (M := M_X12_same) (ci := 15) (C := RX12) (T := TX12) (Nf := 135) (ty := tyX12) cl15 dX12_same_102 ly_277 10 (by decide) t_2401 rfl ?_
            refine z_sipush (M := M_X12_same) dX12_same_105 (by decide +kernel) ?_
            refine z_iload_n (M := M_X12_same) dX12_same_108 rfl ?_
            refine z_imul (M := M_X12_same) dX12_same_109 ?_
            refine z_iload (M := M_X12_same) dX12_same_110 rfl ?_
            refine z_iadd (M := M_X12_same) dX12_same_112 ?_
            obtain ⟨x_44, x_44_e, hi_45, H⟩ := rd_e H
            refine z_iald (M := M_X12_same) dX12_same_113 ly_281 rfl rfl rfl hi_45 x_44_e ?_
            rcases if_e H with ⟨h_46, H⟩ | ⟨h_46, H⟩
            · refine z_icmp_ne_f (M := M_X12_same) (tgt := 121) dX12_same_114 (by decide) rfl rfl h_46 ?_
              refine z_zconst (M := M_X12_same) (b := true) dX12_same_117 rfl ?_
              refine z_goto (M := M_X12_same) (tgt := 122) dX12_same_118 (by decide) ?_
              exact J_54 _ (Option.some.inj H).symm
            · refine z_icmp_ne_t (M := M_X12_same) (tgt := 121) dX12_same_114 (by decide) rfl rfl h_46 ?_
              refine z_zconst (M := M_X12_same) (b := false) dX12_same_121 rfl ?_
              exact J_54 _ (Option.some.inj H).symm
          · refine z_icmp_ge_t (M := M_X12_same) (tgt := 129) dX12_same_85 (by decide) rfl rfl (Int.not_lt.mp h_41) ?_
            exact J_104 _ _ (K_29 _ (Option.some.inj H).symm).symm
        · refine z_zeq_t (M := M_X12_same) (tgt := 129) dX12_same_74 (by decide) h_38 ?_
          exact J_104 _ _ (K_29 _ (Option.some.inj H).symm).symm
      have H := he_106
      refine z_aload_n (M := M_X12_same) dX12_same_34 rfl ?_
      refine z_getR (M := M_X12_same) (ci := 15) (C := RX12) (T := TX12) (Nf := 135) (ty := tyX12) cl15 dX12_same_35 ly_277 9 (by decide) t_2400 rfl ?_
      refine z_iload_n (M := M_X12_same) dX12_same_38 rfl ?_
      obtain ⟨x_7, x_7_e, hi_8, H⟩ := rd_e H
      refine z_iald (M := M_X12_same) dX12_same_39 ly_280 rfl rfl rfl hi_8 x_7_e ?_
      refine z_aload_n (M := M_X12_same) dX12_same_40 rfl ?_
      refine z_getR (M := M_X12_same) (ci := 15) (C := RX12) (T := TX12) (Nf := 135) (ty := tyX12) cl15 dX12_same_41 ly_277 9 (by decide) t_2400 rfl ?_
      refine z_iload_n (M := M_X12_same) dX12_same_44 rfl ?_
      obtain ⟨x_9, x_9_e, hi_10, H⟩ := rd_e H
      refine z_iald (M := M_X12_same) dX12_same_45 ly_280 rfl rfl rfl hi_10 x_9_e ?_
      rcases if_e H with ⟨h_11, H⟩ | ⟨h_11, H⟩
      · refine z_icmp_ne_f (M := M_X12_same) (tgt := 68) dX12_same_46 (by decide) rfl rfl h_11 ?_
        refine z_aload_n (M := M_X12_same) dX12_same_49 rfl ?_
        refine z_getR (M := M_X12_same) (ci := 15) (C := RX12) (T := TX12) (Nf := 135) (ty := tyX12) cl15 dX12_same_50 ly_277 11 (by decide) t_2402 rfl ?_
        refine z_iload_n (M := M_X12_same) dX12_same_53 rfl ?_
        obtain ⟨x_12, x_12_e, hi_13, H⟩ := rd_e H
        refine z_iald (M := M_X12_same) dX12_same_54 ly_282 rfl rfl rfl hi_13 x_12_e ?_
        refine z_aload_n (M := M_X12_same) dX12_same_55 rfl ?_
        refine z_getR (M := M_X12_same) (ci := 15) (C := RX12) (T := TX12) (Nf := 135) (ty := tyX12) cl15 dX12_same_56 ly_277 11 (by decide) t_2402 rfl ?_
        refine z_iload_n (M := M_X12_same) dX12_same_59 rfl ?_
        obtain ⟨x_14, x_14_e, hi_15, H⟩ := rd_e H
        refine z_iald (M := M_X12_same) dX12_same_60 ly_282 rfl rfl rfl hi_15 x_14_e ?_
        rcases if_e H with ⟨h_16, H⟩ | ⟨h_16, H⟩
        · refine z_icmp_ne_f (M := M_X12_same) (tgt := 68) dX12_same_61 (by decide) rfl rfl h_16 ?_
          refine z_zconst (M := M_X12_same) (b := true) dX12_same_64 rfl ?_
          refine z_goto (M := M_X12_same) (tgt := 69) dX12_same_65 (by decide) ?_
          exact J_108 _ (Option.some.inj H).symm
        · refine z_icmp_ne_t (M := M_X12_same) (tgt := 68) dX12_same_61 (by decide) rfl rfl h_16 ?_
          refine z_zconst (M := M_X12_same) (b := false) dX12_same_68 rfl ?_
          exact J_108 _ (Option.some.inj H).symm
      · refine z_icmp_ne_t (M := M_X12_same) (tgt := 68) dX12_same_46 (by decide) rfl rfl h_11 ?_
        refine z_zconst (M := M_X12_same) (b := false) dX12_same_68 rfl ?_
        exact J_108 _ (Option.some.inj H).symm
  refine z_iload_n (M := M_X12_same) dX12_same_6 rfl ?_
  refine z_callS (M := M_X12_same) (M' := M_X12_isSlot) (as := [vi slot_0]) (rest := [vr 277]) rfl rfl dX12_same_7 m_X12_isSlot t_2841 t_2842 (c_X12_isSlot hl  rfl) rfl rfl (Nat.le_of_ble_eq_true rfl) (Nat.le_of_ble_eq_true rfl) (Nat.le_of_ble_eq_true rfl) (Nat.le_of_ble_eq_true rfl) ?_
  refine z_st (st' := [zv (fR_isSlot slot_0), vr 277]) rfl ?_
  by_cases h_109 : (fR_isSlot slot_0) = true
  · refine z_zeq_f (M := M_X12_same) (tgt := 20) dX12_same_10 (by decide) h_109 ?_
    refine z_iload_n (M := M_X12_same) dX12_same_13 rfl ?_
    refine z_callS (M := M_X12_same) (M' := M_X12_isSlot) (as := [vi other_0]) (rest := [vr 277]) rfl rfl dX12_same_14 m_X12_isSlot t_2841 t_2842 (c_X12_isSlot hl  rfl) rfl rfl (Nat.le_of_ble_eq_true rfl) (Nat.le_of_ble_eq_true rfl) (Nat.le_of_ble_eq_true rfl) (Nat.le_of_ble_eq_true rfl) ?_
    refine z_st (st' := [zv (fR_isSlot other_0), vr 277]) rfl ?_
    by_cases h_110 : (fR_isSlot other_0) = true
    · refine z_zne_t (M := M_X12_same) (tgt := 24) dX12_same_17 (by decide) h_110 ?_
      refine z_iconst (M := M_X12_same) dX12_same_24 ?_
      exact z_st (by rw [zv_f (p := (¬ ((fR_isSlot slot_0) = true)) ∨ (¬ ((fR_isSlot other_0) = true))) (fun q => q.elim (not_not_intro h_109) (not_not_intro h_110))]) J_2
    · refine z_zne_f (M := M_X12_same) (tgt := 24) dX12_same_17 (by decide) h_110 ?_
      refine z_iconst (M := M_X12_same) dX12_same_20 ?_
      refine z_goto (M := M_X12_same) (tgt := 25) dX12_same_21 (by decide) ?_
      exact z_st (by rw [zv_t (p := (¬ ((fR_isSlot slot_0) = true)) ∨ (¬ ((fR_isSlot other_0) = true))) (Or.inr h_110)]) J_2
  · refine z_zeq_t (M := M_X12_same) (tgt := 20) dX12_same_10 (by decide) h_109 ?_
    refine z_iconst (M := M_X12_same) dX12_same_20 ?_
    refine z_goto (M := M_X12_same) (tgt := 25) dX12_same_21 (by decide) ?_
    exact z_st (by rw [zv_t (p := (¬ ((fR_isSlot slot_0) = true)) ∨ (¬ ((fR_isSlot other_0) = true))) (Or.inl h_109)]) J_2
theorem c_X12_plan (hl : l.stackTraces = false) {σ : SG} {slot_0 : Int} {i_0 : Int} {r : Int} {σ' : SG}  (H : fR_plan σ slot_0 i_0 = some (r, σ')) : en_S l E M_X12_plan 2 0 0 [vr 277, vi slot_0, vi i_0] σ (pS (some (vi r)) σ') := by
  unfold fR_plan at H
  refine z_mk (lv := [some (vr 277), some (vi slot_0), some (vi i_0)]) m_X12_plan rfl hl (Nat.le_of_ble_eq_true rfl) rfl ?_
  refine z_aload_n (M := M_X12_plan) dX12_plan_0 rfl ?_
  refine z_iconst (M := M_X12_plan) dX12_plan_1 ?_
  obtain ⟨σ_1, σ_1_e, H⟩ := wf_e H
  refine z_putI (M := M_X12_plan) (ci := 15) (C := RX12) (T := TX12) (Nf := 135) (ty := tyX12) cl15 dX12_plan_2 ly_277 0 (by decide) t_2391 rfl rfl rfl rfl σ_1_e ?_
  refine z_aload_n (M := M_X12_plan) dX12_plan_5 rfl ?_
  have J_25 : YY l E M_X12_plan 2 0 0 (pS (some (vi r)) σ') 18 [some (vr 277), some (vi slot_0), some (vi i_0)] [zv (decide (¬ ((fR_isSlot slot_0) = true))), vr 277] σ_1 0 0 := by
    refine z_iconst (M := M_X12_plan) dX12_plan_18 ?_
    obtain ⟨⟨x_28, σ_27⟩, hc_26, H⟩ := bd_e H
    refine z_callV (M := M_X12_plan) (M' := M_X12_fails) (as := [zv (decide (¬ ((fR_isSlot slot_0) = true))), vi 1]) (rest := []) rfl rfl dX12_plan_19 m_X12_fails t_2805 t_2807 s_157 (c_X12_fails hl  hc_26) rfl rfl ly_277 rfl (Nat.le_of_ble_eq_true rfl) (Nat.le_of_ble_eq_true rfl) (Nat.le_of_ble_eq_true rfl) (Nat.le_of_ble_eq_true rfl) ?_
    refine z_st (st' := [zv x_28]) rfl ?_
    rcases if_e H with ⟨h_29, H⟩ | ⟨h_29, H⟩
    · refine z_zne_t (M := M_X12_plan) (tgt := 56) dX12_plan_22 (by decide) h_29 ?_
      refine z_iconst (M := M_X12_plan) dX12_plan_56 ?_
      cases H
      exact z_iret (M := M_X12_plan) dX12_plan_57 rfl (Nat.le_of_ble_eq_true rfl) (Nat.le_of_ble_eq_true rfl) ⟨rfl, rfl⟩
    · refine z_zne_f (M := M_X12_plan) (tgt := 56) dX12_plan_22 (by decide) h_29 ?_
      refine z_aload_n (M := M_X12_plan) dX12_plan_25 rfl ?_
      obtain ⟨v_42, he_43, hk_44⟩ := bd_e H
      have J_45 : ∀ x_35, v_42 = x_35 → YY l E M_X12_plan 2 0 0 (pS (some (vi r)) σ') 49 [some (vr 277), some (vi slot_0), some (vi i_0)] [zv x_35, vr 277] σ_27 0 0 := by
        intro x_35 e
        have H := hk_44
        rw [e] at H
        refine z_iconst (M := M_X12_plan) dX12_plan_49 ?_
        obtain ⟨⟨x_38, σ_37⟩, hc_36, H⟩ := bd_e H
        refine z_callV (M := M_X12_plan) (M' := M_X12_fails) (as := [zv x_35, vi 1]) (rest := []) rfl rfl dX12_plan_50 m_X12_fails t_2805 t_2807 s_157 (c_X12_fails hl  hc_36) rfl rfl ly_277 rfl (Nat.le_of_ble_eq_true rfl) (Nat.le_of_ble_eq_true rfl) (Nat.le_of_ble_eq_true rfl) (Nat.le_of_ble_eq_true rfl) ?_
        refine z_st (st' := [zv x_38]) rfl ?_
        rcases if_e H with ⟨h_39, H⟩ | ⟨h_39, H⟩
        · refine z_zeq_f (M := M_X12_plan) (tgt := 58) dX12_plan_53 (by decide) h_39 ?_
          refine z_iconst (M := M_X12_plan) dX12_plan_56 ?_
          cases H
          exact z_iret (M := M_X12_plan) dX12_plan_57 rfl (Nat.le_of_ble_eq_true rfl) (Nat.le_of_ble_eq_true rfl) ⟨rfl, rfl⟩
        · refine z_zeq_t (M := M_X12_plan) (tgt := 58) dX12_plan_53 (by decide) h_39 ?_
          refine z_aload_n (M := M_X12_plan) dX12_plan_58 rfl ?_
          refine z_getR (M := M_X12_plan) (ci := 15) (C := RX12) (T := TX12) (Nf := 135) (ty := tyX12) cl15 dX12_plan_59 ly_277 10 (by decide) t_2401 rfl ?_
          refine z_sipush (M := M_X12_plan) dX12_plan_62 (by decide +kernel) ?_
          refine z_iload_n (M := M_X12_plan) dX12_plan_65 rfl ?_
          refine z_imul (M := M_X12_plan) dX12_plan_66 ?_
          refine z_iload_n (M := M_X12_plan) dX12_plan_67 rfl ?_
          refine z_iadd (M := M_X12_plan) dX12_plan_68 ?_
          obtain ⟨x_40, x_40_e, hi_41, H⟩ := rd_e H
          refine z_iald (M := M_X12_plan) dX12_plan_69 ly_281 rfl rfl rfl hi_41 x_40_e ?_
          cases H
          exact z_iret (M := M_X12_plan) dX12_plan_70 rfl (Nat.le_of_ble_eq_true rfl) (Nat.le_of_ble_eq_true rfl) ⟨rfl, rfl⟩
      have H := he_43
      refine z_iload_n (M := M_X12_plan) dX12_plan_26 rfl ?_
      refine z_i2l (M := M_X12_plan) dX12_plan_27 ?_
      refine z_lconst (M := M_X12_plan) (m := 0) dX12_plan_28 (by decide +kernel) ?_
      refine z_aload_n (M := M_X12_plan) dX12_plan_29 rfl ?_
      refine z_getR (M := M_X12_plan) (ci := 15) (C := RX12) (T := TX12) (Nf := 135) (ty := tyX12) cl15 dX12_plan_30 ly_277 9 (by decide) t_2400 rfl ?_
      refine z_iload_n (M := M_X12_plan) dX12_plan_33 rfl ?_
      obtain ⟨x_30, x_30_e, hi_31, H⟩ := rd_e H
      refine z_iald (M := M_X12_plan) dX12_plan_34 ly_280 rfl rfl rfl hi_31 x_30_e ?_
      refine z_iconst (M := M_X12_plan) dX12_plan_35 ?_
      refine z_isub (M := M_X12_plan) dX12_plan_36 ?_
      refine z_i2l (M := M_X12_plan) dX12_plan_37 ?_
      refine z_callS (M := M_X12_plan) (M' := M_X12_in) (as := [vl (w32 i_0), vl 0, vl (w32 (x_30 - 1))]) (rest := [vr 277]) rfl rfl dX12_plan_38 m_X12_in t_2818 t_2819 (c_X12_in hl  rfl) rfl rfl (Nat.le_of_ble_eq_true rfl) (Nat.le_of_ble_eq_true rfl) (Nat.le_of_ble_eq_true rfl) (Nat.le_of_ble_eq_true rfl) ?_
      refine z_st (st' := [zv (fR_in (w32 i_0) 0 (w32 (x_30 - 1))), vr 277]) rfl ?_
      rcases if_e H with ⟨h_32, H⟩ | ⟨h_32, H⟩
      · refine z_zne_t (M := M_X12_plan) (tgt := 48) dX12_plan_41 (by decide) h_32 ?_
        refine z_zconst (M := M_X12_plan) (b := false) dX12_plan_48 rfl ?_
        exact J_45 _ (Option.some.inj H).symm
      · refine z_zne_f (M := M_X12_plan) (tgt := 48) dX12_plan_41 (by decide) h_32 ?_
        refine z_zconst (M := M_X12_plan) (b := true) dX12_plan_44 rfl ?_
        refine z_goto (M := M_X12_plan) (tgt := 49) dX12_plan_45 (by decide) ?_
        exact J_45 _ (Option.some.inj H).symm
  refine z_iload_n (M := M_X12_plan) dX12_plan_6 rfl ?_
  refine z_callS (M := M_X12_plan) (M' := M_X12_isSlot) (as := [vi slot_0]) (rest := [vr 277]) rfl rfl dX12_plan_7 m_X12_isSlot t_2841 t_2842 (c_X12_isSlot hl  rfl) rfl rfl (Nat.le_of_ble_eq_true rfl) (Nat.le_of_ble_eq_true rfl) (Nat.le_of_ble_eq_true rfl) (Nat.le_of_ble_eq_true rfl) ?_
  refine z_st (st' := [zv (fR_isSlot slot_0), vr 277]) rfl ?_
  by_cases h_46 : (fR_isSlot slot_0) = true
  · refine z_zne_t (M := M_X12_plan) (tgt := 17) dX12_plan_10 (by decide) h_46 ?_
    refine z_iconst (M := M_X12_plan) dX12_plan_17 ?_
    exact z_st (by rw [zv_f (p := ¬ ((fR_isSlot slot_0) = true)) (not_not_intro h_46)]) J_25
  · refine z_zne_f (M := M_X12_plan) (tgt := 17) dX12_plan_10 (by decide) h_46 ?_
    refine z_iconst (M := M_X12_plan) dX12_plan_13 ?_
    refine z_goto (M := M_X12_plan) (tgt := 18) dX12_plan_14 (by decide) ?_
    exact z_st (by rw [zv_t (p := ¬ ((fR_isSlot slot_0) = true)) h_46]) J_25
theorem c_X12_ordinate (hl : l.stackTraces = false) {σ : SG} {slot_0 : Int} {i_0 : Int} {what_0 : Int} {r : Int} {σ' : SG}  (H : fR_ordinate σ slot_0 i_0 what_0 = some (r, σ')) : en_S l E M_X12_ordinate 2 0 0 [vr 277, vi slot_0, vi i_0, vi what_0] σ (pS (some (vi r)) σ') := by
  unfold fR_ordinate at H
  refine z_mk (lv := [some (vr 277), some (vi slot_0), some (vi i_0), some (vi what_0)]) m_X12_ordinate rfl hl (Nat.le_of_ble_eq_true rfl) rfl ?_
  refine z_aload_n (M := M_X12_ordinate) dX12_ordinate_0 rfl ?_
  refine z_iconst (M := M_X12_ordinate) dX12_ordinate_1 ?_
  obtain ⟨σ_1, σ_1_e, H⟩ := wf_e H
  refine z_putI (M := M_X12_ordinate) (ci := 15) (C := RX12) (T := TX12) (Nf := 135) (ty := tyX12) cl15 dX12_ordinate_2 ly_277 0 (by decide) t_2391 rfl rfl rfl rfl σ_1_e ?_
  refine z_aload_n (M := M_X12_ordinate) dX12_ordinate_5 rfl ?_
  have J_27 : YY l E M_X12_ordinate 2 0 0 (pS (some (vi r)) σ') 18 [some (vr 277), some (vi slot_0), some (vi i_0), some (vi what_0)] [zv (decide (¬ ((fR_isSlot slot_0) = true))), vr 277] σ_1 0 0 := by
    refine z_iconst (M := M_X12_ordinate) dX12_ordinate_18 ?_
    obtain ⟨⟨x_30, σ_29⟩, hc_28, H⟩ := bd_e H
    refine z_callV (M := M_X12_ordinate) (M' := M_X12_fails) (as := [zv (decide (¬ ((fR_isSlot slot_0) = true))), vi 1]) (rest := []) rfl rfl dX12_ordinate_19 m_X12_fails t_2805 t_2807 s_157 (c_X12_fails hl  hc_28) rfl rfl ly_277 rfl (Nat.le_of_ble_eq_true rfl) (Nat.le_of_ble_eq_true rfl) (Nat.le_of_ble_eq_true rfl) (Nat.le_of_ble_eq_true rfl) ?_
    refine z_st (st' := [zv x_30]) rfl ?_
    rcases if_e H with ⟨h_31, H⟩ | ⟨h_31, H⟩
    · refine z_zne_t (M := M_X12_ordinate) (tgt := 66) dX12_ordinate_22 (by decide) h_31 ?_
      refine z_iconst (M := M_X12_ordinate) dX12_ordinate_66 ?_
      cases H
      exact z_iret (M := M_X12_ordinate) dX12_ordinate_67 rfl (Nat.le_of_ble_eq_true rfl) (Nat.le_of_ble_eq_true rfl) ⟨rfl, rfl⟩
    · refine z_zne_f (M := M_X12_ordinate) (tgt := 66) dX12_ordinate_22 (by decide) h_31 ?_
      refine z_aload_n (M := M_X12_ordinate) dX12_ordinate_25 rfl ?_
      obtain ⟨v_60, he_61, hk_62⟩ := bd_e H
      have J_63 : ∀ x_39, v_60 = x_39 → YY l E M_X12_ordinate 2 0 0 (pS (some (vi r)) σ') 59 [some (vr 277), some (vi slot_0), some (vi i_0), some (vi what_0)] [zv x_39, vr 277] σ_29 0 0 := by
        intro x_39 e
        have H := hk_62
        rw [e] at H
        refine z_iconst (M := M_X12_ordinate) dX12_ordinate_59 ?_
        obtain ⟨⟨x_42, σ_41⟩, hc_40, H⟩ := bd_e H
        refine z_callV (M := M_X12_ordinate) (M' := M_X12_fails) (as := [zv x_39, vi 1]) (rest := []) rfl rfl dX12_ordinate_60 m_X12_fails t_2805 t_2807 s_157 (c_X12_fails hl  hc_40) rfl rfl ly_277 rfl (Nat.le_of_ble_eq_true rfl) (Nat.le_of_ble_eq_true rfl) (Nat.le_of_ble_eq_true rfl) (Nat.le_of_ble_eq_true rfl) ?_
        refine z_st (st' := [zv x_42]) rfl ?_
        rcases if_e H with ⟨h_43, H⟩ | ⟨h_43, H⟩
        · refine z_zeq_f (M := M_X12_ordinate) (tgt := 68) dX12_ordinate_63 (by decide) h_43 ?_
          refine z_iconst (M := M_X12_ordinate) dX12_ordinate_66 ?_
          cases H
          exact z_iret (M := M_X12_ordinate) dX12_ordinate_67 rfl (Nat.le_of_ble_eq_true rfl) (Nat.le_of_ble_eq_true rfl) ⟨rfl, rfl⟩
        · refine z_zeq_t (M := M_X12_ordinate) (tgt := 68) dX12_ordinate_63 (by decide) h_43 ?_
          obtain ⟨v_56, he_57, hk_58⟩ := bd_e H
          have J_59 : ∀ x_55, v_56 = x_55 → YY l E M_X12_ordinate 2 0 0 (pS (some (vi r)) σ') 99 [some (vr 277), some (vi slot_0), some (vi i_0), some (vi what_0)] [vi x_55] σ_41 0 0 := by
            intro x_55 e
            have H := hk_58
            rw [e] at H
            cases H
            exact z_iret (M := M_X12_ordinate) dX12_ordinate_99 rfl (Nat.le_of_ble_eq_true rfl) (Nat.le_of_ble_eq_true rfl) ⟨rfl, rfl⟩
          have H := he_57
          refine z_iload_n (M := M_X12_ordinate) dX12_ordinate_68 rfl ?_
          rcases if_e H with ⟨h_48, H⟩ | ⟨h_48, H⟩
          · refine z_if_ne_f (M := M_X12_ordinate) (tgt := 87) dX12_ordinate_69 (by decide) rfl h_48 ?_
            refine z_aload_n (M := M_X12_ordinate) dX12_ordinate_72 rfl ?_
            refine z_getR (M := M_X12_ordinate) (ci := 15) (C := RX12) (T := TX12) (Nf := 135) (ty := tyX12) cl15 dX12_ordinate_73 ly_277 12 (by decide) t_2403 rfl ?_
            refine z_sipush (M := M_X12_ordinate) dX12_ordinate_76 (by decide +kernel) ?_
            refine z_iload_n (M := M_X12_ordinate) dX12_ordinate_79 rfl ?_
            refine z_imul (M := M_X12_ordinate) dX12_ordinate_80 ?_
            refine z_iload_n (M := M_X12_ordinate) dX12_ordinate_81 rfl ?_
            refine z_iadd (M := M_X12_ordinate) dX12_ordinate_82 ?_
            obtain ⟨x_49, x_49_e, hi_50, H⟩ := rd_e H
            refine z_iald (M := M_X12_ordinate) dX12_ordinate_83 ly_283 rfl rfl rfl hi_50 x_49_e ?_
            refine z_goto (M := M_X12_ordinate) (tgt := 99) dX12_ordinate_84 (by decide) ?_
            exact J_59 _ (Option.some.inj H).symm
          · refine z_if_ne_t (M := M_X12_ordinate) (tgt := 87) dX12_ordinate_69 (by decide) rfl h_48 ?_
            refine z_aload_n (M := M_X12_ordinate) dX12_ordinate_87 rfl ?_
            refine z_getR (M := M_X12_ordinate) (ci := 15) (C := RX12) (T := TX12) (Nf := 135) (ty := tyX12) cl15 dX12_ordinate_88 ly_277 13 (by decide) t_2404 rfl ?_
            refine z_sipush (M := M_X12_ordinate) dX12_ordinate_91 (by decide +kernel) ?_
            refine z_iload_n (M := M_X12_ordinate) dX12_ordinate_94 rfl ?_
            refine z_imul (M := M_X12_ordinate) dX12_ordinate_95 ?_
            refine z_iload_n (M := M_X12_ordinate) dX12_ordinate_96 rfl ?_
            refine z_iadd (M := M_X12_ordinate) dX12_ordinate_97 ?_
            obtain ⟨x_52, x_52_e, hi_53, H⟩ := rd_e H
            refine z_iald (M := M_X12_ordinate) dX12_ordinate_98 ly_284 rfl rfl rfl hi_53 x_52_e ?_
            exact J_59 _ (Option.some.inj H).symm
      have H := he_61
      refine z_iload_n (M := M_X12_ordinate) dX12_ordinate_26 rfl ?_
      refine z_i2l (M := M_X12_ordinate) dX12_ordinate_27 ?_
      refine z_lconst (M := M_X12_ordinate) (m := 0) dX12_ordinate_28 (by decide +kernel) ?_
      refine z_aload_n (M := M_X12_ordinate) dX12_ordinate_29 rfl ?_
      refine z_getR (M := M_X12_ordinate) (ci := 15) (C := RX12) (T := TX12) (Nf := 135) (ty := tyX12) cl15 dX12_ordinate_30 ly_277 11 (by decide) t_2402 rfl ?_
      refine z_iload_n (M := M_X12_ordinate) dX12_ordinate_33 rfl ?_
      obtain ⟨x_32, x_32_e, hi_33, H⟩ := rd_e H
      refine z_iald (M := M_X12_ordinate) dX12_ordinate_34 ly_282 rfl rfl rfl hi_33 x_32_e ?_
      refine z_iconst (M := M_X12_ordinate) dX12_ordinate_35 ?_
      refine z_isub (M := M_X12_ordinate) dX12_ordinate_36 ?_
      refine z_i2l (M := M_X12_ordinate) dX12_ordinate_37 ?_
      refine z_callS (M := M_X12_ordinate) (M' := M_X12_in) (as := [vl (w32 i_0), vl 0, vl (w32 (x_32 - 1))]) (rest := [vr 277]) rfl rfl dX12_ordinate_38 m_X12_in t_2818 t_2819 (c_X12_in hl  rfl) rfl rfl (Nat.le_of_ble_eq_true rfl) (Nat.le_of_ble_eq_true rfl) (Nat.le_of_ble_eq_true rfl) (Nat.le_of_ble_eq_true rfl) ?_
      refine z_st (st' := [zv (fR_in (w32 i_0) 0 (w32 (x_32 - 1))), vr 277]) rfl ?_
      rcases if_e H with ⟨h_34, H⟩ | ⟨h_34, H⟩
      · refine z_zeq_f (M := M_X12_ordinate) (tgt := 54) dX12_ordinate_41 (by decide) h_34 ?_
        refine z_iload_n (M := M_X12_ordinate) dX12_ordinate_44 rfl ?_
        refine z_i2l (M := M_X12_ordinate) dX12_ordinate_45 ?_
        refine z_lconst (M := M_X12_ordinate) (m := 0) dX12_ordinate_46 (by decide +kernel) ?_
        refine z_lconst (M := M_X12_ordinate) (m := 1) dX12_ordinate_47 (by decide +kernel) ?_
        refine z_callS (M := M_X12_ordinate) (M' := M_X12_in) (as := [vl (w32 what_0), vl 0, vl 1]) (rest := [vr 277]) rfl rfl dX12_ordinate_48 m_X12_in t_2818 t_2819 (c_X12_in hl  rfl) rfl rfl (Nat.le_of_ble_eq_true rfl) (Nat.le_of_ble_eq_true rfl) (Nat.le_of_ble_eq_true rfl) (Nat.le_of_ble_eq_true rfl) ?_
        refine z_st (st' := [zv (fR_in (w32 what_0) 0 1), vr 277]) rfl ?_
        rcases if_e H with ⟨h_35, H⟩ | ⟨h_35, H⟩
        · refine z_zne_t (M := M_X12_ordinate) (tgt := 58) dX12_ordinate_51 (by decide) h_35 ?_
          refine z_zconst (M := M_X12_ordinate) (b := false) dX12_ordinate_58 rfl ?_
          exact J_63 _ (Option.some.inj H).symm
        · refine z_zne_f (M := M_X12_ordinate) (tgt := 58) dX12_ordinate_51 (by decide) h_35 ?_
          refine z_zconst (M := M_X12_ordinate) (b := true) dX12_ordinate_54 rfl ?_
          refine z_goto (M := M_X12_ordinate) (tgt := 59) dX12_ordinate_55 (by decide) ?_
          exact J_63 _ (Option.some.inj H).symm
      · refine z_zeq_t (M := M_X12_ordinate) (tgt := 54) dX12_ordinate_41 (by decide) h_34 ?_
        refine z_zconst (M := M_X12_ordinate) (b := true) dX12_ordinate_54 rfl ?_
        refine z_goto (M := M_X12_ordinate) (tgt := 59) dX12_ordinate_55 (by decide) ?_
        exact J_63 _ (Option.some.inj H).symm
  refine z_iload_n (M := M_X12_ordinate) dX12_ordinate_6 rfl ?_
  refine z_callS (M := M_X12_ordinate) (M' := M_X12_isSlot) (as := [vi slot_0]) (rest := [vr 277]) rfl rfl dX12_ordinate_7 m_X12_isSlot t_2841 t_2842 (c_X12_isSlot hl  rfl) rfl rfl (Nat.le_of_ble_eq_true rfl) (Nat.le_of_ble_eq_true rfl) (Nat.le_of_ble_eq_true rfl) (Nat.le_of_ble_eq_true rfl) ?_
  refine z_st (st' := [zv (fR_isSlot slot_0), vr 277]) rfl ?_
  by_cases h_64 : (fR_isSlot slot_0) = true
  · refine z_zne_t (M := M_X12_ordinate) (tgt := 17) dX12_ordinate_10 (by decide) h_64 ?_
    refine z_iconst (M := M_X12_ordinate) dX12_ordinate_17 ?_
    exact z_st (by rw [zv_f (p := ¬ ((fR_isSlot slot_0) = true)) (not_not_intro h_64)]) J_27
  · refine z_zne_f (M := M_X12_ordinate) (tgt := 17) dX12_ordinate_10 (by decide) h_64 ?_
    refine z_iconst (M := M_X12_ordinate) dX12_ordinate_13 ?_
    refine z_goto (M := M_X12_ordinate) (tgt := 18) dX12_ordinate_14 (by decide) ?_
    exact z_st (by rw [zv_t (p := ¬ ((fR_isSlot slot_0) = true)) h_64]) J_27
theorem c_X12_count (hl : l.stackTraces = false) {σ : SG} {slot_0 : Int} {what_0 : Int} {r : Int} {σ' : SG}  (H : fR_count σ slot_0 what_0 = some (r, σ')) : en_S l E M_X12_count 2 0 0 [vr 277, vi slot_0, vi what_0] σ (pS (some (vi r)) σ') := by
  unfold fR_count at H
  refine z_mk (lv := [some (vr 277), some (vi slot_0), some (vi what_0), none, none]) m_X12_count rfl hl (Nat.le_of_ble_eq_true rfl) rfl ?_
  refine z_aload_n (M := M_X12_count) dX12_count_0 rfl ?_
  refine z_iconst (M := M_X12_count) dX12_count_1 ?_
  obtain ⟨σ_1, σ_1_e, H⟩ := wf_e H
  refine z_putI (M := M_X12_count) (ci := 15) (C := RX12) (T := TX12) (Nf := 135) (ty := tyX12) cl15 dX12_count_2 ly_277 0 (by decide) t_2391 rfl rfl rfl rfl σ_1_e ?_
  refine z_aload_n (M := M_X12_count) dX12_count_5 rfl ?_
  have J_2 : YY l E M_X12_count 2 0 0 (pS (some (vi r)) σ') 30 [some (vr 277), some (vi slot_0), some (vi what_0), none, none] [zv (decide ((¬ ((fR_isSlot slot_0) = true)) ∨ (¬ ((fR_in (w32 what_0) 0 5) = true)))), vr 277] σ_1 0 0 := by
    refine z_iconst (M := M_X12_count) dX12_count_30 ?_
    obtain ⟨⟨x_5, σ_4⟩, hc_3, H⟩ := bd_e H
    refine z_callV (M := M_X12_count) (M' := M_X12_fails) (as := [zv (decide ((¬ ((fR_isSlot slot_0) = true)) ∨ (¬ ((fR_in (w32 what_0) 0 5) = true)))), vi 1]) (rest := []) rfl rfl dX12_count_31 m_X12_fails t_2805 t_2807 s_157 (c_X12_fails hl  hc_3) rfl rfl ly_277 rfl (Nat.le_of_ble_eq_true rfl) (Nat.le_of_ble_eq_true rfl) (Nat.le_of_ble_eq_true rfl) (Nat.le_of_ble_eq_true rfl) ?_
    refine z_st (st' := [zv x_5]) rfl ?_
    rcases if_e H with ⟨h_6, H⟩ | ⟨h_6, H⟩
    · refine z_zeq_f (M := M_X12_count) (tgt := 39) dX12_count_34 (by decide) h_6 ?_
      refine z_iconst (M := M_X12_count) dX12_count_37 ?_
      cases H
      exact z_iret (M := M_X12_count) dX12_count_38 rfl (Nat.le_of_ble_eq_true rfl) (Nat.le_of_ble_eq_true rfl) ⟨rfl, rfl⟩
    · refine z_zeq_t (M := M_X12_count) (tgt := 39) dX12_count_34 (by decide) h_6 ?_
      refine z_iload_n (M := M_X12_count) dX12_count_39 rfl ?_
      rcases if_e H with ⟨h_7, H⟩ | ⟨h_7, H⟩
      · refine z_tabIn (M := M_X12_count) (tgt := 76) (off := 36) dX12_count_40 h_7 (by decide) (by decide) rfl (by decide) ?_
        refine z_aload_n (M := M_X12_count) dX12_count_76 rfl ?_
        refine z_getR (M := M_X12_count) (ci := 15) (C := RX12) (T := TX12) (Nf := 135) (ty := tyX12) cl15 dX12_count_77 ly_277 9 (by decide) t_2400 rfl ?_
        refine z_iload_n (M := M_X12_count) dX12_count_80 rfl ?_
        obtain ⟨x_8, x_8_e, hi_9, H⟩ := rd_e H
        refine z_iald (M := M_X12_count) dX12_count_81 ly_280 rfl rfl rfl hi_9 x_8_e ?_
        cases H
        exact z_iret (M := M_X12_count) dX12_count_82 rfl (Nat.le_of_ble_eq_true rfl) (Nat.le_of_ble_eq_true rfl) ⟨rfl, rfl⟩
      · rcases if_e H with ⟨h_10, H⟩ | ⟨h_10, H⟩
        · refine z_tabIn (M := M_X12_count) (tgt := 83) (off := 43) dX12_count_40 h_10 (by decide) (by decide) rfl (by decide) ?_
          refine z_aload_n (M := M_X12_count) dX12_count_83 rfl ?_
          refine z_getR (M := M_X12_count) (ci := 15) (C := RX12) (T := TX12) (Nf := 135) (ty := tyX12) cl15 dX12_count_84 ly_277 11 (by decide) t_2402 rfl ?_
          refine z_iload_n (M := M_X12_count) dX12_count_87 rfl ?_
          obtain ⟨x_11, x_11_e, hi_12, H⟩ := rd_e H
          refine z_iald (M := M_X12_count) dX12_count_88 ly_282 rfl rfl rfl hi_12 x_11_e ?_
          cases H
          exact z_iret (M := M_X12_count) dX12_count_89 rfl (Nat.le_of_ble_eq_true rfl) (Nat.le_of_ble_eq_true rfl) ⟨rfl, rfl⟩
        · rcases if_e H with ⟨h_13, H⟩ | ⟨h_13, H⟩
          · refine z_tabIn (M := M_X12_count) (tgt := 90) (off := 50) dX12_count_40 h_13 (by decide) (by decide) rfl (by decide) ?_
            refine z_aload_n (M := M_X12_count) dX12_count_90 rfl ?_
            refine z_getI (M := M_X12_count) (ci := 15) (C := RX12) (T := TX12) (Nf := 135) (ty := tyX12) cl15 dX12_count_91 ly_277 4 (by decide) t_2395 rfl rfl ?_
            cases H
            exact z_iret (M := M_X12_count) dX12_count_94 rfl (Nat.le_of_ble_eq_true rfl) (Nat.le_of_ble_eq_true rfl) ⟨rfl, rfl⟩
          · rcases if_e H with ⟨h_14, H⟩ | ⟨h_14, H⟩
            · refine z_tabIn (M := M_X12_count) (tgt := 95) (off := 55) dX12_count_40 h_14 (by decide) (by decide) rfl (by decide) ?_
              refine z_aload_n (M := M_X12_count) dX12_count_95 rfl ?_
              refine z_getI (M := M_X12_count) (ci := 15) (C := RX12) (T := TX12) (Nf := 135) (ty := tyX12) cl15 dX12_count_96 ly_277 6 (by decide) t_2397 rfl rfl ?_
              cases H
              exact z_iret (M := M_X12_count) dX12_count_99 rfl (Nat.le_of_ble_eq_true rfl) (Nat.le_of_ble_eq_true rfl) ⟨rfl, rfl⟩
            · rcases if_e H with ⟨h_15, H⟩ | ⟨h_15, H⟩
              · refine z_tabIn (M := M_X12_count) (tgt := 100) (off := 60) dX12_count_40 h_15 (by decide) (by decide) rfl (by decide) ?_
                refine z_iconst (M := M_X12_count) dX12_count_100 ?_
                refine z_istore_n (M := M_X12_count) (lv' := [some (vr 277), some (vi slot_0), some (vi what_0), some (vi 0), none]) dX12_count_101 (Nat.le_of_ble_eq_true rfl) rfl rfl ?_
                refine z_iconst (M := M_X12_count) dX12_count_102 ?_
                refine z_istore (M := M_X12_count) (lv' := [some (vr 277), some (vi slot_0), some (vi what_0), some (vi 0), some (vi 0)]) dX12_count_103 (Nat.le_of_ble_eq_true rfl) rfl rfl ?_
                obtain ⟨rl_21, hw_18, hk_19⟩ := bd_e H
                have J_40 : ∀ n_38 s_39, rl_21 = (n_38, s_39) → YY l E M_X12_count 2 0 0 (pS (some (vi r)) σ') 135 [some (vr 277), some (vi slot_0), some (vi what_0), some (vi n_38), some (vi s_39)] [] σ_4 0 0 := by
                  intro n_38 s_39 e
                  have H := hk_19
                  rw [e] at H
                  refine z_iload_n (M := M_X12_count) dX12_count_135 rfl ?_
                  cases H
                  exact z_iret (M := M_X12_count) dX12_count_136 rfl (Nat.le_of_ble_eq_true rfl) (Nat.le_of_ble_eq_true rfl) ⟨rfl, rfl⟩
                refine whl_go hw_18 (fun (n_16, s_17) => YY l E M_X12_count 2 0 0 (pS (some (vi r)) σ') 105 [some (vr 277), some (vi slot_0), some (vi what_0), some (vi n_16), some (vi s_17)] [] σ_4 0 0) ?_
                rintro ⟨n_16, s_17⟩ o_22 H K_23 K_24
                refine z_iload (M := M_X12_count) dX12_count_105 rfl ?_
                refine z_bipush (M := M_X12_count) dX12_count_107 (by decide +kernel) ?_
                rcases if_e H with ⟨h_25, H⟩ | ⟨h_25, H⟩
                · refine z_icmp_ge_f (M := M_X12_count) (tgt := 135) dX12_count_109 (by decide) rfl (by decide +kernel) h_25 ?_
                  obtain ⟨v_33, he_34, hk_35⟩ := bd_e H
                  have J_36 : ∀ x_31, v_33 = x_31 → YY l E M_X12_count 2 0 0 (pS (some (vi r)) σ') 128 [some (vr 277), some (vi slot_0), some (vi what_0), some (vi n_16), some (vi s_17)] [vi x_31] σ_4 0 0 := by
                    intro x_31 e
                    have H := hk_35
                    rw [e] at H
                    refine z_istore_n (M := M_X12_count) (lv' := [some (vr 277), some (vi slot_0), some (vi what_0), some (vi x_31), some (vi s_17)]) dX12_count_128 (Nat.le_of_ble_eq_true rfl) rfl rfl ?_
                    refine z_iinc (M := M_X12_count) (lv' := [some (vr 277), some (vi slot_0), some (vi what_0), some (vi x_31), some (vi (s_17 + 1))]) dX12_count_129 rfl (Nat.le_of_ble_eq_true rfl) rfl rfl ?_
                    refine z_goto (M := M_X12_count) (tgt := 105) dX12_count_132 (by decide) ?_
                    exact K_23 _ (Option.some.inj H).symm
                  have H := he_34
                  refine z_aload_n (M := M_X12_count) dX12_count_112 rfl ?_
                  refine z_iload (M := M_X12_count) dX12_count_113 rfl ?_
                  obtain ⟨x_27, hc_26, H⟩ := bd_e H
                  refine z_callV (M := M_X12_count) (M' := M_X12_has) (as := [vi s_17]) (rest := []) rfl rfl dX12_count_115 m_X12_has t_3033 t_3035 s_197 (c_X12_has hl  hc_26) rfl rfl ly_277 rfl (Nat.le_of_ble_eq_true rfl) (Nat.le_of_ble_eq_true rfl) (Nat.le_of_ble_eq_true rfl) (Nat.le_of_ble_eq_true rfl) ?_
                  refine z_st (st' := [zv x_27]) rfl ?_
                  rcases if_e H with ⟨h_28, H⟩ | ⟨h_28, H⟩
                  · refine z_zeq_f (M := M_X12_count) (tgt := 127) dX12_count_118 (by decide) h_28 ?_
                    refine z_iload_n (M := M_X12_count) dX12_count_121 rfl ?_
                    refine z_iconst (M := M_X12_count) dX12_count_122 ?_
                    refine z_iadd (M := M_X12_count) dX12_count_123 ?_
                    refine z_goto (M := M_X12_count) (tgt := 128) dX12_count_124 (by decide) ?_
                    exact J_36 _ (Option.some.inj H).symm
                  · refine z_zeq_t (M := M_X12_count) (tgt := 127) dX12_count_118 (by decide) h_28 ?_
                    refine z_iload_n (M := M_X12_count) dX12_count_127 rfl ?_
                    exact J_36 _ (Option.some.inj H).symm
                · refine z_icmp_ge_t (M := M_X12_count) (tgt := 135) dX12_count_109 (by decide) rfl (by decide +kernel) (Int.not_lt.mp h_25) ?_
                  exact J_40 _ _ (K_24 _ (Option.some.inj H).symm).symm
              · refine z_tabOut (M := M_X12_count) (tgt := 137) dX12_count_40 rfl (by omega) (by decide) ?_
                refine z_aload_n (M := M_X12_count) dX12_count_137 rfl ?_
                refine z_getI (M := M_X12_count) (ci := 15) (C := RX12) (T := TX12) (Nf := 135) (ty := tyX12) cl15 dX12_count_138 ly_277 16 (by decide) t_2407 rfl rfl ?_
                cases H
                exact z_iret (M := M_X12_count) dX12_count_141 rfl (Nat.le_of_ble_eq_true rfl) (Nat.le_of_ble_eq_true rfl) ⟨rfl, rfl⟩
  refine z_iload_n (M := M_X12_count) dX12_count_6 rfl ?_
  refine z_callS (M := M_X12_count) (M' := M_X12_isSlot) (as := [vi slot_0]) (rest := [vr 277]) rfl rfl dX12_count_7 m_X12_isSlot t_2841 t_2842 (c_X12_isSlot hl  rfl) rfl rfl (Nat.le_of_ble_eq_true rfl) (Nat.le_of_ble_eq_true rfl) (Nat.le_of_ble_eq_true rfl) (Nat.le_of_ble_eq_true rfl) ?_
  refine z_st (st' := [zv (fR_isSlot slot_0), vr 277]) rfl ?_
  by_cases h_41 : (fR_isSlot slot_0) = true
  · refine z_zeq_f (M := M_X12_count) (tgt := 25) dX12_count_10 (by decide) h_41 ?_
    refine z_iload_n (M := M_X12_count) dX12_count_13 rfl ?_
    refine z_i2l (M := M_X12_count) dX12_count_14 ?_
    refine z_lconst (M := M_X12_count) (m := 0) dX12_count_15 (by decide +kernel) ?_
    refine z_ldc2 (M := M_X12_count) (n := 5) dX12_count_16 t_3118 (by decide +kernel) ?_
    refine z_callS (M := M_X12_count) (M' := M_X12_in) (as := [vl (w32 what_0), vl 0, vl 5]) (rest := [vr 277]) rfl rfl dX12_count_19 m_X12_in t_2818 t_2819 (c_X12_in hl  rfl) rfl rfl (Nat.le_of_ble_eq_true rfl) (Nat.le_of_ble_eq_true rfl) (Nat.le_of_ble_eq_true rfl) (Nat.le_of_ble_eq_true rfl) ?_
    refine z_st (st' := [zv (fR_in (w32 what_0) 0 5), vr 277]) rfl ?_
    by_cases h_42 : (fR_in (w32 what_0) 0 5) = true
    · refine z_zne_t (M := M_X12_count) (tgt := 29) dX12_count_22 (by decide) h_42 ?_
      refine z_iconst (M := M_X12_count) dX12_count_29 ?_
      exact z_st (by rw [zv_f (p := (¬ ((fR_isSlot slot_0) = true)) ∨ (¬ ((fR_in (w32 what_0) 0 5) = true))) (fun q => q.elim (not_not_intro h_41) (not_not_intro h_42))]) J_2
    · refine z_zne_f (M := M_X12_count) (tgt := 29) dX12_count_22 (by decide) h_42 ?_
      refine z_iconst (M := M_X12_count) dX12_count_25 ?_
      refine z_goto (M := M_X12_count) (tgt := 30) dX12_count_26 (by decide) ?_
      exact z_st (by rw [zv_t (p := (¬ ((fR_isSlot slot_0) = true)) ∨ (¬ ((fR_in (w32 what_0) 0 5) = true))) (Or.inr h_42)]) J_2
  · refine z_zeq_t (M := M_X12_count) (tgt := 25) dX12_count_10 (by decide) h_41 ?_
    refine z_iconst (M := M_X12_count) dX12_count_25 ?_
    refine z_goto (M := M_X12_count) (tgt := 30) dX12_count_26 (by decide) ?_
    exact z_st (by rw [zv_t (p := (¬ ((fR_isSlot slot_0) = true)) ∨ (¬ ((fR_in (w32 what_0) 0 5) = true))) (Or.inl h_41)]) J_2
theorem c_X12_box (hl : l.stackTraces = false) {σ : SG} {slot_0 : Int} {r : Bool} {σ' : SG}  (H : fR_box σ slot_0 = some (r, σ')) : en_S l E M_X12_box 1 0 0 [vr 277, vi slot_0] σ (pS (some (zv r)) σ') := by
  unfold fR_box at H
  refine z_mk (lv := [some (vr 277), some (vi slot_0), none]) m_X12_box rfl hl (Nat.le_of_ble_eq_true rfl) rfl ?_
  refine z_aload_n (M := M_X12_box) dX12_box_0 rfl ?_
  refine z_getR (M := M_X12_box) (ci := 15) (C := RX12) (T := TX12) (Nf := 135) (ty := tyX12) cl15 dX12_box_1 ly_277 11 (by decide) t_2402 rfl ?_
  refine z_iload_n (M := M_X12_box) dX12_box_4 rfl ?_
  obtain ⟨x_1, x_1_e, hi_2, H⟩ := rd_e H
  refine z_iald (M := M_X12_box) dX12_box_5 ly_282 rfl rfl rfl hi_2 x_1_e ?_
  rcases if_e H with ⟨h_3, H⟩ | ⟨h_3, H⟩
  · refine z_if_ne_f (M := M_X12_box) (tgt := 11) dX12_box_6 (by decide) rfl h_3 ?_
    refine z_zconst (M := M_X12_box) (b := false) dX12_box_9 rfl ?_
    cases H
    exact z_zret (M := M_X12_box) dX12_box_10 rfl (Nat.le_of_ble_eq_true rfl) (Nat.le_of_ble_eq_true rfl) ⟨rfl, rfl⟩
  · refine z_if_ne_t (M := M_X12_box) (tgt := 11) dX12_box_6 (by decide) rfl h_3 ?_
    refine z_aload_n (M := M_X12_box) dX12_box_11 rfl ?_
    refine z_getR (M := M_X12_box) (ci := 15) (C := RX12) (T := TX12) (Nf := 135) (ty := tyX12) cl15 dX12_box_12 ly_277 32 (by decide) t_2423 rfl ?_
    refine z_iload_n (M := M_X12_box) dX12_box_15 rfl ?_
    refine z_ldc2 (M := M_X12_box) (n := 4000000000) dX12_box_16 t_2936 (by decide +kernel) ?_
    obtain ⟨σ_4, σ_4_e, hi_5, H⟩ := wa_e H
    refine z_last (M := M_X12_box) dX12_box_19 ly_290 rfl rfl rfl hi_5 σ_4_e ?_
    refine z_aload_n (M := M_X12_box) dX12_box_20 rfl ?_
    refine z_getR (M := M_X12_box) (ci := 15) (C := RX12) (T := TX12) (Nf := 135) (ty := tyX12) cl15 dX12_box_21 ly_277 33 (by decide) t_2424 rfl ?_
    refine z_iload_n (M := M_X12_box) dX12_box_24 rfl ?_
    refine z_ldc2 (M := M_X12_box) (n := 4000000000) dX12_box_25 t_2936 (by decide +kernel) ?_
    obtain ⟨σ_6, σ_6_e, hi_7, H⟩ := wa_e H
    refine z_last (M := M_X12_box) dX12_box_28 ly_291 rfl rfl rfl hi_7 σ_6_e ?_
    refine z_aload_n (M := M_X12_box) dX12_box_29 rfl ?_
    refine z_getR (M := M_X12_box) (ci := 15) (C := RX12) (T := TX12) (Nf := 135) (ty := tyX12) cl15 dX12_box_30 ly_277 34 (by decide) t_2425 rfl ?_
    refine z_iload_n (M := M_X12_box) dX12_box_33 rfl ?_
    refine z_ldc2 (M := M_X12_box) (n := (-4000000000)) dX12_box_34 t_3128 (by decide +kernel) ?_
    obtain ⟨σ_8, σ_8_e, hi_9, H⟩ := wa_e H
    refine z_last (M := M_X12_box) dX12_box_37 ly_292 rfl rfl rfl hi_9 σ_8_e ?_
    refine z_aload_n (M := M_X12_box) dX12_box_38 rfl ?_
    refine z_getR (M := M_X12_box) (ci := 15) (C := RX12) (T := TX12) (Nf := 135) (ty := tyX12) cl15 dX12_box_39 ly_277 35 (by decide) t_2426 rfl ?_
    refine z_iload_n (M := M_X12_box) dX12_box_42 rfl ?_
    refine z_ldc2 (M := M_X12_box) (n := (-4000000000)) dX12_box_43 t_3128 (by decide +kernel) ?_
    obtain ⟨σ_10, σ_10_e, hi_11, H⟩ := wa_e H
    refine z_last (M := M_X12_box) dX12_box_46 ly_293 rfl rfl rfl hi_11 σ_10_e ?_
    refine z_sipush (M := M_X12_box) dX12_box_47 (by decide +kernel) ?_
    refine z_iload_n (M := M_X12_box) dX12_box_50 rfl ?_
    refine z_imul (M := M_X12_box) dX12_box_51 ?_
    refine z_istore_n (M := M_X12_box) (lv' := [some (vr 277), some (vi slot_0), some (vi (2048 * slot_0))]) dX12_box_52 (Nat.le_of_ble_eq_true rfl) rfl rfl ?_
    obtain ⟨rl_17, hw_14, hk_15⟩ := bd_e H
    have J_144 : ∀ k_142 σ_143, rl_17 = (k_142, σ_143) → YY l E M_X12_box 1 0 0 (pS (some (zv r)) σ') 231 [some (vr 277), some (vi slot_0), some (vi k_142)] [] σ_143 0 0 := by
      intro k_142 σ_143 e
      have H := hk_15
      rw [e] at H
      refine z_zconst (M := M_X12_box) (b := true) dX12_box_231 rfl ?_
      cases H
      exact z_zret (M := M_X12_box) dX12_box_232 rfl (Nat.le_of_ble_eq_true rfl) (Nat.le_of_ble_eq_true rfl) ⟨rfl, rfl⟩
    refine whl_go hw_14 (fun (k_12, σ_13) => YY l E M_X12_box 1 0 0 (pS (some (zv r)) σ') 53 [some (vr 277), some (vi slot_0), some (vi k_12)] [] σ_13 0 0) ?_
    rintro ⟨k_12, σ_13⟩ o_18 H K_19 K_20
    refine z_iload_n (M := M_X12_box) dX12_box_53 rfl ?_
    refine z_sipush (M := M_X12_box) dX12_box_54 (by decide +kernel) ?_
    refine z_iload_n (M := M_X12_box) dX12_box_57 rfl ?_
    refine z_imul (M := M_X12_box) dX12_box_58 ?_
    refine z_aload_n (M := M_X12_box) dX12_box_59 rfl ?_
    refine z_getR (M := M_X12_box) (ci := 15) (C := RX12) (T := TX12) (Nf := 135) (ty := tyX12) cl15 dX12_box_60 ly_277 11 (by decide) t_2402 rfl ?_
    refine z_iload_n (M := M_X12_box) dX12_box_63 rfl ?_
    obtain ⟨x_21, x_21_e, hi_22, H⟩ := rd_e H
    refine z_iald (M := M_X12_box) dX12_box_64 ly_282 rfl rfl rfl hi_22 x_21_e ?_
    refine z_iadd (M := M_X12_box) dX12_box_65 ?_
    rcases if_e H with ⟨h_23, H⟩ | ⟨h_23, H⟩
    · refine z_icmp_ge_f (M := M_X12_box) (tgt := 231) dX12_box_66 (by decide) rfl rfl h_23 ?_
      refine z_aload_n (M := M_X12_box) dX12_box_69 rfl ?_
      refine z_getR (M := M_X12_box) (ci := 15) (C := RX12) (T := TX12) (Nf := 135) (ty := tyX12) cl15 dX12_box_70 ly_277 32 (by decide) t_2423 rfl ?_
      refine z_iload_n (M := M_X12_box) dX12_box_73 rfl ?_
      obtain ⟨v_137, he_138, hk_139⟩ := bd_e H
      have J_140 : ∀ x_46, v_137 = x_46 → YY l E M_X12_box 1 0 0 (pS (some (zv r)) σ') 107 [some (vr 277), some (vi slot_0), some (vi k_12)] [vl x_46, vi slot_0, vr 290] σ_13 0 0 := by
        intro x_46 e
        have H := hk_139
        rw [e] at H
        obtain ⟨σ_47, σ_47_e, hi_48, H⟩ := wa_e H
        refine z_last (M := M_X12_box) dX12_box_107 ly_290 rfl rfl rfl hi_48 σ_47_e ?_
        refine z_aload_n (M := M_X12_box) dX12_box_108 rfl ?_
        refine z_getR (M := M_X12_box) (ci := 15) (C := RX12) (T := TX12) (Nf := 135) (ty := tyX12) cl15 dX12_box_109 ly_277 33 (by decide) t_2424 rfl ?_
        refine z_iload_n (M := M_X12_box) dX12_box_112 rfl ?_
        obtain ⟨v_133, he_134, hk_135⟩ := bd_e H
        have J_136 : ∀ x_71, v_133 = x_71 → YY l E M_X12_box 1 0 0 (pS (some (zv r)) σ') 146 [some (vr 277), some (vi slot_0), some (vi k_12)] [vl x_71, vi slot_0, vr 291] σ_47 0 0 := by
          intro x_71 e
          have H := hk_135
          rw [e] at H
          obtain ⟨σ_72, σ_72_e, hi_73, H⟩ := wa_e H
          refine z_last (M := M_X12_box) dX12_box_146 ly_291 rfl rfl rfl hi_73 σ_72_e ?_
          refine z_aload_n (M := M_X12_box) dX12_box_147 rfl ?_
          refine z_getR (M := M_X12_box) (ci := 15) (C := RX12) (T := TX12) (Nf := 135) (ty := tyX12) cl15 dX12_box_148 ly_277 34 (by decide) t_2425 rfl ?_
          refine z_iload_n (M := M_X12_box) dX12_box_151 rfl ?_
          obtain ⟨v_129, he_130, hk_131⟩ := bd_e H
          have J_132 : ∀ x_96, v_129 = x_96 → YY l E M_X12_box 1 0 0 (pS (some (zv r)) σ') 185 [some (vr 277), some (vi slot_0), some (vi k_12)] [vl x_96, vi slot_0, vr 292] σ_72 0 0 := by
            intro x_96 e
            have H := hk_131
            rw [e] at H
            obtain ⟨σ_97, σ_97_e, hi_98, H⟩ := wa_e H
            refine z_last (M := M_X12_box) dX12_box_185 ly_292 rfl rfl rfl hi_98 σ_97_e ?_
            refine z_aload_n (M := M_X12_box) dX12_box_186 rfl ?_
            refine z_getR (M := M_X12_box) (ci := 15) (C := RX12) (T := TX12) (Nf := 135) (ty := tyX12) cl15 dX12_box_187 ly_277 35 (by decide) t_2426 rfl ?_
            refine z_iload_n (M := M_X12_box) dX12_box_190 rfl ?_
            obtain ⟨v_125, he_126, hk_127⟩ := bd_e H
            have J_128 : ∀ x_121, v_125 = x_121 → YY l E M_X12_box 1 0 0 (pS (some (zv r)) σ') 224 [some (vr 277), some (vi slot_0), some (vi k_12)] [vl x_121, vi slot_0, vr 293] σ_97 0 0 := by
              intro x_121 e
              have H := hk_127
              rw [e] at H
              obtain ⟨σ_122, σ_122_e, hi_123, H⟩ := wa_e H
              refine z_last (M := M_X12_box) dX12_box_224 ly_293 rfl rfl rfl hi_123 σ_122_e ?_
              refine z_iinc (M := M_X12_box) (lv' := [some (vr 277), some (vi slot_0), some (vi (k_12 + 1))]) dX12_box_225 rfl (Nat.le_of_ble_eq_true rfl) rfl rfl ?_
              refine z_goto (M := M_X12_box) (tgt := 53) dX12_box_228 (by decide) ?_
              exact K_19 _ (Option.some.inj H).symm
            have H := he_126
            refine z_aload_n (M := M_X12_box) dX12_box_191 rfl ?_
            refine z_getR (M := M_X12_box) (ci := 15) (C := RX12) (T := TX12) (Nf := 135) (ty := tyX12) cl15 dX12_box_192 ly_277 13 (by decide) t_2404 rfl ?_
            refine z_iload_n (M := M_X12_box) dX12_box_195 rfl ?_
            obtain ⟨x_110, x_110_e, hi_111, H⟩ := rd_e H
            refine z_iald (M := M_X12_box) dX12_box_196 ly_284 rfl rfl rfl hi_111 x_110_e ?_
            refine z_i2l (M := M_X12_box) dX12_box_197 ?_
            refine z_aload_n (M := M_X12_box) dX12_box_198 rfl ?_
            refine z_getR (M := M_X12_box) (ci := 15) (C := RX12) (T := TX12) (Nf := 135) (ty := tyX12) cl15 dX12_box_199 ly_277 35 (by decide) t_2426 rfl ?_
            refine z_iload_n (M := M_X12_box) dX12_box_202 rfl ?_
            obtain ⟨x_112, x_112_e, hi_113, H⟩ := rd_e H
            refine z_lald (M := M_X12_box) dX12_box_203 ly_293 rfl rfl rfl hi_113 x_112_e ?_
            refine z_lcmp (M := M_X12_box) dX12_box_204 ?_
            rcases if_e H with ⟨h_114, H⟩ | ⟨h_114, H⟩
            · refine z_lif_le_f (M := M_X12_box) (tgt := 218) dX12_box_205 (by decide) rfl rfl h_114 ?_
              refine z_aload_n (M := M_X12_box) dX12_box_208 rfl ?_
              refine z_getR (M := M_X12_box) (ci := 15) (C := RX12) (T := TX12) (Nf := 135) (ty := tyX12) cl15 dX12_box_209 ly_277 13 (by decide) t_2404 rfl ?_
              refine z_iload_n (M := M_X12_box) dX12_box_212 rfl ?_
              obtain ⟨x_115, x_115_e, hi_116, H⟩ := rd_e H
              refine z_iald (M := M_X12_box) dX12_box_213 ly_284 rfl rfl rfl hi_116 x_115_e ?_
              refine z_i2l (M := M_X12_box) dX12_box_214 ?_
              refine z_goto (M := M_X12_box) (tgt := 224) dX12_box_215 (by decide) ?_
              exact J_128 _ (Option.some.inj H).symm
            · refine z_lif_le_t (M := M_X12_box) (tgt := 218) dX12_box_205 (by decide) rfl rfl (Int.not_lt.mp h_114) ?_
              refine z_aload_n (M := M_X12_box) dX12_box_218 rfl ?_
              refine z_getR (M := M_X12_box) (ci := 15) (C := RX12) (T := TX12) (Nf := 135) (ty := tyX12) cl15 dX12_box_219 ly_277 35 (by decide) t_2426 rfl ?_
              refine z_iload_n (M := M_X12_box) dX12_box_222 rfl ?_
              obtain ⟨x_118, x_118_e, hi_119, H⟩ := rd_e H
              refine z_lald (M := M_X12_box) dX12_box_223 ly_293 rfl rfl rfl hi_119 x_118_e ?_
              exact J_128 _ (Option.some.inj H).symm
          have H := he_130
          refine z_aload_n (M := M_X12_box) dX12_box_152 rfl ?_
          refine z_getR (M := M_X12_box) (ci := 15) (C := RX12) (T := TX12) (Nf := 135) (ty := tyX12) cl15 dX12_box_153 ly_277 12 (by decide) t_2403 rfl ?_
          refine z_iload_n (M := M_X12_box) dX12_box_156 rfl ?_
          obtain ⟨x_85, x_85_e, hi_86, H⟩ := rd_e H
          refine z_iald (M := M_X12_box) dX12_box_157 ly_283 rfl rfl rfl hi_86 x_85_e ?_
          refine z_i2l (M := M_X12_box) dX12_box_158 ?_
          refine z_aload_n (M := M_X12_box) dX12_box_159 rfl ?_
          refine z_getR (M := M_X12_box) (ci := 15) (C := RX12) (T := TX12) (Nf := 135) (ty := tyX12) cl15 dX12_box_160 ly_277 34 (by decide) t_2425 rfl ?_
          refine z_iload_n (M := M_X12_box) dX12_box_163 rfl ?_
          obtain ⟨x_87, x_87_e, hi_88, H⟩ := rd_e H
          refine z_lald (M := M_X12_box) dX12_box_164 ly_292 rfl rfl rfl hi_88 x_87_e ?_
          refine z_lcmp (M := M_X12_box) dX12_box_165 ?_
          rcases if_e H with ⟨h_89, H⟩ | ⟨h_89, H⟩
          · refine z_lif_le_f (M := M_X12_box) (tgt := 179) dX12_box_166 (by decide) rfl rfl h_89 ?_
            refine z_aload_n (M := M_X12_box) dX12_box_169 rfl ?_
            refine z_getR (M := M_X12_box) (ci := 15) (C := RX12) (T := TX12) (Nf := 135) (ty := tyX12) cl15 dX12_box_170 ly_277 12 (by decide) t_2403 rfl ?_
            refine z_iload_n (M := M_X12_box) dX12_box_173 rfl ?_
            obtain ⟨x_90, x_90_e, hi_91, H⟩ := rd_e H
            refine z_iald (M := M_X12_box) dX12_box_174 ly_283 rfl rfl rfl hi_91 x_90_e ?_
            refine z_i2l (M := M_X12_box) dX12_box_175 ?_
            refine z_goto (M := M_X12_box) (tgt := 185) dX12_box_176 (by decide) ?_
            exact J_132 _ (Option.some.inj H).symm
          · refine z_lif_le_t (M := M_X12_box) (tgt := 179) dX12_box_166 (by decide) rfl rfl (Int.not_lt.mp h_89) ?_
            refine z_aload_n (M := M_X12_box) dX12_box_179 rfl ?_
            refine z_getR (M := M_X12_box) (ci := 15) (C := RX12) (T := TX12) (Nf := 135) (ty := tyX12) cl15 dX12_box_180 ly_277 34 (by decide) t_2425 rfl ?_
            refine z_iload_n (M := M_X12_box) dX12_box_183 rfl ?_
            obtain ⟨x_93, x_93_e, hi_94, H⟩ := rd_e H
            refine z_lald (M := M_X12_box) dX12_box_184 ly_292 rfl rfl rfl hi_94 x_93_e ?_
            exact J_132 _ (Option.some.inj H).symm
        have H := he_134
        refine z_aload_n (M := M_X12_box) dX12_box_113 rfl ?_
        refine z_getR (M := M_X12_box) (ci := 15) (C := RX12) (T := TX12) (Nf := 135) (ty := tyX12) cl15 dX12_box_114 ly_277 13 (by decide) t_2404 rfl ?_
        refine z_iload_n (M := M_X12_box) dX12_box_117 rfl ?_
        obtain ⟨x_60, x_60_e, hi_61, H⟩ := rd_e H
        refine z_iald (M := M_X12_box) dX12_box_118 ly_284 rfl rfl rfl hi_61 x_60_e ?_
        refine z_i2l (M := M_X12_box) dX12_box_119 ?_
        refine z_aload_n (M := M_X12_box) dX12_box_120 rfl ?_
        refine z_getR (M := M_X12_box) (ci := 15) (C := RX12) (T := TX12) (Nf := 135) (ty := tyX12) cl15 dX12_box_121 ly_277 33 (by decide) t_2424 rfl ?_
        refine z_iload_n (M := M_X12_box) dX12_box_124 rfl ?_
        obtain ⟨x_62, x_62_e, hi_63, H⟩ := rd_e H
        refine z_lald (M := M_X12_box) dX12_box_125 ly_291 rfl rfl rfl hi_63 x_62_e ?_
        refine z_lcmp (M := M_X12_box) dX12_box_126 ?_
        rcases if_e H with ⟨h_64, H⟩ | ⟨h_64, H⟩
        · refine z_lif_ge_f (M := M_X12_box) (tgt := 140) dX12_box_127 (by decide) rfl rfl h_64 ?_
          refine z_aload_n (M := M_X12_box) dX12_box_130 rfl ?_
          refine z_getR (M := M_X12_box) (ci := 15) (C := RX12) (T := TX12) (Nf := 135) (ty := tyX12) cl15 dX12_box_131 ly_277 13 (by decide) t_2404 rfl ?_
          refine z_iload_n (M := M_X12_box) dX12_box_134 rfl ?_
          obtain ⟨x_65, x_65_e, hi_66, H⟩ := rd_e H
          refine z_iald (M := M_X12_box) dX12_box_135 ly_284 rfl rfl rfl hi_66 x_65_e ?_
          refine z_i2l (M := M_X12_box) dX12_box_136 ?_
          refine z_goto (M := M_X12_box) (tgt := 146) dX12_box_137 (by decide) ?_
          exact J_136 _ (Option.some.inj H).symm
        · refine z_lif_ge_t (M := M_X12_box) (tgt := 140) dX12_box_127 (by decide) rfl rfl (Int.not_lt.mp h_64) ?_
          refine z_aload_n (M := M_X12_box) dX12_box_140 rfl ?_
          refine z_getR (M := M_X12_box) (ci := 15) (C := RX12) (T := TX12) (Nf := 135) (ty := tyX12) cl15 dX12_box_141 ly_277 33 (by decide) t_2424 rfl ?_
          refine z_iload_n (M := M_X12_box) dX12_box_144 rfl ?_
          obtain ⟨x_68, x_68_e, hi_69, H⟩ := rd_e H
          refine z_lald (M := M_X12_box) dX12_box_145 ly_291 rfl rfl rfl hi_69 x_68_e ?_
          exact J_136 _ (Option.some.inj H).symm
      have H := he_138
      refine z_aload_n (M := M_X12_box) dX12_box_74 rfl ?_
      refine z_getR (M := M_X12_box) (ci := 15) (C := RX12) (T := TX12) (Nf := 135) (ty := tyX12) cl15 dX12_box_75 ly_277 12 (by decide) t_2403 rfl ?_
      refine z_iload_n (M := M_X12_box) dX12_box_78 rfl ?_
      obtain ⟨x_35, x_35_e, hi_36, H⟩ := rd_e H
      refine z_iald (M := M_X12_box) dX12_box_79 ly_283 rfl rfl rfl hi_36 x_35_e ?_
      refine z_i2l (M := M_X12_box) dX12_box_80 ?_
      refine z_aload_n (M := M_X12_box) dX12_box_81 rfl ?_
      refine z_getR (M := M_X12_box) (ci := 15) (C := RX12) (T := TX12) (Nf := 135) (ty := tyX12) cl15 dX12_box_82 ly_277 32 (by decide) t_2423 rfl ?_
      refine z_iload_n (M := M_X12_box) dX12_box_85 rfl ?_
      obtain ⟨x_37, x_37_e, hi_38, H⟩ := rd_e H
      refine z_lald (M := M_X12_box) dX12_box_86 ly_290 rfl rfl rfl hi_38 x_37_e ?_
      refine z_lcmp (M := M_X12_box) dX12_box_87 ?_
      rcases if_e H with ⟨h_39, H⟩ | ⟨h_39, H⟩
      · refine z_lif_ge_f (M := M_X12_box) (tgt := 101) dX12_box_88 (by decide) rfl rfl h_39 ?_
        refine z_aload_n (M := M_X12_box) dX12_box_91 rfl ?_
        refine z_getR (M := M_X12_box) (ci := 15) (C := RX12) (T := TX12) (Nf := 135) (ty := tyX12) cl15 dX12_box_92 ly_277 12 (by decide) t_2403 rfl ?_
        refine z_iload_n (M := M_X12_box) dX12_box_95 rfl ?_
        obtain ⟨x_40, x_40_e, hi_41, H⟩ := rd_e H
        refine z_iald (M := M_X12_box) dX12_box_96 ly_283 rfl rfl rfl hi_41 x_40_e ?_
        refine z_i2l (M := M_X12_box) dX12_box_97 ?_
        refine z_goto (M := M_X12_box) (tgt := 107) dX12_box_98 (by decide) ?_
        exact J_140 _ (Option.some.inj H).symm
      · refine z_lif_ge_t (M := M_X12_box) (tgt := 101) dX12_box_88 (by decide) rfl rfl (Int.not_lt.mp h_39) ?_
        refine z_aload_n (M := M_X12_box) dX12_box_101 rfl ?_
        refine z_getR (M := M_X12_box) (ci := 15) (C := RX12) (T := TX12) (Nf := 135) (ty := tyX12) cl15 dX12_box_102 ly_277 32 (by decide) t_2423 rfl ?_
        refine z_iload_n (M := M_X12_box) dX12_box_105 rfl ?_
        obtain ⟨x_43, x_43_e, hi_44, H⟩ := rd_e H
        refine z_lald (M := M_X12_box) dX12_box_106 ly_290 rfl rfl rfl hi_44 x_43_e ?_
        exact J_140 _ (Option.some.inj H).symm
    · refine z_icmp_ge_t (M := M_X12_box) (tgt := 231) dX12_box_66 (by decide) rfl rfl (Int.not_lt.mp h_23) ?_
      exact J_144 _ _ (K_20 _ (Option.some.inj H).symm).symm
theorem c_X12_bounds (hl : l.stackTraces = false) {σ : SG} {slot_0 : Int} {what_0 : Int} {r : Int} {σ' : SG}  (H : fR_bounds σ slot_0 what_0 = some (r, σ')) : en_S l E M_X12_bounds 2 0 0 [vr 277, vi slot_0, vi what_0] σ (pS (some (vi r)) σ') := by
  unfold fR_bounds at H
  refine z_mk (lv := [some (vr 277), some (vi slot_0), some (vi what_0), none, none]) m_X12_bounds rfl hl (Nat.le_of_ble_eq_true rfl) rfl ?_
  refine z_aload_n (M := M_X12_bounds) dX12_bounds_0 rfl ?_
  refine z_iconst (M := M_X12_bounds) dX12_bounds_1 ?_
  obtain ⟨σ_1, σ_1_e, H⟩ := wf_e H
  refine z_putI (M := M_X12_bounds) (ci := 15) (C := RX12) (T := TX12) (Nf := 135) (ty := tyX12) cl15 dX12_bounds_2 ly_277 0 (by decide) t_2391 rfl rfl rfl rfl σ_1_e ?_
  refine z_aload_n (M := M_X12_bounds) dX12_bounds_5 rfl ?_
  have J_44 : YY l E M_X12_bounds 2 0 0 (pS (some (vi r)) σ') 18 [some (vr 277), some (vi slot_0), some (vi what_0), none, none] [zv (decide (¬ ((fR_isSlot slot_0) = true))), vr 277] σ_1 0 0 := by
    refine z_iconst (M := M_X12_bounds) dX12_bounds_18 ?_
    obtain ⟨⟨x_47, σ_46⟩, hc_45, H⟩ := bd_e H
    refine z_callV (M := M_X12_bounds) (M' := M_X12_fails) (as := [zv (decide (¬ ((fR_isSlot slot_0) = true))), vi 1]) (rest := []) rfl rfl dX12_bounds_19 m_X12_fails t_2805 t_2807 s_157 (c_X12_fails hl  hc_45) rfl rfl ly_277 rfl (Nat.le_of_ble_eq_true rfl) (Nat.le_of_ble_eq_true rfl) (Nat.le_of_ble_eq_true rfl) (Nat.le_of_ble_eq_true rfl) ?_
    refine z_st (st' := [zv x_47]) rfl ?_
    rcases if_e H with ⟨h_48, H⟩ | ⟨h_48, H⟩
    · refine z_zne_t (M := M_X12_bounds) (tgt := 79) dX12_bounds_22 (by decide) h_48 ?_
      refine z_iconst (M := M_X12_bounds) dX12_bounds_79 ?_
      cases H
      exact z_iret (M := M_X12_bounds) dX12_bounds_80 rfl (Nat.le_of_ble_eq_true rfl) (Nat.le_of_ble_eq_true rfl) ⟨rfl, rfl⟩
    · refine z_zne_f (M := M_X12_bounds) (tgt := 79) dX12_bounds_22 (by decide) h_48 ?_
      refine z_aload_n (M := M_X12_bounds) dX12_bounds_25 rfl ?_
      obtain ⟨v_177, he_178, hk_179⟩ := bd_e H
      have J_180 : ∀ x_54, v_177 = x_54 → YY l E M_X12_bounds 2 0 0 (pS (some (vi r)) σ') 39 [some (vr 277), some (vi slot_0), some (vi what_0), none, none] [zv x_54, vr 277] σ_46 0 0 := by
        intro x_54 e
        have H := hk_179
        rw [e] at H
        refine z_iconst (M := M_X12_bounds) dX12_bounds_39 ?_
        obtain ⟨⟨x_57, σ_56⟩, hc_55, H⟩ := bd_e H
        refine z_callV (M := M_X12_bounds) (M' := M_X12_fails) (as := [zv x_54, vi 2]) (rest := []) rfl rfl dX12_bounds_40 m_X12_fails t_2805 t_2807 s_157 (c_X12_fails hl  hc_55) rfl rfl ly_277 rfl (Nat.le_of_ble_eq_true rfl) (Nat.le_of_ble_eq_true rfl) (Nat.le_of_ble_eq_true rfl) (Nat.le_of_ble_eq_true rfl) ?_
        refine z_st (st' := [zv x_57]) rfl ?_
        rcases if_e H with ⟨h_58, H⟩ | ⟨h_58, H⟩
        · refine z_zne_t (M := M_X12_bounds) (tgt := 79) dX12_bounds_43 (by decide) h_58 ?_
          refine z_iconst (M := M_X12_bounds) dX12_bounds_79 ?_
          cases H
          exact z_iret (M := M_X12_bounds) dX12_bounds_80 rfl (Nat.le_of_ble_eq_true rfl) (Nat.le_of_ble_eq_true rfl) ⟨rfl, rfl⟩
        · refine z_zne_f (M := M_X12_bounds) (tgt := 79) dX12_bounds_43 (by decide) h_58 ?_
          refine z_aload_n (M := M_X12_bounds) dX12_bounds_46 rfl ?_
          obtain ⟨v_173, he_174, hk_175⟩ := bd_e H
          have J_176 : ∀ x_67 σ_68, v_173 = (x_67, σ_68) → YY l E M_X12_bounds 2 0 0 (pS (some (vi r)) σ') 72 [some (vr 277), some (vi slot_0), some (vi what_0), none, none] [zv x_67, vr 277] σ_68 0 0 := by
            intro x_67 σ_68 e
            have H := hk_175
            rw [e] at H
            refine z_iconst (M := M_X12_bounds) dX12_bounds_72 ?_
            obtain ⟨⟨x_71, σ_70⟩, hc_69, H⟩ := bd_e H
            refine z_callV (M := M_X12_bounds) (M' := M_X12_fails) (as := [zv x_67, vi 3]) (rest := []) rfl rfl dX12_bounds_73 m_X12_fails t_2805 t_2807 s_157 (c_X12_fails hl  hc_69) rfl rfl ly_277 rfl (Nat.le_of_ble_eq_true rfl) (Nat.le_of_ble_eq_true rfl) (Nat.le_of_ble_eq_true rfl) (Nat.le_of_ble_eq_true rfl) ?_
            refine z_st (st' := [zv x_71]) rfl ?_
            rcases if_e H with ⟨h_72, H⟩ | ⟨h_72, H⟩
            · refine z_zeq_f (M := M_X12_bounds) (tgt := 81) dX12_bounds_76 (by decide) h_72 ?_
              refine z_iconst (M := M_X12_bounds) dX12_bounds_79 ?_
              cases H
              exact z_iret (M := M_X12_bounds) dX12_bounds_80 rfl (Nat.le_of_ble_eq_true rfl) (Nat.le_of_ble_eq_true rfl) ⟨rfl, rfl⟩
            · refine z_zeq_t (M := M_X12_bounds) (tgt := 81) dX12_bounds_76 (by decide) h_72 ?_
              obtain ⟨v_169, he_170, hk_171⟩ := bd_e H
              have J_172 : ∀ x_168, v_169 = x_168 → YY l E M_X12_bounds 2 0 0 (pS (some (vi r)) σ') 128 [some (vr 277), some (vi slot_0), some (vi what_0), none, none] [vl x_168] σ_70 0 0 := by
                intro x_168 e
                have H := hk_171
                rw [e] at H
                refine z_lstore_n (M := M_X12_bounds) (lv' := [some (vr 277), some (vi slot_0), some (vi what_0), some (vl x_168), none]) dX12_bounds_128 (Nat.le_of_ble_eq_true rfl) rfl rfl ?_
                refine z_lload_n (M := M_X12_bounds) dX12_bounds_129 rfl ?_
                refine z_l2i (M := M_X12_bounds) dX12_bounds_130 ?_
                cases H
                exact z_iret (M := M_X12_bounds) dX12_bounds_131 rfl (Nat.le_of_ble_eq_true rfl) (Nat.le_of_ble_eq_true rfl) ⟨rfl, rfl⟩
              have H := he_170
              refine z_iload_n (M := M_X12_bounds) dX12_bounds_81 rfl ?_
              rcases if_e H with ⟨h_119, H⟩ | ⟨h_119, H⟩
              · refine z_if_ne_f (M := M_X12_bounds) (tgt := 94) dX12_bounds_82 (by decide) rfl h_119 ?_
                refine z_aload_n (M := M_X12_bounds) dX12_bounds_85 rfl ?_
                refine z_getR (M := M_X12_bounds) (ci := 15) (C := RX12) (T := TX12) (Nf := 135) (ty := tyX12) cl15 dX12_bounds_86 ly_277 32 (by decide) t_2423 rfl ?_
                refine z_iload_n (M := M_X12_bounds) dX12_bounds_89 rfl ?_
                obtain ⟨x_120, x_120_e, hi_121, H⟩ := rd_e H
                refine z_lald (M := M_X12_bounds) dX12_bounds_90 ly_290 rfl rfl rfl hi_121 x_120_e ?_
                refine z_goto (M := M_X12_bounds) (tgt := 128) dX12_bounds_91 (by decide) ?_
                exact J_172 _ (Option.some.inj H).symm
              · refine z_if_ne_t (M := M_X12_bounds) (tgt := 94) dX12_bounds_82 (by decide) rfl h_119 ?_
                obtain ⟨v_164, he_165, hk_166⟩ := bd_e H
                have J_167 : ∀ x_162, v_164 = x_162 → YY l E M_X12_bounds 2 0 0 (pS (some (vi r)) σ') 128 [some (vr 277), some (vi slot_0), some (vi what_0), none, none] [vl x_162] σ_70 0 0 := by
                  intro x_162 e
                  have H := hk_166
                  rw [e] at H
                  exact J_172 _ (Option.some.inj H).symm
                have H := he_165
                refine z_iload_n (M := M_X12_bounds) dX12_bounds_94 rfl ?_
                refine z_iconst (M := M_X12_bounds) dX12_bounds_95 ?_
                rcases if_e H with ⟨h_141, H⟩ | ⟨h_141, H⟩
                · refine z_icmp_ne_f (M := M_X12_bounds) (tgt := 108) dX12_bounds_96 (by decide) rfl (by decide +kernel) h_141 ?_
                  refine z_aload_n (M := M_X12_bounds) dX12_bounds_99 rfl ?_
                  refine z_getR (M := M_X12_bounds) (ci := 15) (C := RX12) (T := TX12) (Nf := 135) (ty := tyX12) cl15 dX12_bounds_100 ly_277 33 (by decide) t_2424 rfl ?_
                  refine z_iload_n (M := M_X12_bounds) dX12_bounds_103 rfl ?_
                  obtain ⟨x_142, x_142_e, hi_143, H⟩ := rd_e H
                  refine z_lald (M := M_X12_bounds) dX12_bounds_104 ly_291 rfl rfl rfl hi_143 x_142_e ?_
                  refine z_goto (M := M_X12_bounds) (tgt := 128) dX12_bounds_105 (by decide) ?_
                  exact J_167 _ (Option.some.inj H).symm
                · refine z_icmp_ne_t (M := M_X12_bounds) (tgt := 108) dX12_bounds_96 (by decide) rfl (by decide +kernel) h_141 ?_
                  obtain ⟨v_158, he_159, hk_160⟩ := bd_e H
                  have J_161 : ∀ x_156, v_158 = x_156 → YY l E M_X12_bounds 2 0 0 (pS (some (vi r)) σ') 128 [some (vr 277), some (vi slot_0), some (vi what_0), none, none] [vl x_156] σ_70 0 0 := by
                    intro x_156 e
                    have H := hk_160
                    rw [e] at H
                    exact J_167 _ (Option.some.inj H).symm
                  have H := he_159
                  refine z_iload_n (M := M_X12_bounds) dX12_bounds_108 rfl ?_
                  refine z_iconst (M := M_X12_bounds) dX12_bounds_109 ?_
                  rcases if_e H with ⟨h_149, H⟩ | ⟨h_149, H⟩
                  · refine z_icmp_ne_f (M := M_X12_bounds) (tgt := 122) dX12_bounds_110 (by decide) rfl (by decide +kernel) h_149 ?_
                    refine z_aload_n (M := M_X12_bounds) dX12_bounds_113 rfl ?_
                    refine z_getR (M := M_X12_bounds) (ci := 15) (C := RX12) (T := TX12) (Nf := 135) (ty := tyX12) cl15 dX12_bounds_114 ly_277 34 (by decide) t_2425 rfl ?_
                    refine z_iload_n (M := M_X12_bounds) dX12_bounds_117 rfl ?_
                    obtain ⟨x_150, x_150_e, hi_151, H⟩ := rd_e H
                    refine z_lald (M := M_X12_bounds) dX12_bounds_118 ly_292 rfl rfl rfl hi_151 x_150_e ?_
                    refine z_goto (M := M_X12_bounds) (tgt := 128) dX12_bounds_119 (by decide) ?_
                    exact J_161 _ (Option.some.inj H).symm
                  · refine z_icmp_ne_t (M := M_X12_bounds) (tgt := 122) dX12_bounds_110 (by decide) rfl (by decide +kernel) h_149 ?_
                    refine z_aload_n (M := M_X12_bounds) dX12_bounds_122 rfl ?_
                    refine z_getR (M := M_X12_bounds) (ci := 15) (C := RX12) (T := TX12) (Nf := 135) (ty := tyX12) cl15 dX12_bounds_123 ly_277 35 (by decide) t_2426 rfl ?_
                    refine z_iload_n (M := M_X12_bounds) dX12_bounds_126 rfl ?_
                    obtain ⟨x_153, x_153_e, hi_154, H⟩ := rd_e H
                    refine z_lald (M := M_X12_bounds) dX12_bounds_127 ly_293 rfl rfl rfl hi_154 x_153_e ?_
                    exact J_161 _ (Option.some.inj H).symm
          have H := he_174
          refine z_iload_n (M := M_X12_bounds) dX12_bounds_47 rfl ?_
          refine z_i2l (M := M_X12_bounds) dX12_bounds_48 ?_
          refine z_lconst (M := M_X12_bounds) (m := 0) dX12_bounds_49 (by decide +kernel) ?_
          refine z_ldc2 (M := M_X12_bounds) (n := 3) dX12_bounds_50 t_3123 (by decide +kernel) ?_
          refine z_callS (M := M_X12_bounds) (M' := M_X12_in) (as := [vl (w32 what_0), vl 0, vl 3]) (rest := [vr 277]) rfl rfl dX12_bounds_53 m_X12_in t_2818 t_2819 (c_X12_in hl  rfl) rfl rfl (Nat.le_of_ble_eq_true rfl) (Nat.le_of_ble_eq_true rfl) (Nat.le_of_ble_eq_true rfl) (Nat.le_of_ble_eq_true rfl) ?_
          refine z_st (st' := [zv (fR_in (w32 what_0) 0 3), vr 277]) rfl ?_
          rcases if_e H with ⟨h_59, H⟩ | ⟨h_59, H⟩
          · refine z_zeq_f (M := M_X12_bounds) (tgt := 67) dX12_bounds_56 (by decide) h_59 ?_
            refine z_aload_n (M := M_X12_bounds) dX12_bounds_59 rfl ?_
            refine z_iload_n (M := M_X12_bounds) dX12_bounds_60 rfl ?_
            obtain ⟨⟨x_62, σ_61⟩, hc_60, H⟩ := bd_e H
            refine z_callV (M := M_X12_bounds) (M' := M_X12_box) (as := [vi slot_0]) (rest := [vr 277]) rfl rfl dX12_bounds_61 m_X12_box t_3124 t_3126 s_210 (c_X12_box hl  hc_60) rfl rfl ly_277 rfl (Nat.le_of_ble_eq_true rfl) (Nat.le_of_ble_eq_true rfl) (Nat.le_of_ble_eq_true rfl) (Nat.le_of_ble_eq_true rfl) ?_
            refine z_st (st' := [zv x_62, vr 277]) rfl ?_
            rcases if_e H with ⟨h_63, H⟩ | ⟨h_63, H⟩
            · refine z_zne_t (M := M_X12_bounds) (tgt := 71) dX12_bounds_64 (by decide) h_63 ?_
              refine z_zconst (M := M_X12_bounds) (b := false) dX12_bounds_71 rfl ?_
              exact J_176 _ _ (Option.some.inj H).symm
            · refine z_zne_f (M := M_X12_bounds) (tgt := 71) dX12_bounds_64 (by decide) h_63 ?_
              refine z_zconst (M := M_X12_bounds) (b := true) dX12_bounds_67 rfl ?_
              refine z_goto (M := M_X12_bounds) (tgt := 72) dX12_bounds_68 (by decide) ?_
              exact J_176 _ _ (Option.some.inj H).symm
          · refine z_zeq_t (M := M_X12_bounds) (tgt := 67) dX12_bounds_56 (by decide) h_59 ?_
            refine z_zconst (M := M_X12_bounds) (b := true) dX12_bounds_67 rfl ?_
            refine z_goto (M := M_X12_bounds) (tgt := 72) dX12_bounds_68 (by decide) ?_
            exact J_176 _ _ (Option.some.inj H).symm
      have H := he_178
      refine z_aload_n (M := M_X12_bounds) dX12_bounds_26 rfl ?_
      refine z_iload_n (M := M_X12_bounds) dX12_bounds_27 rfl ?_
      obtain ⟨x_50, hc_49, H⟩ := bd_e H
      refine z_callV (M := M_X12_bounds) (M' := M_X12_has) (as := [vi slot_0]) (rest := [vr 277]) rfl rfl dX12_bounds_28 m_X12_has t_3033 t_3035 s_197 (c_X12_has hl  hc_49) rfl rfl ly_277 rfl (Nat.le_of_ble_eq_true rfl) (Nat.le_of_ble_eq_true rfl) (Nat.le_of_ble_eq_true rfl) (Nat.le_of_ble_eq_true rfl) ?_
      refine z_st (st' := [zv x_50, vr 277]) rfl ?_
      rcases if_e H with ⟨h_51, H⟩ | ⟨h_51, H⟩
      · refine z_zne_t (M := M_X12_bounds) (tgt := 38) dX12_bounds_31 (by decide) h_51 ?_
        refine z_zconst (M := M_X12_bounds) (b := false) dX12_bounds_38 rfl ?_
        exact J_180 _ (Option.some.inj H).symm
      · refine z_zne_f (M := M_X12_bounds) (tgt := 38) dX12_bounds_31 (by decide) h_51 ?_
        refine z_zconst (M := M_X12_bounds) (b := true) dX12_bounds_34 rfl ?_
        refine z_goto (M := M_X12_bounds) (tgt := 39) dX12_bounds_35 (by decide) ?_
        exact J_180 _ (Option.some.inj H).symm
  refine z_iload_n (M := M_X12_bounds) dX12_bounds_6 rfl ?_
  refine z_callS (M := M_X12_bounds) (M' := M_X12_isSlot) (as := [vi slot_0]) (rest := [vr 277]) rfl rfl dX12_bounds_7 m_X12_isSlot t_2841 t_2842 (c_X12_isSlot hl  rfl) rfl rfl (Nat.le_of_ble_eq_true rfl) (Nat.le_of_ble_eq_true rfl) (Nat.le_of_ble_eq_true rfl) (Nat.le_of_ble_eq_true rfl) ?_
  refine z_st (st' := [zv (fR_isSlot slot_0), vr 277]) rfl ?_
  by_cases h_181 : (fR_isSlot slot_0) = true
  · refine z_zne_t (M := M_X12_bounds) (tgt := 17) dX12_bounds_10 (by decide) h_181 ?_
    refine z_iconst (M := M_X12_bounds) dX12_bounds_17 ?_
    exact z_st (by rw [zv_f (p := ¬ ((fR_isSlot slot_0) = true)) (not_not_intro h_181)]) J_44
  · refine z_zne_f (M := M_X12_bounds) (tgt := 17) dX12_bounds_10 (by decide) h_181 ?_
    refine z_iconst (M := M_X12_bounds) dX12_bounds_13 ?_
    refine z_goto (M := M_X12_bounds) (tgt := 18) dX12_bounds_14 (by decide) ?_
    exact z_st (by rw [zv_t (p := ¬ ((fR_isSlot slot_0) = true)) h_181]) J_44
theorem c_X12_isFar (hl : l.stackTraces = false) {σ : SG} {v_0 : Int} {r : Bool}  (H : fR_isFar v_0 = r) : en_S l E M_X12_isFar 2 0 0 [vl v_0] σ (pS (some (zv r)) σ) := by
  unfold fR_isFar at H
  refine z_mk (lv := [some (vl v_0), none]) m_X12_isFar rfl hl (Nat.le_of_ble_eq_true rfl) rfl ?_
  refine z_lload_n (M := M_X12_isFar) dX12_isFar_0 rfl ?_
  refine z_ldc2 (M := M_X12_isFar) (n := (-1000000000)) dX12_isFar_1 t_3136 (by decide +kernel) ?_
  refine z_ldc2 (M := M_X12_isFar) (n := 1000000000) dX12_isFar_4 t_2937 (by decide +kernel) ?_
  refine z_callS (M := M_X12_isFar) (M' := M_X12_in) (as := [vl v_0, vl (-1000000000), vl 1000000000]) (rest := []) rfl rfl dX12_isFar_7 m_X12_in t_2818 t_2819 (c_X12_in hl  rfl) rfl rfl (Nat.le_of_ble_eq_true rfl) (Nat.le_of_ble_eq_true rfl) (Nat.le_of_ble_eq_true rfl) (Nat.le_of_ble_eq_true rfl) ?_
  refine z_st (st' := [zv (fR_in v_0 (-1000000000) 1000000000)]) rfl ?_
  cases H
  exact z_zret (M := M_X12_isFar) dX12_isFar_10 rfl (Nat.le_of_ble_eq_true rfl) (Nat.le_of_ble_eq_true rfl) ⟨rfl, rfl⟩
theorem c_X12_find (hl : l.stackTraces = false) {σ : SG} {what_0 : Int} {lowX0_0 : Int} {lowY0_0 : Int} {highX0_0 : Int} {highY0_0 : Int} {r : Int} {σ' : SG}  (H : fR_find σ what_0 lowX0_0 lowY0_0 highX0_0 highY0_0 = some (r, σ')) : en_S l E M_X12_find 3 0 0 [vr 277, vi what_0, vi lowX0_0, vi lowY0_0, vi highX0_0, vi highY0_0] σ (pS (some (vi r)) σ') := by
  unfold fR_find at H
  refine z_mk (lv := [some (vr 277), some (vi what_0), some (vi lowX0_0), some (vi lowY0_0), some (vi highX0_0), some (vi highY0_0), none, none, none, none, none]) m_X12_find rfl hl (Nat.le_of_ble_eq_true rfl) rfl ?_
  refine z_aload_n (M := M_X12_find) dX12_find_0 rfl ?_
  refine z_iconst (M := M_X12_find) dX12_find_1 ?_
  obtain ⟨σ_1, σ_1_e, H⟩ := wf_e H
  refine z_putI (M := M_X12_find) (ci := 15) (C := RX12) (T := TX12) (Nf := 135) (ty := tyX12) cl15 dX12_find_2 ly_277 0 (by decide) t_2391 rfl rfl rfl rfl σ_1_e ?_
  have J_2 : YY l E M_X12_find 3 0 0 (pS (some (vi r)) σ') 68 [some (vr 277), some (vi what_0), some (vi lowX0_0), some (vi lowY0_0), some (vi highX0_0), some (vi highY0_0), none, none, none, none, none] [zv (decide ((((((((fR_in (w32 what_0) 0 2) = true) ∧ ((fR_isFar (w32 lowX0_0)) = true)) ∧ ((fR_isFar (w32 lowY0_0)) = true)) ∧ ((fR_isFar (w32 highX0_0)) = true)) ∧ ((fR_isFar (w32 highY0_0)) = true)) ∧ ((w32 lowX0_0) ≤ (w32 highX0_0))) ∧ ((w32 lowY0_0) ≤ (w32 highY0_0))))] σ_1 0 0 := by
    obtain ⟨x_3, x_3_e, H⟩ := lt_e H
    refine z_st (congrArg (fun z => zv z :: []) x_3_e) ?_
    refine z_zstore (M := M_X12_find) (lv' := [some (vr 277), some (vi what_0), some (vi lowX0_0), some (vi lowY0_0), some (vi highX0_0), some (vi highY0_0), some (zv x_3), none, none, none, none]) dX12_find_68 (Nat.le_of_ble_eq_true rfl) rfl rfl ?_
    refine z_aload_n (M := M_X12_find) dX12_find_70 rfl ?_
    have J_4 : YY l E M_X12_find 3 0 0 (pS (some (vi r)) σ') 81 [some (vr 277), some (vi what_0), some (vi lowX0_0), some (vi lowY0_0), some (vi highX0_0), some (vi highY0_0), some (zv x_3), none, none, none, none] [zv (decide (¬ (x_3 = true))), vr 277] σ_1 0 0 := by
      refine z_iconst (M := M_X12_find) dX12_find_81 ?_
      obtain ⟨⟨x_7, σ_6⟩, hc_5, H⟩ := bd_e H
      refine z_callV (M := M_X12_find) (M' := M_X12_fails) (as := [zv (decide (¬ (x_3 = true))), vi 1]) (rest := []) rfl rfl dX12_find_82 m_X12_fails t_2805 t_2807 s_157 (c_X12_fails hl  hc_5) rfl rfl ly_277 rfl (Nat.le_of_ble_eq_true rfl) (Nat.le_of_ble_eq_true rfl) (Nat.le_of_ble_eq_true rfl) (Nat.le_of_ble_eq_true rfl) ?_
      refine z_st (st' := [zv x_7]) rfl ?_
      rcases if_e H with ⟨h_8, H⟩ | ⟨h_8, H⟩
      · refine z_zeq_f (M := M_X12_find) (tgt := 90) dX12_find_85 (by decide) h_8 ?_
        refine z_iconst (M := M_X12_find) dX12_find_88 ?_
        cases H
        exact z_iret (M := M_X12_find) dX12_find_89 rfl (Nat.le_of_ble_eq_true rfl) (Nat.le_of_ble_eq_true rfl) ⟨rfl, rfl⟩
      · refine z_zeq_t (M := M_X12_find) (tgt := 90) dX12_find_85 (by decide) h_8 ?_
        refine z_aload_n (M := M_X12_find) dX12_find_90 rfl ?_
        refine z_iconst (M := M_X12_find) dX12_find_91 ?_
        obtain ⟨σ_9, σ_9_e, H⟩ := wf_e H
        refine z_putI (M := M_X12_find) (ci := 15) (C := RX12) (T := TX12) (Nf := 135) (ty := tyX12) cl15 dX12_find_92 ly_277 16 (by decide) t_2407 rfl rfl rfl rfl σ_9_e ?_
        refine z_iconst (M := M_X12_find) dX12_find_95 ?_
        refine z_istore (M := M_X12_find) (lv' := [some (vr 277), some (vi what_0), some (vi lowX0_0), some (vi lowY0_0), some (vi highX0_0), some (vi highY0_0), some (zv x_3), some (vi 0), none, none, none]) dX12_find_96 (Nat.le_of_ble_eq_true rfl) rfl rfl ?_
        obtain ⟨rl_15, hw_12, hk_13⟩ := bd_e H
        have J_112 : ∀ s_110 σ_111, rl_15 = (s_110, σ_111) → YY l E M_X12_find 3 0 0 (pS (some (vi r)) σ') 360 [some (vr 277), some (vi what_0), some (vi lowX0_0), some (vi lowY0_0), some (vi highX0_0), some (vi highY0_0), some (zv x_3), some (vi s_110), none, none, none] [] σ_111 0 0 := by
          intro s_110 σ_111 e
          have H := hk_13
          rw [e] at H
          refine z_aload_n (M := M_X12_find) dX12_find_360 rfl ?_
          refine z_getI (M := M_X12_find) (ci := 15) (C := RX12) (T := TX12) (Nf := 135) (ty := tyX12) cl15 dX12_find_361 ly_277 16 (by decide) t_2407 rfl rfl ?_
          cases H
          exact z_iret (M := M_X12_find) dX12_find_364 rfl (Nat.le_of_ble_eq_true rfl) (Nat.le_of_ble_eq_true rfl) ⟨rfl, rfl⟩
        refine whl_go hw_12 (fun (s_10, σ_11) => YY l E M_X12_find 3 0 0 (pS (some (vi r)) σ') 98 [some (vr 277), some (vi what_0), some (vi lowX0_0), some (vi lowY0_0), some (vi highX0_0), some (vi highY0_0), some (zv x_3), some (vi s_10), none, none, none] [] σ_11 0 0) ?_
        rintro ⟨s_10, σ_11⟩ o_16 H K_17 K_18
        refine z_iload (M := M_X12_find) dX12_find_98 rfl ?_
        refine z_bipush (M := M_X12_find) dX12_find_100 (by decide +kernel) ?_
        rcases if_e H with ⟨h_19, H⟩ | ⟨h_19, H⟩
        · refine z_icmp_ge_f (M := M_X12_find) (tgt := 360) dX12_find_102 (by decide) rfl (by decide +kernel) h_19 ?_
          refine z_aload_n (M := M_X12_find) dX12_find_105 rfl ?_
          refine z_iload (M := M_X12_find) dX12_find_106 rfl ?_
          obtain ⟨⟨x_22, σ_21⟩, hc_20, H⟩ := bd_e H
          refine z_callV (M := M_X12_find) (M' := M_X12_box) (as := [vi s_10]) (rest := []) rfl rfl dX12_find_108 m_X12_box t_3124 t_3126 s_210 (c_X12_box hl  hc_20) rfl rfl ly_277 rfl (Nat.le_of_ble_eq_true rfl) (Nat.le_of_ble_eq_true rfl) (Nat.le_of_ble_eq_true rfl) (Nat.le_of_ble_eq_true rfl) ?_
          refine z_st (st' := [zv x_22]) rfl ?_
          rcases if_e H with ⟨h_23, H⟩ | ⟨h_23, H⟩
          · refine z_zne_t (M := M_X12_find) (tgt := 117) dX12_find_111 (by decide) h_23 ?_
            obtain ⟨v_104, he_105, hk_106⟩ := bd_e H
            have J_107 : ∀ x_41, v_104 = x_41 → YY l E M_X12_find 3 0 0 (pS (some (vi r)) σ') 176 [some (vr 277), some (vi what_0), some (vi lowX0_0), some (vi lowY0_0), some (vi highX0_0), some (vi highY0_0), some (zv x_3), some (vi s_10), none, none, none] [zv x_41] σ_21 0 0 := by
              intro x_41 e
              have H := hk_106
              rw [e] at H
              refine z_zstore (M := M_X12_find) (lv' := [some (vr 277), some (vi what_0), some (vi lowX0_0), some (vi lowY0_0), some (vi highX0_0), some (vi highY0_0), some (zv x_3), some (vi s_10), some (zv x_41), none, none]) dX12_find_176 (Nat.le_of_ble_eq_true rfl) rfl rfl ?_
              obtain ⟨v_100, he_101, hk_102⟩ := bd_e H
              have J_103 : ∀ x_59, v_100 = x_59 → YY l E M_X12_find 3 0 0 (pS (some (vi r)) σ') 237 [some (vr 277), some (vi what_0), some (vi lowX0_0), some (vi lowY0_0), some (vi highX0_0), some (vi highY0_0), some (zv x_3), some (vi s_10), some (zv x_41), none, none] [zv x_59] σ_21 0 0 := by
                intro x_59 e
                have H := hk_102
                rw [e] at H
                refine z_zstore (M := M_X12_find) (lv' := [some (vr 277), some (vi what_0), some (vi lowX0_0), some (vi lowY0_0), some (vi highX0_0), some (vi highY0_0), some (zv x_3), some (vi s_10), some (zv x_41), some (zv x_59), none]) dX12_find_237 (Nat.le_of_ble_eq_true rfl) rfl rfl ?_
                obtain ⟨v_96, he_97, hk_98⟩ := bd_e H
                have J_99 : ∀ x_77, v_96 = x_77 → YY l E M_X12_find 3 0 0 (pS (some (vi r)) σ') 298 [some (vr 277), some (vi what_0), some (vi lowX0_0), some (vi lowY0_0), some (vi highX0_0), some (vi highY0_0), some (zv x_3), some (vi s_10), some (zv x_41), some (zv x_59), none] [zv x_77] σ_21 0 0 := by
                  intro x_77 e
                  have H := hk_98
                  rw [e] at H
                  refine z_zstore (M := M_X12_find) (lv' := [some (vr 277), some (vi what_0), some (vi lowX0_0), some (vi lowY0_0), some (vi highX0_0), some (vi highY0_0), some (zv x_3), some (vi s_10), some (zv x_41), some (zv x_59), some (zv x_77)]) dX12_find_298 (Nat.le_of_ble_eq_true rfl) rfl rfl ?_
                  rcases if_e H with ⟨h_83, H⟩ | ⟨h_83, H⟩
                  · have J_84 : YY l E M_X12_find 3 0 0 (pS (some (vi r)) σ') 354 [some (vr 277), some (vi what_0), some (vi lowX0_0), some (vi lowY0_0), some (vi highX0_0), some (vi highY0_0), some (zv x_3), some (vi s_10), some (zv x_41), some (zv x_59), some (zv x_77)] [] σ_21 0 0 := by
                      refine z_iinc (M := M_X12_find) (lv' := [some (vr 277), some (vi what_0), some (vi lowX0_0), some (vi lowY0_0), some (vi highX0_0), some (vi highY0_0), some (zv x_3), some (vi (s_10 + 1)), some (zv x_41), some (zv x_59), some (zv x_77)]) dX12_find_354 rfl (Nat.le_of_ble_eq_true rfl) rfl rfl ?_
                      refine z_goto (M := M_X12_find) (tgt := 98) dX12_find_357 (by decide) ?_
                      refine z_le (lv' := [some (vr 277), some (vi what_0), some (vi lowX0_0), some (vi lowY0_0), some (vi highX0_0), some (vi highY0_0), some (zv x_3), some (vi (s_10 + 1)), none, none, none]) ⟨Or.inr rfl, Or.inr rfl, Or.inr rfl, Or.inr rfl, Or.inr rfl, Or.inr rfl, Or.inr rfl, Or.inr rfl, Or.inl rfl, Or.inl rfl, Or.inl rfl, trivial⟩ ?_
                      exact K_17 _ (Option.some.inj H).symm
                    refine z_iload_n (M := M_X12_find) dX12_find_300 rfl ?_
                    by_cases h_86 : (w32 what_0) = 0
                    · refine z_if_ne_f (M := M_X12_find) (tgt := 312) dX12_find_301 (by decide) rfl h_86 ?_
                      refine z_zload (M := M_X12_find) dX12_find_304 rfl ?_
                      by_cases h_87 : x_41 = true
                      · refine z_zne_t (M := M_X12_find) (tgt := 333) dX12_find_306 (by decide) h_87 ?_
                        exact absurd h_83 (fun q => q.elim (fun z => (not_not_intro h_87) z.2) (fun z => z.1 h_86))
                      · refine z_zne_f (M := M_X12_find) (tgt := 333) dX12_find_306 (by decide) h_87 ?_
                        refine z_goto (M := M_X12_find) (tgt := 354) dX12_find_309 (by decide) ?_
                        exact J_84
                    · refine z_if_ne_t (M := M_X12_find) (tgt := 312) dX12_find_301 (by decide) rfl h_86 ?_
                      refine z_iload_n (M := M_X12_find) dX12_find_312 rfl ?_
                      refine z_iconst (M := M_X12_find) dX12_find_313 ?_
                      by_cases h_88 : (w32 what_0) = 1
                      · refine z_icmp_ne_f (M := M_X12_find) (tgt := 325) dX12_find_314 (by decide) rfl (by decide +kernel) h_88 ?_
                        refine z_zload (M := M_X12_find) dX12_find_317 rfl ?_
                        by_cases h_89 : x_59 = true
                        · refine z_zne_t (M := M_X12_find) (tgt := 333) dX12_find_319 (by decide) h_89 ?_
                          exact absurd h_83 (fun q => q.elim (fun z => h_86 z.1) (fun z => (fun q => q.elim (fun z => (not_not_intro h_89) z.2) (fun z => z.1 h_88)) z.2))
                        · refine z_zne_f (M := M_X12_find) (tgt := 333) dX12_find_319 (by decide) h_89 ?_
                          refine z_goto (M := M_X12_find) (tgt := 354) dX12_find_322 (by decide) ?_
                          exact J_84
                      · refine z_icmp_ne_t (M := M_X12_find) (tgt := 325) dX12_find_314 (by decide) rfl (by decide +kernel) h_88 ?_
                        refine z_zload (M := M_X12_find) dX12_find_325 rfl ?_
                        by_cases h_90 : x_77 = true
                        · refine z_zne_t (M := M_X12_find) (tgt := 333) dX12_find_327 (by decide) h_90 ?_
                          exact absurd h_83 (fun q => q.elim (fun z => h_86 z.1) (fun z => (fun q => q.elim (fun z => h_88 z.1) (fun z => (not_not_intro h_90) z.2)) z.2))
                        · refine z_zne_f (M := M_X12_find) (tgt := 333) dX12_find_327 (by decide) h_90 ?_
                          refine z_goto (M := M_X12_find) (tgt := 354) dX12_find_330 (by decide) ?_
                          exact J_84
                  · have J_85 : YY l E M_X12_find 3 0 0 (pS (some (vi r)) σ') 333 [some (vr 277), some (vi what_0), some (vi lowX0_0), some (vi lowY0_0), some (vi highX0_0), some (vi highY0_0), some (zv x_3), some (vi s_10), some (zv x_41), some (zv x_59), some (zv x_77)] [] σ_21 0 0 := by
                      refine z_aload_n (M := M_X12_find) dX12_find_333 rfl ?_
                      refine z_getR (M := M_X12_find) (ci := 15) (C := RX12) (T := TX12) (Nf := 135) (ty := tyX12) cl15 dX12_find_334 ly_277 15 (by decide) t_2406 rfl ?_
                      refine z_aload_n (M := M_X12_find) dX12_find_337 rfl ?_
                      refine z_getI (M := M_X12_find) (ci := 15) (C := RX12) (T := TX12) (Nf := 135) (ty := tyX12) cl15 dX12_find_338 ly_277 16 (by decide) t_2407 rfl rfl ?_
                      refine z_iload (M := M_X12_find) dX12_find_341 rfl ?_
                      obtain ⟨σ_79, σ_79_e, hi_80, H⟩ := wa_e H
                      refine z_iast (M := M_X12_find) dX12_find_343 ly_286 rfl rfl rfl hi_80 σ_79_e ?_
                      refine z_aload_n (M := M_X12_find) dX12_find_344 rfl ?_
                      refine z_dup (M := M_X12_find) dX12_find_345 rfl ?_
                      refine z_getI (M := M_X12_find) (ci := 15) (C := RX12) (T := TX12) (Nf := 135) (ty := tyX12) cl15 dX12_find_346 ly_277 16 (by decide) t_2407 rfl rfl ?_
                      refine z_iconst (M := M_X12_find) dX12_find_349 ?_
                      refine z_iadd (M := M_X12_find) dX12_find_350 ?_
                      obtain ⟨σ_81, σ_81_e, H⟩ := wf_e H
                      refine z_putI (M := M_X12_find) (ci := 15) (C := RX12) (T := TX12) (Nf := 135) (ty := tyX12) cl15 dX12_find_351 ly_277 16 (by decide) t_2407 rfl rfl rfl rfl σ_81_e ?_
                      refine z_iinc (M := M_X12_find) (lv' := [some (vr 277), some (vi what_0), some (vi lowX0_0), some (vi lowY0_0), some (vi highX0_0), some (vi highY0_0), some (zv x_3), some (vi (s_10 + 1)), some (zv x_41), some (zv x_59), some (zv x_77)]) dX12_find_354 rfl (Nat.le_of_ble_eq_true rfl) rfl rfl ?_
                      refine z_goto (M := M_X12_find) (tgt := 98) dX12_find_357 (by decide) ?_
                      refine z_le (lv' := [some (vr 277), some (vi what_0), some (vi lowX0_0), some (vi lowY0_0), some (vi highX0_0), some (vi highY0_0), some (zv x_3), some (vi (s_10 + 1)), none, none, none]) ⟨Or.inr rfl, Or.inr rfl, Or.inr rfl, Or.inr rfl, Or.inr rfl, Or.inr rfl, Or.inr rfl, Or.inr rfl, Or.inl rfl, Or.inl rfl, Or.inl rfl, trivial⟩ ?_
                      exact K_17 _ (Option.some.inj H).symm
                    refine z_iload_n (M := M_X12_find) dX12_find_300 rfl ?_
                    by_cases h_91 : (w32 what_0) = 0
                    · refine z_if_ne_f (M := M_X12_find) (tgt := 312) dX12_find_301 (by decide) rfl h_91 ?_
                      refine z_zload (M := M_X12_find) dX12_find_304 rfl ?_
                      by_cases h_92 : x_41 = true
                      · refine z_zne_t (M := M_X12_find) (tgt := 333) dX12_find_306 (by decide) h_92 ?_
                        exact J_85
                      · refine z_zne_f (M := M_X12_find) (tgt := 333) dX12_find_306 (by decide) h_92 ?_
                        exact absurd (Or.inl ⟨h_91, h_92⟩) h_83
                    · refine z_if_ne_t (M := M_X12_find) (tgt := 312) dX12_find_301 (by decide) rfl h_91 ?_
                      refine z_iload_n (M := M_X12_find) dX12_find_312 rfl ?_
                      refine z_iconst (M := M_X12_find) dX12_find_313 ?_
                      by_cases h_93 : (w32 what_0) = 1
                      · refine z_icmp_ne_f (M := M_X12_find) (tgt := 325) dX12_find_314 (by decide) rfl (by decide +kernel) h_93 ?_
                        refine z_zload (M := M_X12_find) dX12_find_317 rfl ?_
                        by_cases h_94 : x_59 = true
                        · refine z_zne_t (M := M_X12_find) (tgt := 333) dX12_find_319 (by decide) h_94 ?_
                          exact J_85
                        · refine z_zne_f (M := M_X12_find) (tgt := 333) dX12_find_319 (by decide) h_94 ?_
                          exact absurd (Or.inr ⟨h_91, (Or.inl ⟨h_93, h_94⟩)⟩) h_83
                      · refine z_icmp_ne_t (M := M_X12_find) (tgt := 325) dX12_find_314 (by decide) rfl (by decide +kernel) h_93 ?_
                        refine z_zload (M := M_X12_find) dX12_find_325 rfl ?_
                        by_cases h_95 : x_77 = true
                        · refine z_zne_t (M := M_X12_find) (tgt := 333) dX12_find_327 (by decide) h_95 ?_
                          exact J_85
                        · refine z_zne_f (M := M_X12_find) (tgt := 333) dX12_find_327 (by decide) h_95 ?_
                          exact absurd (Or.inr ⟨h_91, (Or.inr ⟨h_93, h_95⟩)⟩) h_83
                have H := he_97
                refine z_aload_n (M := M_X12_find) dX12_find_239 rfl ?_
                refine z_getR (M := M_X12_find) (ci := 15) (C := RX12) (T := TX12) (Nf := 135) (ty := tyX12) cl15 dX12_find_240 ly_277 32 (by decide) t_2423 rfl ?_
                refine z_iload (M := M_X12_find) dX12_find_243 rfl ?_
                obtain ⟨x_60, x_60_e, hi_61, H⟩ := rd_e H
                refine z_lald (M := M_X12_find) dX12_find_245 ly_290 rfl rfl rfl hi_61 x_60_e ?_
                refine z_iload_n (M := M_X12_find) dX12_find_246 rfl ?_
                refine z_i2l (M := M_X12_find) dX12_find_247 ?_
                refine z_lcmp (M := M_X12_find) dX12_find_248 ?_
                rcases if_e H with ⟨h_62, H⟩ | ⟨h_62, H⟩
                · refine z_lif_gt_f (M := M_X12_find) (tgt := 297) dX12_find_249 (by decide) rfl rfl h_62 ?_
                  refine z_aload_n (M := M_X12_find) dX12_find_252 rfl ?_
                  refine z_getR (M := M_X12_find) (ci := 15) (C := RX12) (T := TX12) (Nf := 135) (ty := tyX12) cl15 dX12_find_253 ly_277 34 (by decide) t_2425 rfl ?_
                  refine z_iload (M := M_X12_find) dX12_find_256 rfl ?_
                  obtain ⟨x_63, x_63_e, hi_64, H⟩ := rd_e H
                  refine z_lald (M := M_X12_find) dX12_find_258 ly_292 rfl rfl rfl hi_64 x_63_e ?_
                  refine z_iload (M := M_X12_find) dX12_find_259 rfl ?_
                  refine z_i2l (M := M_X12_find) dX12_find_261 ?_
                  refine z_lcmp (M := M_X12_find) dX12_find_262 ?_
                  rcases if_e H with ⟨h_65, H⟩ | ⟨h_65, H⟩
                  · refine z_lif_lt_f (M := M_X12_find) (tgt := 297) dX12_find_263 (by decide) rfl rfl h_65 ?_
                    refine z_aload_n (M := M_X12_find) dX12_find_266 rfl ?_
                    refine z_getR (M := M_X12_find) (ci := 15) (C := RX12) (T := TX12) (Nf := 135) (ty := tyX12) cl15 dX12_find_267 ly_277 33 (by decide) t_2424 rfl ?_
                    refine z_iload (M := M_X12_find) dX12_find_270 rfl ?_
                    obtain ⟨x_66, x_66_e, hi_67, H⟩ := rd_e H
                    refine z_lald (M := M_X12_find) dX12_find_272 ly_291 rfl rfl rfl hi_67 x_66_e ?_
                    refine z_iload_n (M := M_X12_find) dX12_find_273 rfl ?_
                    refine z_i2l (M := M_X12_find) dX12_find_274 ?_
                    refine z_lcmp (M := M_X12_find) dX12_find_275 ?_
                    rcases if_e H with ⟨h_68, H⟩ | ⟨h_68, H⟩
                    · refine z_lif_gt_f (M := M_X12_find) (tgt := 297) dX12_find_276 (by decide) rfl rfl h_68 ?_
                      refine z_aload_n (M := M_X12_find) dX12_find_279 rfl ?_
                      refine z_getR (M := M_X12_find) (ci := 15) (C := RX12) (T := TX12) (Nf := 135) (ty := tyX12) cl15 dX12_find_280 ly_277 35 (by decide) t_2426 rfl ?_
                      refine z_iload (M := M_X12_find) dX12_find_283 rfl ?_
                      obtain ⟨x_69, x_69_e, hi_70, H⟩ := rd_e H
                      refine z_lald (M := M_X12_find) dX12_find_285 ly_293 rfl rfl rfl hi_70 x_69_e ?_
                      refine z_iload (M := M_X12_find) dX12_find_286 rfl ?_
                      refine z_i2l (M := M_X12_find) dX12_find_288 ?_
                      refine z_lcmp (M := M_X12_find) dX12_find_289 ?_
                      rcases if_e H with ⟨h_71, H⟩ | ⟨h_71, H⟩
                      · refine z_lif_lt_f (M := M_X12_find) (tgt := 297) dX12_find_290 (by decide) rfl rfl h_71 ?_
                        refine z_zconst (M := M_X12_find) (b := true) dX12_find_293 rfl ?_
                        refine z_goto (M := M_X12_find) (tgt := 298) dX12_find_294 (by decide) ?_
                        exact J_99 _ (Option.some.inj H).symm
                      · refine z_lif_lt_t (M := M_X12_find) (tgt := 297) dX12_find_290 (by decide) rfl rfl (Int.not_le.mp h_71) ?_
                        refine z_zconst (M := M_X12_find) (b := false) dX12_find_297 rfl ?_
                        exact J_99 _ (Option.some.inj H).symm
                    · refine z_lif_gt_t (M := M_X12_find) (tgt := 297) dX12_find_276 (by decide) rfl rfl (Int.not_le.mp h_68) ?_
                      refine z_zconst (M := M_X12_find) (b := false) dX12_find_297 rfl ?_
                      exact J_99 _ (Option.some.inj H).symm
                  · refine z_lif_lt_t (M := M_X12_find) (tgt := 297) dX12_find_263 (by decide) rfl rfl (Int.not_le.mp h_65) ?_
                    refine z_zconst (M := M_X12_find) (b := false) dX12_find_297 rfl ?_
                    exact J_99 _ (Option.some.inj H).symm
                · refine z_lif_gt_t (M := M_X12_find) (tgt := 297) dX12_find_249 (by decide) rfl rfl (Int.not_le.mp h_62) ?_
                  refine z_zconst (M := M_X12_find) (b := false) dX12_find_297 rfl ?_
                  exact J_99 _ (Option.some.inj H).symm
              have H := he_101
              refine z_aload_n (M := M_X12_find) dX12_find_178 rfl ?_
              refine z_getR (M := M_X12_find) (ci := 15) (C := RX12) (T := TX12) (Nf := 135) (ty := tyX12) cl15 dX12_find_179 ly_277 32 (by decide) t_2423 rfl ?_
              refine z_iload (M := M_X12_find) dX12_find_182 rfl ?_
              obtain ⟨x_42, x_42_e, hi_43, H⟩ := rd_e H
              refine z_lald (M := M_X12_find) dX12_find_184 ly_290 rfl rfl rfl hi_43 x_42_e ?_
              refine z_iload_n (M := M_X12_find) dX12_find_185 rfl ?_
              refine z_i2l (M := M_X12_find) dX12_find_186 ?_
              refine z_lcmp (M := M_X12_find) dX12_find_187 ?_
              rcases if_e H with ⟨h_44, H⟩ | ⟨h_44, H⟩
              · refine z_lif_lt_f (M := M_X12_find) (tgt := 236) dX12_find_188 (by decide) rfl rfl h_44 ?_
                refine z_aload_n (M := M_X12_find) dX12_find_191 rfl ?_
                refine z_getR (M := M_X12_find) (ci := 15) (C := RX12) (T := TX12) (Nf := 135) (ty := tyX12) cl15 dX12_find_192 ly_277 34 (by decide) t_2425 rfl ?_
                refine z_iload (M := M_X12_find) dX12_find_195 rfl ?_
                obtain ⟨x_45, x_45_e, hi_46, H⟩ := rd_e H
                refine z_lald (M := M_X12_find) dX12_find_197 ly_292 rfl rfl rfl hi_46 x_45_e ?_
                refine z_iload (M := M_X12_find) dX12_find_198 rfl ?_
                refine z_i2l (M := M_X12_find) dX12_find_200 ?_
                refine z_lcmp (M := M_X12_find) dX12_find_201 ?_
                rcases if_e H with ⟨h_47, H⟩ | ⟨h_47, H⟩
                · refine z_lif_gt_f (M := M_X12_find) (tgt := 236) dX12_find_202 (by decide) rfl rfl h_47 ?_
                  refine z_aload_n (M := M_X12_find) dX12_find_205 rfl ?_
                  refine z_getR (M := M_X12_find) (ci := 15) (C := RX12) (T := TX12) (Nf := 135) (ty := tyX12) cl15 dX12_find_206 ly_277 33 (by decide) t_2424 rfl ?_
                  refine z_iload (M := M_X12_find) dX12_find_209 rfl ?_
                  obtain ⟨x_48, x_48_e, hi_49, H⟩ := rd_e H
                  refine z_lald (M := M_X12_find) dX12_find_211 ly_291 rfl rfl rfl hi_49 x_48_e ?_
                  refine z_iload_n (M := M_X12_find) dX12_find_212 rfl ?_
                  refine z_i2l (M := M_X12_find) dX12_find_213 ?_
                  refine z_lcmp (M := M_X12_find) dX12_find_214 ?_
                  rcases if_e H with ⟨h_50, H⟩ | ⟨h_50, H⟩
                  · refine z_lif_lt_f (M := M_X12_find) (tgt := 236) dX12_find_215 (by decide) rfl rfl h_50 ?_
                    refine z_aload_n (M := M_X12_find) dX12_find_218 rfl ?_
                    refine z_getR (M := M_X12_find) (ci := 15) (C := RX12) (T := TX12) (Nf := 135) (ty := tyX12) cl15 dX12_find_219 ly_277 35 (by decide) t_2426 rfl ?_
                    refine z_iload (M := M_X12_find) dX12_find_222 rfl ?_
                    obtain ⟨x_51, x_51_e, hi_52, H⟩ := rd_e H
                    refine z_lald (M := M_X12_find) dX12_find_224 ly_293 rfl rfl rfl hi_52 x_51_e ?_
                    refine z_iload (M := M_X12_find) dX12_find_225 rfl ?_
                    refine z_i2l (M := M_X12_find) dX12_find_227 ?_
                    refine z_lcmp (M := M_X12_find) dX12_find_228 ?_
                    rcases if_e H with ⟨h_53, H⟩ | ⟨h_53, H⟩
                    · refine z_lif_gt_f (M := M_X12_find) (tgt := 236) dX12_find_229 (by decide) rfl rfl h_53 ?_
                      refine z_zconst (M := M_X12_find) (b := true) dX12_find_232 rfl ?_
                      refine z_goto (M := M_X12_find) (tgt := 237) dX12_find_233 (by decide) ?_
                      exact J_103 _ (Option.some.inj H).symm
                    · refine z_lif_gt_t (M := M_X12_find) (tgt := 236) dX12_find_229 (by decide) rfl rfl (Int.not_le.mp h_53) ?_
                      refine z_zconst (M := M_X12_find) (b := false) dX12_find_236 rfl ?_
                      exact J_103 _ (Option.some.inj H).symm
                  · refine z_lif_lt_t (M := M_X12_find) (tgt := 236) dX12_find_215 (by decide) rfl rfl (Int.not_le.mp h_50) ?_
                    refine z_zconst (M := M_X12_find) (b := false) dX12_find_236 rfl ?_
                    exact J_103 _ (Option.some.inj H).symm
                · refine z_lif_gt_t (M := M_X12_find) (tgt := 236) dX12_find_202 (by decide) rfl rfl (Int.not_le.mp h_47) ?_
                  refine z_zconst (M := M_X12_find) (b := false) dX12_find_236 rfl ?_
                  exact J_103 _ (Option.some.inj H).symm
              · refine z_lif_lt_t (M := M_X12_find) (tgt := 236) dX12_find_188 (by decide) rfl rfl (Int.not_le.mp h_44) ?_
                refine z_zconst (M := M_X12_find) (b := false) dX12_find_236 rfl ?_
                exact J_103 _ (Option.some.inj H).symm
            have H := he_105
            refine z_aload_n (M := M_X12_find) dX12_find_117 rfl ?_
            refine z_getR (M := M_X12_find) (ci := 15) (C := RX12) (T := TX12) (Nf := 135) (ty := tyX12) cl15 dX12_find_118 ly_277 32 (by decide) t_2423 rfl ?_
            refine z_iload (M := M_X12_find) dX12_find_121 rfl ?_
            obtain ⟨x_24, x_24_e, hi_25, H⟩ := rd_e H
            refine z_lald (M := M_X12_find) dX12_find_123 ly_290 rfl rfl rfl hi_25 x_24_e ?_
            refine z_iload (M := M_X12_find) dX12_find_124 rfl ?_
            refine z_i2l (M := M_X12_find) dX12_find_126 ?_
            refine z_lcmp (M := M_X12_find) dX12_find_127 ?_
            rcases if_e H with ⟨h_26, H⟩ | ⟨h_26, H⟩
            · refine z_lif_gt_f (M := M_X12_find) (tgt := 175) dX12_find_128 (by decide) rfl rfl h_26 ?_
              refine z_aload_n (M := M_X12_find) dX12_find_131 rfl ?_
              refine z_getR (M := M_X12_find) (ci := 15) (C := RX12) (T := TX12) (Nf := 135) (ty := tyX12) cl15 dX12_find_132 ly_277 34 (by decide) t_2425 rfl ?_
              refine z_iload (M := M_X12_find) dX12_find_135 rfl ?_
              obtain ⟨x_27, x_27_e, hi_28, H⟩ := rd_e H
              refine z_lald (M := M_X12_find) dX12_find_137 ly_292 rfl rfl rfl hi_28 x_27_e ?_
              refine z_iload_n (M := M_X12_find) dX12_find_138 rfl ?_
              refine z_i2l (M := M_X12_find) dX12_find_139 ?_
              refine z_lcmp (M := M_X12_find) dX12_find_140 ?_
              rcases if_e H with ⟨h_29, H⟩ | ⟨h_29, H⟩
              · refine z_lif_lt_f (M := M_X12_find) (tgt := 175) dX12_find_141 (by decide) rfl rfl h_29 ?_
                refine z_aload_n (M := M_X12_find) dX12_find_144 rfl ?_
                refine z_getR (M := M_X12_find) (ci := 15) (C := RX12) (T := TX12) (Nf := 135) (ty := tyX12) cl15 dX12_find_145 ly_277 33 (by decide) t_2424 rfl ?_
                refine z_iload (M := M_X12_find) dX12_find_148 rfl ?_
                obtain ⟨x_30, x_30_e, hi_31, H⟩ := rd_e H
                refine z_lald (M := M_X12_find) dX12_find_150 ly_291 rfl rfl rfl hi_31 x_30_e ?_
                refine z_iload (M := M_X12_find) dX12_find_151 rfl ?_
                refine z_i2l (M := M_X12_find) dX12_find_153 ?_
                refine z_lcmp (M := M_X12_find) dX12_find_154 ?_
                rcases if_e H with ⟨h_32, H⟩ | ⟨h_32, H⟩
                · refine z_lif_gt_f (M := M_X12_find) (tgt := 175) dX12_find_155 (by decide) rfl rfl h_32 ?_
                  refine z_aload_n (M := M_X12_find) dX12_find_158 rfl ?_
                  refine z_getR (M := M_X12_find) (ci := 15) (C := RX12) (T := TX12) (Nf := 135) (ty := tyX12) cl15 dX12_find_159 ly_277 35 (by decide) t_2426 rfl ?_
                  refine z_iload (M := M_X12_find) dX12_find_162 rfl ?_
                  obtain ⟨x_33, x_33_e, hi_34, H⟩ := rd_e H
                  refine z_lald (M := M_X12_find) dX12_find_164 ly_293 rfl rfl rfl hi_34 x_33_e ?_
                  refine z_iload_n (M := M_X12_find) dX12_find_165 rfl ?_
                  refine z_i2l (M := M_X12_find) dX12_find_166 ?_
                  refine z_lcmp (M := M_X12_find) dX12_find_167 ?_
                  rcases if_e H with ⟨h_35, H⟩ | ⟨h_35, H⟩
                  · refine z_lif_lt_f (M := M_X12_find) (tgt := 175) dX12_find_168 (by decide) rfl rfl h_35 ?_
                    refine z_zconst (M := M_X12_find) (b := true) dX12_find_171 rfl ?_
                    refine z_goto (M := M_X12_find) (tgt := 176) dX12_find_172 (by decide) ?_
                    exact J_107 _ (Option.some.inj H).symm
                  · refine z_lif_lt_t (M := M_X12_find) (tgt := 175) dX12_find_168 (by decide) rfl rfl (Int.not_le.mp h_35) ?_
                    refine z_zconst (M := M_X12_find) (b := false) dX12_find_175 rfl ?_
                    exact J_107 _ (Option.some.inj H).symm
                · refine z_lif_gt_t (M := M_X12_find) (tgt := 175) dX12_find_155 (by decide) rfl rfl (Int.not_le.mp h_32) ?_
                  refine z_zconst (M := M_X12_find) (b := false) dX12_find_175 rfl ?_
                  exact J_107 _ (Option.some.inj H).symm
              · refine z_lif_lt_t (M := M_X12_find) (tgt := 175) dX12_find_141 (by decide) rfl rfl (Int.not_le.mp h_29) ?_
                refine z_zconst (M := M_X12_find) (b := false) dX12_find_175 rfl ?_
                exact J_107 _ (Option.some.inj H).symm
            · refine z_lif_gt_t (M := M_X12_find) (tgt := 175) dX12_find_128 (by decide) rfl rfl (Int.not_le.mp h_26) ?_
              refine z_zconst (M := M_X12_find) (b := false) dX12_find_175 rfl ?_
              exact J_107 _ (Option.some.inj H).symm
          · refine z_zne_f (M := M_X12_find) (tgt := 117) dX12_find_111 (by decide) h_23 ?_
            refine z_goto (M := M_X12_find) (tgt := 354) dX12_find_114 (by decide) ?_
            refine z_iinc (M := M_X12_find) (lv' := [some (vr 277), some (vi what_0), some (vi lowX0_0), some (vi lowY0_0), some (vi highX0_0), some (vi highY0_0), some (zv x_3), some (vi (s_10 + 1)), none, none, none]) dX12_find_354 rfl (Nat.le_of_ble_eq_true rfl) rfl rfl ?_
            refine z_goto (M := M_X12_find) (tgt := 98) dX12_find_357 (by decide) ?_
            exact K_17 _ (Option.some.inj H).symm
        · refine z_icmp_ge_t (M := M_X12_find) (tgt := 360) dX12_find_102 (by decide) rfl (by decide +kernel) (Int.not_lt.mp h_19) ?_
          exact J_112 _ _ (K_18 _ (Option.some.inj H).symm).symm
    refine z_zload (M := M_X12_find) dX12_find_71 rfl ?_
    by_cases h_113 : x_3 = true
    · refine z_zne_t (M := M_X12_find) (tgt := 80) dX12_find_73 (by decide) h_113 ?_
      refine z_iconst (M := M_X12_find) dX12_find_80 ?_
      exact z_st (by rw [zv_f (p := ¬ (x_3 = true)) (not_not_intro h_113)]) J_4
    · refine z_zne_f (M := M_X12_find) (tgt := 80) dX12_find_73 (by decide) h_113 ?_
      refine z_iconst (M := M_X12_find) dX12_find_76 ?_
      refine z_goto (M := M_X12_find) (tgt := 81) dX12_find_77 (by decide) ?_
      exact z_st (by rw [zv_t (p := ¬ (x_3 = true)) h_113]) J_4
  refine z_iload_n (M := M_X12_find) dX12_find_5 rfl ?_
  refine z_i2l (M := M_X12_find) dX12_find_6 ?_
  refine z_lconst (M := M_X12_find) (m := 0) dX12_find_7 (by decide +kernel) ?_
  refine z_ldc2 (M := M_X12_find) (n := 2) dX12_find_8 t_3091 (by decide +kernel) ?_
  refine z_callS (M := M_X12_find) (M' := M_X12_in) (as := [vl (w32 what_0), vl 0, vl 2]) (rest := []) rfl rfl dX12_find_11 m_X12_in t_2818 t_2819 (c_X12_in hl  rfl) rfl rfl (Nat.le_of_ble_eq_true rfl) (Nat.le_of_ble_eq_true rfl) (Nat.le_of_ble_eq_true rfl) (Nat.le_of_ble_eq_true rfl) ?_
  refine z_st (st' := [zv (fR_in (w32 what_0) 0 2)]) rfl ?_
  by_cases h_114 : (fR_in (w32 what_0) 0 2) = true
  · refine z_zeq_f (M := M_X12_find) (tgt := 67) dX12_find_14 (by decide) h_114 ?_
    refine z_iload_n (M := M_X12_find) dX12_find_17 rfl ?_
    refine z_i2l (M := M_X12_find) dX12_find_18 ?_
    refine z_callS (M := M_X12_find) (M' := M_X12_isFar) (as := [vl (w32 lowX0_0)]) (rest := []) rfl rfl dX12_find_19 m_X12_isFar t_3133 t_3134 (c_X12_isFar hl  rfl) rfl rfl (Nat.le_of_ble_eq_true rfl) (Nat.le_of_ble_eq_true rfl) (Nat.le_of_ble_eq_true rfl) (Nat.le_of_ble_eq_true rfl) ?_
    refine z_st (st' := [zv (fR_isFar (w32 lowX0_0))]) rfl ?_
    by_cases h_115 : (fR_isFar (w32 lowX0_0)) = true
    · refine z_zeq_f (M := M_X12_find) (tgt := 67) dX12_find_22 (by decide) h_115 ?_
      refine z_iload_n (M := M_X12_find) dX12_find_25 rfl ?_
      refine z_i2l (M := M_X12_find) dX12_find_26 ?_
      refine z_callS (M := M_X12_find) (M' := M_X12_isFar) (as := [vl (w32 lowY0_0)]) (rest := []) rfl rfl dX12_find_27 m_X12_isFar t_3133 t_3134 (c_X12_isFar hl  rfl) rfl rfl (Nat.le_of_ble_eq_true rfl) (Nat.le_of_ble_eq_true rfl) (Nat.le_of_ble_eq_true rfl) (Nat.le_of_ble_eq_true rfl) ?_
      refine z_st (st' := [zv (fR_isFar (w32 lowY0_0))]) rfl ?_
      by_cases h_116 : (fR_isFar (w32 lowY0_0)) = true
      · refine z_zeq_f (M := M_X12_find) (tgt := 67) dX12_find_30 (by decide) h_116 ?_
        refine z_iload (M := M_X12_find) dX12_find_33 rfl ?_
        refine z_i2l (M := M_X12_find) dX12_find_35 ?_
        refine z_callS (M := M_X12_find) (M' := M_X12_isFar) (as := [vl (w32 highX0_0)]) (rest := []) rfl rfl dX12_find_36 m_X12_isFar t_3133 t_3134 (c_X12_isFar hl  rfl) rfl rfl (Nat.le_of_ble_eq_true rfl) (Nat.le_of_ble_eq_true rfl) (Nat.le_of_ble_eq_true rfl) (Nat.le_of_ble_eq_true rfl) ?_
        refine z_st (st' := [zv (fR_isFar (w32 highX0_0))]) rfl ?_
        by_cases h_117 : (fR_isFar (w32 highX0_0)) = true
        · refine z_zeq_f (M := M_X12_find) (tgt := 67) dX12_find_39 (by decide) h_117 ?_
          refine z_iload (M := M_X12_find) dX12_find_42 rfl ?_
          refine z_i2l (M := M_X12_find) dX12_find_44 ?_
          refine z_callS (M := M_X12_find) (M' := M_X12_isFar) (as := [vl (w32 highY0_0)]) (rest := []) rfl rfl dX12_find_45 m_X12_isFar t_3133 t_3134 (c_X12_isFar hl  rfl) rfl rfl (Nat.le_of_ble_eq_true rfl) (Nat.le_of_ble_eq_true rfl) (Nat.le_of_ble_eq_true rfl) (Nat.le_of_ble_eq_true rfl) ?_
          refine z_st (st' := [zv (fR_isFar (w32 highY0_0))]) rfl ?_
          by_cases h_118 : (fR_isFar (w32 highY0_0)) = true
          · refine z_zeq_f (M := M_X12_find) (tgt := 67) dX12_find_48 (by decide) h_118 ?_
            refine z_iload_n (M := M_X12_find) dX12_find_51 rfl ?_
            refine z_iload (M := M_X12_find) dX12_find_52 rfl ?_
            by_cases h_119 : (w32 lowX0_0) ≤ (w32 highX0_0)
            · refine z_icmp_gt_f (M := M_X12_find) (tgt := 67) dX12_find_54 (by decide) rfl rfl h_119 ?_
              refine z_iload_n (M := M_X12_find) dX12_find_57 rfl ?_
              refine z_iload (M := M_X12_find) dX12_find_58 rfl ?_
              by_cases h_120 : (w32 lowY0_0) ≤ (w32 highY0_0)
              · refine z_icmp_gt_f (M := M_X12_find) (tgt := 67) dX12_find_60 (by decide) rfl rfl h_120 ?_
                refine z_iconst (M := M_X12_find) dX12_find_63 ?_
                refine z_goto (M := M_X12_find) (tgt := 68) dX12_find_64 (by decide) ?_
                exact z_st (by rw [zv_t (p := (((((((fR_in (w32 what_0) 0 2) = true) ∧ ((fR_isFar (w32 lowX0_0)) = true)) ∧ ((fR_isFar (w32 lowY0_0)) = true)) ∧ ((fR_isFar (w32 highX0_0)) = true)) ∧ ((fR_isFar (w32 highY0_0)) = true)) ∧ ((w32 lowX0_0) ≤ (w32 highX0_0))) ∧ ((w32 lowY0_0) ≤ (w32 highY0_0))) ⟨⟨⟨⟨⟨⟨h_114, h_115⟩, h_116⟩, h_117⟩, h_118⟩, h_119⟩, h_120⟩]) J_2
              · refine z_icmp_gt_t (M := M_X12_find) (tgt := 67) dX12_find_60 (by decide) rfl rfl (Int.not_le.mp h_120) ?_
                refine z_iconst (M := M_X12_find) dX12_find_67 ?_
                exact z_st (by rw [zv_f (p := (((((((fR_in (w32 what_0) 0 2) = true) ∧ ((fR_isFar (w32 lowX0_0)) = true)) ∧ ((fR_isFar (w32 lowY0_0)) = true)) ∧ ((fR_isFar (w32 highX0_0)) = true)) ∧ ((fR_isFar (w32 highY0_0)) = true)) ∧ ((w32 lowX0_0) ≤ (w32 highX0_0))) ∧ ((w32 lowY0_0) ≤ (w32 highY0_0))) (fun q => h_120 q.2)]) J_2
            · refine z_icmp_gt_t (M := M_X12_find) (tgt := 67) dX12_find_54 (by decide) rfl rfl (Int.not_le.mp h_119) ?_
              refine z_iconst (M := M_X12_find) dX12_find_67 ?_
              exact z_st (by rw [zv_f (p := (((((((fR_in (w32 what_0) 0 2) = true) ∧ ((fR_isFar (w32 lowX0_0)) = true)) ∧ ((fR_isFar (w32 lowY0_0)) = true)) ∧ ((fR_isFar (w32 highX0_0)) = true)) ∧ ((fR_isFar (w32 highY0_0)) = true)) ∧ ((w32 lowX0_0) ≤ (w32 highX0_0))) ∧ ((w32 lowY0_0) ≤ (w32 highY0_0))) (fun q => (fun q => h_119 q.2) q.1)]) J_2
          · refine z_zeq_t (M := M_X12_find) (tgt := 67) dX12_find_48 (by decide) h_118 ?_
            refine z_iconst (M := M_X12_find) dX12_find_67 ?_
            exact z_st (by rw [zv_f (p := (((((((fR_in (w32 what_0) 0 2) = true) ∧ ((fR_isFar (w32 lowX0_0)) = true)) ∧ ((fR_isFar (w32 lowY0_0)) = true)) ∧ ((fR_isFar (w32 highX0_0)) = true)) ∧ ((fR_isFar (w32 highY0_0)) = true)) ∧ ((w32 lowX0_0) ≤ (w32 highX0_0))) ∧ ((w32 lowY0_0) ≤ (w32 highY0_0))) (fun q => (fun q => (fun q => h_118 q.2) q.1) q.1)]) J_2
        · refine z_zeq_t (M := M_X12_find) (tgt := 67) dX12_find_39 (by decide) h_117 ?_
          refine z_iconst (M := M_X12_find) dX12_find_67 ?_
          exact z_st (by rw [zv_f (p := (((((((fR_in (w32 what_0) 0 2) = true) ∧ ((fR_isFar (w32 lowX0_0)) = true)) ∧ ((fR_isFar (w32 lowY0_0)) = true)) ∧ ((fR_isFar (w32 highX0_0)) = true)) ∧ ((fR_isFar (w32 highY0_0)) = true)) ∧ ((w32 lowX0_0) ≤ (w32 highX0_0))) ∧ ((w32 lowY0_0) ≤ (w32 highY0_0))) (fun q => (fun q => (fun q => (fun q => h_117 q.2) q.1) q.1) q.1)]) J_2
      · refine z_zeq_t (M := M_X12_find) (tgt := 67) dX12_find_30 (by decide) h_116 ?_
        refine z_iconst (M := M_X12_find) dX12_find_67 ?_
        exact z_st (by rw [zv_f (p := (((((((fR_in (w32 what_0) 0 2) = true) ∧ ((fR_isFar (w32 lowX0_0)) = true)) ∧ ((fR_isFar (w32 lowY0_0)) = true)) ∧ ((fR_isFar (w32 highX0_0)) = true)) ∧ ((fR_isFar (w32 highY0_0)) = true)) ∧ ((w32 lowX0_0) ≤ (w32 highX0_0))) ∧ ((w32 lowY0_0) ≤ (w32 highY0_0))) (fun q => (fun q => (fun q => (fun q => (fun q => h_116 q.2) q.1) q.1) q.1) q.1)]) J_2
    · refine z_zeq_t (M := M_X12_find) (tgt := 67) dX12_find_22 (by decide) h_115 ?_
      refine z_iconst (M := M_X12_find) dX12_find_67 ?_
      exact z_st (by rw [zv_f (p := (((((((fR_in (w32 what_0) 0 2) = true) ∧ ((fR_isFar (w32 lowX0_0)) = true)) ∧ ((fR_isFar (w32 lowY0_0)) = true)) ∧ ((fR_isFar (w32 highX0_0)) = true)) ∧ ((fR_isFar (w32 highY0_0)) = true)) ∧ ((w32 lowX0_0) ≤ (w32 highX0_0))) ∧ ((w32 lowY0_0) ≤ (w32 highY0_0))) (fun q => (fun q => (fun q => (fun q => (fun q => (fun q => h_115 q.2) q.1) q.1) q.1) q.1) q.1)]) J_2
  · refine z_zeq_t (M := M_X12_find) (tgt := 67) dX12_find_14 (by decide) h_114 ?_
    refine z_iconst (M := M_X12_find) dX12_find_67 ?_
    exact z_st (by rw [zv_f (p := (((((((fR_in (w32 what_0) 0 2) = true) ∧ ((fR_isFar (w32 lowX0_0)) = true)) ∧ ((fR_isFar (w32 lowY0_0)) = true)) ∧ ((fR_isFar (w32 highX0_0)) = true)) ∧ ((fR_isFar (w32 highY0_0)) = true)) ∧ ((w32 lowX0_0) ≤ (w32 highX0_0))) ∧ ((w32 lowY0_0) ≤ (w32 highY0_0))) (fun q => (fun q => (fun q => (fun q => (fun q => (fun q => h_114 q.1) q.1) q.1) q.1) q.1) q.1)]) J_2
theorem c_X12_gap (hl : l.stackTraces = false) {σ : SG} {v_0 : Int} {low_0 : Int} {high_0 : Int} {r : Int}  (H : fR_gap v_0 low_0 high_0 = r) : en_S l E M_X12_gap 1 0 0 [vl v_0, vl low_0, vl high_0] σ (pS (some (vl r)) σ) := by
  unfold fR_gap at H
  refine z_mk (lv := [some (vl v_0), none, some (vl low_0), none, some (vl high_0), none]) m_X12_gap rfl hl (Nat.le_of_ble_eq_true rfl) rfl ?_
  have J_3 : YY l E M_X12_gap 1 0 0 (pS (some (vl r)) σ) 27 [some (vl v_0), none, some (vl low_0), none, some (vl high_0), none] [vl (if (w64 v_0) < (w64 low_0) then (low_0 - v_0) else (if (w64 high_0) < (w64 v_0) then (v_0 - high_0) else 0))] σ 0 0 := by
    cases H
    exact z_lret (M := M_X12_gap) dX12_gap_27 rfl (Nat.le_of_ble_eq_true rfl) (Nat.le_of_ble_eq_true rfl) ⟨rfl, rfl⟩
  refine z_lload_n (M := M_X12_gap) dX12_gap_0 rfl ?_
  refine z_lload_n (M := M_X12_gap) dX12_gap_1 rfl ?_
  refine z_lcmp (M := M_X12_gap) dX12_gap_2 ?_
  by_cases h_4 : (w64 v_0) < (w64 low_0)
  · refine z_lif_ge_f (M := M_X12_gap) (tgt := 12) dX12_gap_3 (by decide) rfl rfl h_4 ?_
    refine z_lload_n (M := M_X12_gap) dX12_gap_6 rfl ?_
    refine z_lload_n (M := M_X12_gap) dX12_gap_7 rfl ?_
    refine z_lsub (M := M_X12_gap) dX12_gap_8 ?_
    refine z_goto (M := M_X12_gap) (tgt := 27) dX12_gap_9 (by decide) ?_
    exact z_st (by rw [if_pos (c := (w64 v_0) < (w64 low_0)) h_4]) J_3
  · refine z_lif_ge_t (M := M_X12_gap) (tgt := 12) dX12_gap_3 (by decide) rfl rfl (Int.not_lt.mp h_4) ?_
    have J_5 : YY l E M_X12_gap 1 0 0 (pS (some (vl r)) σ) 27 [some (vl v_0), none, some (vl low_0), none, some (vl high_0), none] [vl (if (w64 high_0) < (w64 v_0) then (v_0 - high_0) else 0)] σ 0 0 := by
      exact z_st (by rw [if_neg (c := (w64 v_0) < (w64 low_0)) h_4]) J_3
    refine z_lload_n (M := M_X12_gap) dX12_gap_12 rfl ?_
    refine z_lload (M := M_X12_gap) dX12_gap_13 rfl ?_
    refine z_lcmp (M := M_X12_gap) dX12_gap_15 ?_
    by_cases h_6 : (w64 high_0) < (w64 v_0)
    · refine z_lif_le_f (M := M_X12_gap) (tgt := 26) dX12_gap_16 (by decide) rfl rfl h_6 ?_
      refine z_lload_n (M := M_X12_gap) dX12_gap_19 rfl ?_
      refine z_lload (M := M_X12_gap) dX12_gap_20 rfl ?_
      refine z_lsub (M := M_X12_gap) dX12_gap_22 ?_
      refine z_goto (M := M_X12_gap) (tgt := 27) dX12_gap_23 (by decide) ?_
      exact z_st (by rw [if_pos (c := (w64 high_0) < (w64 v_0)) h_6]) J_5
    · refine z_lif_le_t (M := M_X12_gap) (tgt := 26) dX12_gap_16 (by decide) rfl rfl (Int.not_lt.mp h_6) ?_
      refine z_lconst (M := M_X12_gap) (m := 0) dX12_gap_26 (by decide +kernel) ?_
      exact z_st (by rw [if_neg (c := (w64 high_0) < (w64 v_0)) h_6]) J_5
theorem c_X12_nearest (hl : l.stackTraces = false) {σ : SG} {x_0 : Int} {y_0 : Int} {n_0 : Int} {r : Int} {σ' : SG}  (H : fR_nearest σ x_0 y_0 n_0 = some (r, σ')) : en_S l E M_X12_nearest 3 0 0 [vr 277, vi x_0, vi y_0, vi n_0] σ (pS (some (vi r)) σ') := by
  unfold fR_nearest at H
  refine z_mk (lv := [some (vr 277), some (vi x_0), some (vi y_0), some (vi n_0), none, none, none, none, none, none, none, none, none, none, none, none, none, none, none]) m_X12_nearest rfl hl (Nat.le_of_ble_eq_true rfl) rfl ?_
  refine z_aload_n (M := M_X12_nearest) dX12_nearest_0 rfl ?_
  refine z_iconst (M := M_X12_nearest) dX12_nearest_1 ?_
  obtain ⟨σ_1, σ_1_e, H⟩ := wf_e H
  refine z_putI (M := M_X12_nearest) (ci := 15) (C := RX12) (T := TX12) (Nf := 135) (ty := tyX12) cl15 dX12_nearest_2 ly_277 0 (by decide) t_2391 rfl rfl rfl rfl σ_1_e ?_
  refine z_aload_n (M := M_X12_nearest) dX12_nearest_5 rfl ?_
  have J_2 : YY l E M_X12_nearest 3 0 0 (pS (some (vi r)) σ') 39 [some (vr 277), some (vi x_0), some (vi y_0), some (vi n_0), none, none, none, none, none, none, none, none, none, none, none, none, none, none, none] [zv (decide (((¬ ((fR_in (w32 n_0) 1 32) = true)) ∨ (¬ ((fR_isFar (w32 x_0)) = true))) ∨ (¬ ((fR_isFar (w32 y_0)) = true)))), vr 277] σ_1 0 0 := by
    refine z_iconst (M := M_X12_nearest) dX12_nearest_39 ?_
    obtain ⟨⟨x_5, σ_4⟩, hc_3, H⟩ := bd_e H
    refine z_callV (M := M_X12_nearest) (M' := M_X12_fails) (as := [zv (decide (((¬ ((fR_in (w32 n_0) 1 32) = true)) ∨ (¬ ((fR_isFar (w32 x_0)) = true))) ∨ (¬ ((fR_isFar (w32 y_0)) = true)))), vi 1]) (rest := []) rfl rfl dX12_nearest_40 m_X12_fails t_2805 t_2807 s_157 (c_X12_fails hl  hc_3) rfl rfl ly_277 rfl (Nat.le_of_ble_eq_true rfl) (Nat.le_of_ble_eq_true rfl) (Nat.le_of_ble_eq_true rfl) (Nat.le_of_ble_eq_true rfl) ?_
    refine z_st (st' := [zv x_5]) rfl ?_
    rcases if_e H with ⟨h_6, H⟩ | ⟨h_6, H⟩
    · refine z_zeq_f (M := M_X12_nearest) (tgt := 48) dX12_nearest_43 (by decide) h_6 ?_
      refine z_iconst (M := M_X12_nearest) dX12_nearest_46 ?_
      cases H
      exact z_iret (M := M_X12_nearest) dX12_nearest_47 rfl (Nat.le_of_ble_eq_true rfl) (Nat.le_of_ble_eq_true rfl) ⟨rfl, rfl⟩
    · refine z_zeq_t (M := M_X12_nearest) (tgt := 48) dX12_nearest_43 (by decide) h_6 ?_
      refine z_aload_n (M := M_X12_nearest) dX12_nearest_48 rfl ?_
      refine z_iconst (M := M_X12_nearest) dX12_nearest_49 ?_
      obtain ⟨σ_7, σ_7_e, H⟩ := wf_e H
      refine z_putI (M := M_X12_nearest) (ci := 15) (C := RX12) (T := TX12) (Nf := 135) (ty := tyX12) cl15 dX12_nearest_50 ly_277 16 (by decide) t_2407 rfl rfl rfl rfl σ_7_e ?_
      refine z_ldc2 (M := M_X12_nearest) (n := (-1)) dX12_nearest_53 t_3142 (by decide +kernel) ?_
      refine z_lstore (M := M_X12_nearest) (lv' := [some (vr 277), some (vi x_0), some (vi y_0), some (vi n_0), some (vl (-1)), none, none, none, none, none, none, none, none, none, none, none, none, none, none]) dX12_nearest_56 (Nat.le_of_ble_eq_true rfl) rfl rfl ?_
      refine z_iconst (M := M_X12_nearest) dX12_nearest_58 ?_
      refine z_istore (M := M_X12_nearest) (lv' := [some (vr 277), some (vi x_0), some (vi y_0), some (vi n_0), some (vl (-1)), none, some (vi (-1)), none, none, none, none, none, none, none, none, none, none, none, none]) dX12_nearest_59 (Nat.le_of_ble_eq_true rfl) rfl rfl ?_
      refine z_iconst (M := M_X12_nearest) dX12_nearest_61 ?_
      refine z_istore (M := M_X12_nearest) (lv' := [some (vr 277), some (vi x_0), some (vi y_0), some (vi n_0), some (vl (-1)), none, some (vi (-1)), some (vi 0), none, none, none, none, none, none, none, none, none, none, none]) dX12_nearest_62 (Nat.le_of_ble_eq_true rfl) rfl rfl ?_
      obtain ⟨rl_15, hw_12, hk_13, hk_14⟩ := bx_e H
      have J_78 : ∀ last_74 lastSlot_75 round_76 σ_77, rl_15 = (.inl (last_74, lastSlot_75, round_76, σ_77)) → YY l E M_X12_nearest 3 0 0 (pS (some (vi r)) σ') 265 [some (vr 277), some (vi x_0), some (vi y_0), some (vi n_0), some (vl last_74), none, some (vi lastSlot_75), some (vi round_76), none, none, none, none, none, none, none, none, none, none, none] [] σ_77 0 0 := by
        intro last_74 lastSlot_75 round_76 σ_77 e
        have H := hk_13 _ e
        refine z_aload_n (M := M_X12_nearest) dX12_nearest_265 rfl ?_
        refine z_getI (M := M_X12_nearest) (ci := 15) (C := RX12) (T := TX12) (Nf := 135) (ty := tyX12) cl15 dX12_nearest_266 ly_277 16 (by decide) t_2407 rfl rfl ?_
        cases H
        exact z_iret (M := M_X12_nearest) dX12_nearest_269 rfl (Nat.le_of_ble_eq_true rfl) (Nat.le_of_ble_eq_true rfl) ⟨rfl, rfl⟩
      refine whl_go hw_12 (fun (last_8, lastSlot_9, round_10, σ_11) => YY l E M_X12_nearest 3 0 0 (pS (some (vi r)) σ') 64 [some (vr 277), some (vi x_0), some (vi y_0), some (vi n_0), some (vl last_8), none, some (vi lastSlot_9), some (vi round_10), none, none, none, none, none, none, none, none, none, none, none] [] σ_11 0 0) ?_
      rintro ⟨last_8, lastSlot_9, round_10, σ_11⟩ o_16 H K_17 K_18
      refine z_iload (M := M_X12_nearest) dX12_nearest_64 rfl ?_
      refine z_iload_n (M := M_X12_nearest) dX12_nearest_66 rfl ?_
      rcases if_e H with ⟨h_19, H⟩ | ⟨h_19, H⟩
      · refine z_icmp_ge_f (M := M_X12_nearest) (tgt := 265) dX12_nearest_67 (by decide) rfl rfl h_19 ?_
        refine z_lconst (M := M_X12_nearest) (m := 0) dX12_nearest_70 (by decide +kernel) ?_
        refine z_lstore (M := M_X12_nearest) (lv' := [some (vr 277), some (vi x_0), some (vi y_0), some (vi n_0), some (vl last_8), none, some (vi lastSlot_9), some (vi round_10), some (vl 0), none, none, none, none, none, none, none, none, none, none]) dX12_nearest_71 (Nat.le_of_ble_eq_true rfl) rfl rfl ?_
        refine z_iconst (M := M_X12_nearest) dX12_nearest_73 ?_
        refine z_istore (M := M_X12_nearest) (lv' := [some (vr 277), some (vi x_0), some (vi y_0), some (vi n_0), some (vl last_8), none, some (vi lastSlot_9), some (vi round_10), some (vl 0), none, some (vi (-1)), none, none, none, none, none, none, none, none]) dX12_nearest_74 (Nat.le_of_ble_eq_true rfl) rfl rfl ?_
        refine z_iconst (M := M_X12_nearest) dX12_nearest_76 ?_
        refine z_istore (M := M_X12_nearest) (lv' := [some (vr 277), some (vi x_0), some (vi y_0), some (vi n_0), some (vl last_8), none, some (vi lastSlot_9), some (vi round_10), some (vl 0), none, some (vi (-1)), some (vi 0), none, none, none, none, none, none, none]) dX12_nearest_77 (Nat.le_of_ble_eq_true rfl) rfl rfl ?_
        obtain ⟨rl_27, hw_24, hk_25⟩ := bd_e H
        have J_72 : ∀ best_63 slot_64 s_65 σ_66, rl_27 = (best_63, slot_64, s_65, σ_66) → YY l E M_X12_nearest 3 0 0 (pS (some (vi r)) σ') 219 [some (vr 277), some (vi x_0), some (vi y_0), some (vi n_0), some (vl last_8), none, some (vi lastSlot_9), some (vi round_10), some (vl best_63), none, some (vi slot_64), some (vi s_65), none, none, none, none, none, none, none] [] σ_66 0 0 := by
          intro best_63 slot_64 s_65 σ_66 e
          have H := hk_25
          rw [e] at H
          refine z_iload (M := M_X12_nearest) dX12_nearest_219 rfl ?_
          refine z_iconst (M := M_X12_nearest) dX12_nearest_221 ?_
          rcases if_e H with ⟨h_67, H⟩ | ⟨h_67, H⟩
          · refine z_icmp_ne_f (M := M_X12_nearest) (tgt := 230) dX12_nearest_222 (by decide) rfl (by decide +kernel) h_67 ?_
            refine z_aload_n (M := M_X12_nearest) dX12_nearest_225 rfl ?_
            refine z_getI (M := M_X12_nearest) (ci := 15) (C := RX12) (T := TX12) (Nf := 135) (ty := tyX12) cl15 dX12_nearest_226 ly_277 16 (by decide) t_2407 rfl rfl ?_
            have H := congrArg some (hk_14 _ ((K_18 _ (Option.some.inj H).symm).symm))
            cases H
            exact z_iret (M := M_X12_nearest) dX12_nearest_229 rfl (Nat.le_of_ble_eq_true rfl) (Nat.le_of_ble_eq_true rfl) ⟨rfl, rfl⟩
          · refine z_icmp_ne_t (M := M_X12_nearest) (tgt := 230) dX12_nearest_222 (by decide) rfl (by decide +kernel) h_67 ?_
            refine z_aload_n (M := M_X12_nearest) dX12_nearest_230 rfl ?_
            refine z_getR (M := M_X12_nearest) (ci := 15) (C := RX12) (T := TX12) (Nf := 135) (ty := tyX12) cl15 dX12_nearest_231 ly_277 15 (by decide) t_2406 rfl ?_
            refine z_aload_n (M := M_X12_nearest) dX12_nearest_234 rfl ?_
            refine z_getI (M := M_X12_nearest) (ci := 15) (C := RX12) (T := TX12) (Nf := 135) (ty := tyX12) cl15 dX12_nearest_235 ly_277 16 (by decide) t_2407 rfl rfl ?_
            refine z_iload (M := M_X12_nearest) dX12_nearest_238 rfl ?_
            obtain ⟨σ_68, σ_68_e, hi_69, H⟩ := wa_e H
            refine z_iast (M := M_X12_nearest) dX12_nearest_240 ly_286 rfl rfl rfl hi_69 σ_68_e ?_
            refine z_aload_n (M := M_X12_nearest) dX12_nearest_241 rfl ?_
            refine z_dup (M := M_X12_nearest) dX12_nearest_242 rfl ?_
            refine z_getI (M := M_X12_nearest) (ci := 15) (C := RX12) (T := TX12) (Nf := 135) (ty := tyX12) cl15 dX12_nearest_243 ly_277 16 (by decide) t_2407 rfl rfl ?_
            refine z_iconst (M := M_X12_nearest) dX12_nearest_246 ?_
            refine z_iadd (M := M_X12_nearest) dX12_nearest_247 ?_
            obtain ⟨σ_70, σ_70_e, H⟩ := wf_e H
            refine z_putI (M := M_X12_nearest) (ci := 15) (C := RX12) (T := TX12) (Nf := 135) (ty := tyX12) cl15 dX12_nearest_248 ly_277 16 (by decide) t_2407 rfl rfl rfl rfl σ_70_e ?_
            refine z_lload (M := M_X12_nearest) dX12_nearest_251 rfl ?_
            refine z_lstore (M := M_X12_nearest) (lv' := [some (vr 277), some (vi x_0), some (vi y_0), some (vi n_0), some (vl best_63), none, some (vi lastSlot_9), some (vi round_10), some (vl best_63), none, some (vi slot_64), some (vi s_65), none, none, none, none, none, none, none]) dX12_nearest_253 (Nat.le_of_ble_eq_true rfl) rfl rfl ?_
            refine z_iload (M := M_X12_nearest) dX12_nearest_255 rfl ?_
            refine z_istore (M := M_X12_nearest) (lv' := [some (vr 277), some (vi x_0), some (vi y_0), some (vi n_0), some (vl best_63), none, some (vi slot_64), some (vi round_10), some (vl best_63), none, some (vi slot_64), some (vi s_65), none, none, none, none, none, none, none]) dX12_nearest_257 (Nat.le_of_ble_eq_true rfl) rfl rfl ?_
            refine z_iinc (M := M_X12_nearest) (lv' := [some (vr 277), some (vi x_0), some (vi y_0), some (vi n_0), some (vl best_63), none, some (vi slot_64), some (vi (round_10 + 1)), some (vl best_63), none, some (vi slot_64), some (vi s_65), none, none, none, none, none, none, none]) dX12_nearest_259 rfl (Nat.le_of_ble_eq_true rfl) rfl rfl ?_
            refine z_goto (M := M_X12_nearest) (tgt := 64) dX12_nearest_262 (by decide) ?_
            refine z_le (lv' := [some (vr 277), some (vi x_0), some (vi y_0), some (vi n_0), some (vl best_63), none, some (vi slot_64), some (vi (round_10 + 1)), none, none, none, none, none, none, none, none, none, none, none]) ⟨Or.inr rfl, Or.inr rfl, Or.inr rfl, Or.inr rfl, Or.inr rfl, Or.inl rfl, Or.inr rfl, Or.inr rfl, Or.inl rfl, Or.inl rfl, Or.inl rfl, Or.inl rfl, Or.inl rfl, Or.inl rfl, Or.inl rfl, Or.inl rfl, Or.inl rfl, Or.inl rfl, Or.inl rfl, trivial⟩ ?_
            exact K_17 _ (Option.some.inj H).symm
        refine whl_go hw_24 (fun (best_20, slot_21, s_22, σ_23) => YY l E M_X12_nearest 3 0 0 (pS (some (vi r)) σ') 79 [some (vr 277), some (vi x_0), some (vi y_0), some (vi n_0), some (vl last_8), none, some (vi lastSlot_9), some (vi round_10), some (vl best_20), none, some (vi slot_21), some (vi s_22), none, none, none, none, none, none, none] [] σ_23 0 0) ?_
        rintro ⟨best_20, slot_21, s_22, σ_23⟩ o_28 H K_29 K_30
        refine z_iload (M := M_X12_nearest) dX12_nearest_79 rfl ?_
        refine z_bipush (M := M_X12_nearest) dX12_nearest_81 (by decide +kernel) ?_
        rcases if_e H with ⟨h_31, H⟩ | ⟨h_31, H⟩
        · refine z_icmp_ge_f (M := M_X12_nearest) (tgt := 219) dX12_nearest_83 (by decide) rfl (by decide +kernel) h_31 ?_
          refine z_aload_n (M := M_X12_nearest) dX12_nearest_86 rfl ?_
          refine z_iload (M := M_X12_nearest) dX12_nearest_87 rfl ?_
          obtain ⟨⟨x_34, σ_33⟩, hc_32, H⟩ := bd_e H
          refine z_callV (M := M_X12_nearest) (M' := M_X12_box) (as := [vi s_22]) (rest := []) rfl rfl dX12_nearest_89 m_X12_box t_3124 t_3126 s_210 (c_X12_box hl  hc_32) rfl rfl ly_277 rfl (Nat.le_of_ble_eq_true rfl) (Nat.le_of_ble_eq_true rfl) (Nat.le_of_ble_eq_true rfl) (Nat.le_of_ble_eq_true rfl) ?_
          refine z_st (st' := [zv x_34]) rfl ?_
          rcases if_e H with ⟨h_35, H⟩ | ⟨h_35, H⟩
          · refine z_zne_t (M := M_X12_nearest) (tgt := 98) dX12_nearest_92 (by decide) h_35 ?_
            refine z_iload_n (M := M_X12_nearest) dX12_nearest_98 rfl ?_
            refine z_i2l (M := M_X12_nearest) dX12_nearest_99 ?_
            refine z_aload_n (M := M_X12_nearest) dX12_nearest_100 rfl ?_
            refine z_getR (M := M_X12_nearest) (ci := 15) (C := RX12) (T := TX12) (Nf := 135) (ty := tyX12) cl15 dX12_nearest_101 ly_277 32 (by decide) t_2423 rfl ?_
            refine z_iload (M := M_X12_nearest) dX12_nearest_104 rfl ?_
            obtain ⟨x_36, x_36_e, hi_37, H⟩ := rd_e H
            refine z_lald (M := M_X12_nearest) dX12_nearest_106 ly_290 rfl rfl rfl hi_37 x_36_e ?_
            refine z_aload_n (M := M_X12_nearest) dX12_nearest_107 rfl ?_
            refine z_getR (M := M_X12_nearest) (ci := 15) (C := RX12) (T := TX12) (Nf := 135) (ty := tyX12) cl15 dX12_nearest_108 ly_277 34 (by decide) t_2425 rfl ?_
            refine z_iload (M := M_X12_nearest) dX12_nearest_111 rfl ?_
            obtain ⟨x_38, x_38_e, hi_39, H⟩ := rd_e H
            refine z_lald (M := M_X12_nearest) dX12_nearest_113 ly_292 rfl rfl rfl hi_39 x_38_e ?_
            refine z_callS (M := M_X12_nearest) (M' := M_X12_gap) (as := [vl (w32 x_0), vl x_36, vl x_38]) (rest := []) rfl rfl dX12_nearest_114 m_X12_gap t_3143 t_3144 (c_X12_gap hl  rfl) rfl rfl (Nat.le_of_ble_eq_true rfl) (Nat.le_of_ble_eq_true rfl) (Nat.le_of_ble_eq_true rfl) (Nat.le_of_ble_eq_true rfl) ?_
            refine z_st (st' := [vl (fR_gap (w32 x_0) x_36 x_38)]) rfl ?_
            refine z_lstore (M := M_X12_nearest) (lv' := [some (vr 277), some (vi x_0), some (vi y_0), some (vi n_0), some (vl last_8), none, some (vi lastSlot_9), some (vi round_10), some (vl best_20), none, some (vi slot_21), some (vi s_22), some (vl (fR_gap (w32 x_0) x_36 x_38)), none, none, none, none, none, none]) dX12_nearest_117 (Nat.le_of_ble_eq_true rfl) rfl rfl ?_
            refine z_iload_n (M := M_X12_nearest) dX12_nearest_119 rfl ?_
            refine z_i2l (M := M_X12_nearest) dX12_nearest_120 ?_
            refine z_aload_n (M := M_X12_nearest) dX12_nearest_121 rfl ?_
            refine z_getR (M := M_X12_nearest) (ci := 15) (C := RX12) (T := TX12) (Nf := 135) (ty := tyX12) cl15 dX12_nearest_122 ly_277 33 (by decide) t_2424 rfl ?_
            refine z_iload (M := M_X12_nearest) dX12_nearest_125 rfl ?_
            obtain ⟨x_40, x_40_e, hi_41, H⟩ := rd_e H
            refine z_lald (M := M_X12_nearest) dX12_nearest_127 ly_291 rfl rfl rfl hi_41 x_40_e ?_
            refine z_aload_n (M := M_X12_nearest) dX12_nearest_128 rfl ?_
            refine z_getR (M := M_X12_nearest) (ci := 15) (C := RX12) (T := TX12) (Nf := 135) (ty := tyX12) cl15 dX12_nearest_129 ly_277 35 (by decide) t_2426 rfl ?_
            refine z_iload (M := M_X12_nearest) dX12_nearest_132 rfl ?_
            obtain ⟨x_42, x_42_e, hi_43, H⟩ := rd_e H
            refine z_lald (M := M_X12_nearest) dX12_nearest_134 ly_293 rfl rfl rfl hi_43 x_42_e ?_
            refine z_callS (M := M_X12_nearest) (M' := M_X12_gap) (as := [vl (w32 y_0), vl x_40, vl x_42]) (rest := []) rfl rfl dX12_nearest_135 m_X12_gap t_3143 t_3144 (c_X12_gap hl  rfl) rfl rfl (Nat.le_of_ble_eq_true rfl) (Nat.le_of_ble_eq_true rfl) (Nat.le_of_ble_eq_true rfl) (Nat.le_of_ble_eq_true rfl) ?_
            refine z_st (st' := [vl (fR_gap (w32 y_0) x_40 x_42)]) rfl ?_
            refine z_lstore (M := M_X12_nearest) (lv' := [some (vr 277), some (vi x_0), some (vi y_0), some (vi n_0), some (vl last_8), none, some (vi lastSlot_9), some (vi round_10), some (vl best_20), none, some (vi slot_21), some (vi s_22), some (vl (fR_gap (w32 x_0) x_36 x_38)), none, some (vl (fR_gap (w32 y_0) x_40 x_42)), none, none, none, none]) dX12_nearest_138 (Nat.le_of_ble_eq_true rfl) rfl rfl ?_
            refine z_lload (M := M_X12_nearest) dX12_nearest_140 rfl ?_
            refine z_lload (M := M_X12_nearest) dX12_nearest_142 rfl ?_
            refine z_lmul (M := M_X12_nearest) dX12_nearest_144 ?_
            refine z_lload (M := M_X12_nearest) dX12_nearest_145 rfl ?_
            refine z_lload (M := M_X12_nearest) dX12_nearest_147 rfl ?_
            refine z_lmul (M := M_X12_nearest) dX12_nearest_149 ?_
            refine z_ladd (M := M_X12_nearest) dX12_nearest_150 ?_
            obtain ⟨x_44, x_44_e, H⟩ := lt_e H
            refine z_st (congrArg (fun z => vl z :: []) x_44_e) ?_
            refine z_lstore (M := M_X12_nearest) (lv' := [some (vr 277), some (vi x_0), some (vi y_0), some (vi n_0), some (vl last_8), none, some (vi lastSlot_9), some (vi round_10), some (vl best_20), none, some (vi slot_21), some (vi s_22), some (vl (fR_gap (w32 x_0) x_36 x_38)), none, some (vl (fR_gap (w32 y_0) x_40 x_42)), none, some (vl x_44), none, none]) dX12_nearest_151 (Nat.le_of_ble_eq_true rfl) rfl rfl ?_
            have J_45 : YY l E M_X12_nearest 3 0 0 (pS (some (vi r)) σ') 181 [some (vr 277), some (vi x_0), some (vi y_0), some (vi n_0), some (vl last_8), none, some (vi lastSlot_9), some (vi round_10), some (vl best_20), none, some (vi slot_21), some (vi s_22), some (vl (fR_gap (w32 x_0) x_36 x_38)), none, some (vl (fR_gap (w32 y_0) x_40 x_42)), none, some (vl x_44), none, none] [zv (decide (((w64 last_8) < (w64 x_44)) ∨ (((w64 x_44) = (w64 last_8)) ∧ ((w32 lastSlot_9) < (w32 s_22)))))] σ_33 0 0 := by
              obtain ⟨x_46, x_46_e, H⟩ := lt_e H
              refine z_st (congrArg (fun z => zv z :: []) x_46_e) ?_
              refine z_zstore (M := M_X12_nearest) (lv' := [some (vr 277), some (vi x_0), some (vi y_0), some (vi n_0), some (vl last_8), none, some (vi lastSlot_9), some (vi round_10), some (vl best_20), none, some (vi slot_21), some (vi s_22), some (vl (fR_gap (w32 x_0) x_36 x_38)), none, some (vl (fR_gap (w32 y_0) x_40 x_42)), none, some (vl x_44), none, some (zv x_46)]) dX12_nearest_181 (Nat.le_of_ble_eq_true rfl) rfl rfl ?_
              rcases if_e H with ⟨h_49, H⟩ | ⟨h_49, H⟩
              · have J_50 : YY l E M_X12_nearest 3 0 0 (pS (some (vi r)) σ') 213 [some (vr 277), some (vi x_0), some (vi y_0), some (vi n_0), some (vl last_8), none, some (vi lastSlot_9), some (vi round_10), some (vl best_20), none, some (vi slot_21), some (vi s_22), some (vl (fR_gap (w32 x_0) x_36 x_38)), none, some (vl (fR_gap (w32 y_0) x_40 x_42)), none, some (vl x_44), none, some (zv x_46)] [] σ_33 0 0 := by
                  refine z_iinc (M := M_X12_nearest) (lv' := [some (vr 277), some (vi x_0), some (vi y_0), some (vi n_0), some (vl last_8), none, some (vi lastSlot_9), some (vi round_10), some (vl best_20), none, some (vi slot_21), some (vi (s_22 + 1)), some (vl (fR_gap (w32 x_0) x_36 x_38)), none, some (vl (fR_gap (w32 y_0) x_40 x_42)), none, some (vl x_44), none, some (zv x_46)]) dX12_nearest_213 rfl (Nat.le_of_ble_eq_true rfl) rfl rfl ?_
                  refine z_goto (M := M_X12_nearest) (tgt := 79) dX12_nearest_216 (by decide) ?_
                  refine z_le (lv' := [some (vr 277), some (vi x_0), some (vi y_0), some (vi n_0), some (vl last_8), none, some (vi lastSlot_9), some (vi round_10), some (vl best_20), none, some (vi slot_21), some (vi (s_22 + 1)), none, none, none, none, none, none, none]) ⟨Or.inr rfl, Or.inr rfl, Or.inr rfl, Or.inr rfl, Or.inr rfl, Or.inl rfl, Or.inr rfl, Or.inr rfl, Or.inr rfl, Or.inl rfl, Or.inr rfl, Or.inr rfl, Or.inl rfl, Or.inl rfl, Or.inl rfl, Or.inl rfl, Or.inl rfl, Or.inl rfl, Or.inl rfl, trivial⟩ ?_
                  exact K_29 _ (Option.some.inj H).symm
                refine z_zload (M := M_X12_nearest) dX12_nearest_183 rfl ?_
                by_cases h_52 : x_46 = true
                · refine z_zeq_f (M := M_X12_nearest) (tgt := 213) dX12_nearest_185 (by decide) h_52 ?_
                  refine z_iload (M := M_X12_nearest) dX12_nearest_188 rfl ?_
                  refine z_iconst (M := M_X12_nearest) dX12_nearest_190 ?_
                  by_cases h_53 : ¬ (w32 slot_21) = (-1)
                  · refine z_icmp_eq_f (M := M_X12_nearest) (tgt := 205) dX12_nearest_191 (by decide) rfl (by decide +kernel) h_53 ?_
                    refine z_lload (M := M_X12_nearest) dX12_nearest_194 rfl ?_
                    refine z_lload (M := M_X12_nearest) dX12_nearest_196 rfl ?_
                    refine z_lcmp (M := M_X12_nearest) dX12_nearest_198 ?_
                    by_cases h_54 : (w64 best_20) ≤ (w64 x_44)
                    · refine z_lif_lt_f (M := M_X12_nearest) (tgt := 205) dX12_nearest_199 (by decide) rfl rfl h_54 ?_
                      refine z_goto (M := M_X12_nearest) (tgt := 213) dX12_nearest_202 (by decide) ?_
                      exact J_50
                    · refine z_lif_lt_t (M := M_X12_nearest) (tgt := 205) dX12_nearest_199 (by decide) rfl rfl (Int.not_le.mp h_54) ?_
                      exact absurd h_49 (fun q => q.elim (not_not_intro h_52) (fun q => h_54 q.2))
                  · refine z_icmp_eq_t (M := M_X12_nearest) (tgt := 205) dX12_nearest_191 (by decide) rfl (by decide +kernel) (Decidable.not_not.mp h_53) ?_
                    exact absurd h_49 (fun q => q.elim (not_not_intro h_52) (fun q => h_53 q.1))
                · refine z_zeq_t (M := M_X12_nearest) (tgt := 213) dX12_nearest_185 (by decide) h_52 ?_
                  exact J_50
              · have J_51 : YY l E M_X12_nearest 3 0 0 (pS (some (vi r)) σ') 205 [some (vr 277), some (vi x_0), some (vi y_0), some (vi n_0), some (vl last_8), none, some (vi lastSlot_9), some (vi round_10), some (vl best_20), none, some (vi slot_21), some (vi s_22), some (vl (fR_gap (w32 x_0) x_36 x_38)), none, some (vl (fR_gap (w32 y_0) x_40 x_42)), none, some (vl x_44), none, some (zv x_46)] [] σ_33 0 0 := by
                  refine z_lload (M := M_X12_nearest) dX12_nearest_205 rfl ?_
                  refine z_lstore (M := M_X12_nearest) (lv' := [some (vr 277), some (vi x_0), some (vi y_0), some (vi n_0), some (vl last_8), none, some (vi lastSlot_9), some (vi round_10), some (vl x_44), none, some (vi slot_21), some (vi s_22), some (vl (fR_gap (w32 x_0) x_36 x_38)), none, some (vl (fR_gap (w32 y_0) x_40 x_42)), none, some (vl x_44), none, some (zv x_46)]) dX12_nearest_207 (Nat.le_of_ble_eq_true rfl) rfl rfl ?_
                  refine z_iload (M := M_X12_nearest) dX12_nearest_209 rfl ?_
                  refine z_istore (M := M_X12_nearest) (lv' := [some (vr 277), some (vi x_0), some (vi y_0), some (vi n_0), some (vl last_8), none, some (vi lastSlot_9), some (vi round_10), some (vl x_44), none, some (vi s_22), some (vi s_22), some (vl (fR_gap (w32 x_0) x_36 x_38)), none, some (vl (fR_gap (w32 y_0) x_40 x_42)), none, some (vl x_44), none, some (zv x_46)]) dX12_nearest_211 (Nat.le_of_ble_eq_true rfl) rfl rfl ?_
                  refine z_iinc (M := M_X12_nearest) (lv' := [some (vr 277), some (vi x_0), some (vi y_0), some (vi n_0), some (vl last_8), none, some (vi lastSlot_9), some (vi round_10), some (vl x_44), none, some (vi s_22), some (vi (s_22 + 1)), some (vl (fR_gap (w32 x_0) x_36 x_38)), none, some (vl (fR_gap (w32 y_0) x_40 x_42)), none, some (vl x_44), none, some (zv x_46)]) dX12_nearest_213 rfl (Nat.le_of_ble_eq_true rfl) rfl rfl ?_
                  refine z_goto (M := M_X12_nearest) (tgt := 79) dX12_nearest_216 (by decide) ?_
                  refine z_le (lv' := [some (vr 277), some (vi x_0), some (vi y_0), some (vi n_0), some (vl last_8), none, some (vi lastSlot_9), some (vi round_10), some (vl x_44), none, some (vi s_22), some (vi (s_22 + 1)), none, none, none, none, none, none, none]) ⟨Or.inr rfl, Or.inr rfl, Or.inr rfl, Or.inr rfl, Or.inr rfl, Or.inl rfl, Or.inr rfl, Or.inr rfl, Or.inr rfl, Or.inl rfl, Or.inr rfl, Or.inr rfl, Or.inl rfl, Or.inl rfl, Or.inl rfl, Or.inl rfl, Or.inl rfl, Or.inl rfl, Or.inl rfl, trivial⟩ ?_
                  exact K_29 _ (Option.some.inj H).symm
                refine z_zload (M := M_X12_nearest) dX12_nearest_183 rfl ?_
                by_cases h_55 : x_46 = true
                · refine z_zeq_f (M := M_X12_nearest) (tgt := 213) dX12_nearest_185 (by decide) h_55 ?_
                  refine z_iload (M := M_X12_nearest) dX12_nearest_188 rfl ?_
                  refine z_iconst (M := M_X12_nearest) dX12_nearest_190 ?_
                  by_cases h_56 : ¬ (w32 slot_21) = (-1)
                  · refine z_icmp_eq_f (M := M_X12_nearest) (tgt := 205) dX12_nearest_191 (by decide) rfl (by decide +kernel) h_56 ?_
                    refine z_lload (M := M_X12_nearest) dX12_nearest_194 rfl ?_
                    refine z_lload (M := M_X12_nearest) dX12_nearest_196 rfl ?_
                    refine z_lcmp (M := M_X12_nearest) dX12_nearest_198 ?_
                    by_cases h_57 : (w64 best_20) ≤ (w64 x_44)
                    · refine z_lif_lt_f (M := M_X12_nearest) (tgt := 205) dX12_nearest_199 (by decide) rfl rfl h_57 ?_
                      exact absurd (Or.inr ⟨h_56, h_57⟩) h_49
                    · refine z_lif_lt_t (M := M_X12_nearest) (tgt := 205) dX12_nearest_199 (by decide) rfl rfl (Int.not_le.mp h_57) ?_
                      exact J_51
                  · refine z_icmp_eq_t (M := M_X12_nearest) (tgt := 205) dX12_nearest_191 (by decide) rfl (by decide +kernel) (Decidable.not_not.mp h_56) ?_
                    exact J_51
                · refine z_zeq_t (M := M_X12_nearest) (tgt := 213) dX12_nearest_185 (by decide) h_55 ?_
                  exact absurd (Or.inl h_55) h_49
            refine z_lload (M := M_X12_nearest) dX12_nearest_153 rfl ?_
            refine z_lload (M := M_X12_nearest) dX12_nearest_155 rfl ?_
            refine z_lcmp (M := M_X12_nearest) dX12_nearest_157 ?_
            by_cases h_58 : (w64 last_8) < (w64 x_44)
            · refine z_lif_gt_t (M := M_X12_nearest) (tgt := 176) dX12_nearest_158 (by decide) rfl rfl h_58 ?_
              refine z_iconst (M := M_X12_nearest) dX12_nearest_176 ?_
              refine z_goto (M := M_X12_nearest) (tgt := 181) dX12_nearest_177 (by decide) ?_
              exact z_st (by rw [zv_t (p := ((w64 last_8) < (w64 x_44)) ∨ (((w64 x_44) = (w64 last_8)) ∧ ((w32 lastSlot_9) < (w32 s_22)))) (Or.inl h_58)]) J_45
            · refine z_lif_gt_f (M := M_X12_nearest) (tgt := 176) dX12_nearest_158 (by decide) rfl rfl (Int.not_lt.mp h_58) ?_
              refine z_lload (M := M_X12_nearest) dX12_nearest_161 rfl ?_
              refine z_lload (M := M_X12_nearest) dX12_nearest_163 rfl ?_
              refine z_lcmp (M := M_X12_nearest) dX12_nearest_165 ?_
              by_cases h_59 : (w64 x_44) = (w64 last_8)
              · refine z_lif_ne_f (M := M_X12_nearest) (tgt := 180) dX12_nearest_166 (by decide) rfl rfl h_59 ?_
                refine z_iload (M := M_X12_nearest) dX12_nearest_169 rfl ?_
                refine z_iload (M := M_X12_nearest) dX12_nearest_171 rfl ?_
                by_cases h_60 : (w32 lastSlot_9) < (w32 s_22)
                · refine z_icmp_le_f (M := M_X12_nearest) (tgt := 180) dX12_nearest_173 (by decide) rfl rfl h_60 ?_
                  refine z_iconst (M := M_X12_nearest) dX12_nearest_176 ?_
                  refine z_goto (M := M_X12_nearest) (tgt := 181) dX12_nearest_177 (by decide) ?_
                  exact z_st (by rw [zv_t (p := ((w64 last_8) < (w64 x_44)) ∨ (((w64 x_44) = (w64 last_8)) ∧ ((w32 lastSlot_9) < (w32 s_22)))) (Or.inr ⟨h_59, h_60⟩)]) J_45
                · refine z_icmp_le_t (M := M_X12_nearest) (tgt := 180) dX12_nearest_173 (by decide) rfl rfl (Int.not_lt.mp h_60) ?_
                  refine z_iconst (M := M_X12_nearest) dX12_nearest_180 ?_
                  exact z_st (by rw [zv_f (p := ((w64 last_8) < (w64 x_44)) ∨ (((w64 x_44) = (w64 last_8)) ∧ ((w32 lastSlot_9) < (w32 s_22)))) (fun q => q.elim h_58 (fun q => h_60 q.2))]) J_45
              · refine z_lif_ne_t (M := M_X12_nearest) (tgt := 180) dX12_nearest_166 (by decide) rfl rfl h_59 ?_
                refine z_iconst (M := M_X12_nearest) dX12_nearest_180 ?_
                exact z_st (by rw [zv_f (p := ((w64 last_8) < (w64 x_44)) ∨ (((w64 x_44) = (w64 last_8)) ∧ ((w32 lastSlot_9) < (w32 s_22)))) (fun q => q.elim h_58 (fun q => h_59 q.1))]) J_45
          · refine z_zne_f (M := M_X12_nearest) (tgt := 98) dX12_nearest_92 (by decide) h_35 ?_
            refine z_goto (M := M_X12_nearest) (tgt := 213) dX12_nearest_95 (by decide) ?_
            refine z_iinc (M := M_X12_nearest) (lv' := [some (vr 277), some (vi x_0), some (vi y_0), some (vi n_0), some (vl last_8), none, some (vi lastSlot_9), some (vi round_10), some (vl best_20), none, some (vi slot_21), some (vi (s_22 + 1)), none, none, none, none, none, none, none]) dX12_nearest_213 rfl (Nat.le_of_ble_eq_true rfl) rfl rfl ?_
            refine z_goto (M := M_X12_nearest) (tgt := 79) dX12_nearest_216 (by decide) ?_
            exact K_29 _ (Option.some.inj H).symm
        · refine z_icmp_ge_t (M := M_X12_nearest) (tgt := 219) dX12_nearest_83 (by decide) rfl (by decide +kernel) (Int.not_lt.mp h_31) ?_
          exact J_72 _ _ _ _ (K_30 _ (Option.some.inj H).symm).symm
      · refine z_icmp_ge_t (M := M_X12_nearest) (tgt := 265) dX12_nearest_67 (by decide) rfl rfl (Int.not_lt.mp h_19) ?_
        exact J_78 _ _ _ _ (K_18 _ (Option.some.inj H).symm).symm
  refine z_iload_n (M := M_X12_nearest) dX12_nearest_6 rfl ?_
  refine z_i2l (M := M_X12_nearest) dX12_nearest_7 ?_
  refine z_lconst (M := M_X12_nearest) (m := 1) dX12_nearest_8 (by decide +kernel) ?_
  refine z_ldc2 (M := M_X12_nearest) (n := 32) dX12_nearest_9 t_3141 (by decide +kernel) ?_
  refine z_callS (M := M_X12_nearest) (M' := M_X12_in) (as := [vl (w32 n_0), vl 1, vl 32]) (rest := [vr 277]) rfl rfl dX12_nearest_12 m_X12_in t_2818 t_2819 (c_X12_in hl  rfl) rfl rfl (Nat.le_of_ble_eq_true rfl) (Nat.le_of_ble_eq_true rfl) (Nat.le_of_ble_eq_true rfl) (Nat.le_of_ble_eq_true rfl) ?_
  refine z_st (st' := [zv (fR_in (w32 n_0) 1 32), vr 277]) rfl ?_
  by_cases h_79 : (fR_in (w32 n_0) 1 32) = true
  · refine z_zeq_f (M := M_X12_nearest) (tgt := 34) dX12_nearest_15 (by decide) h_79 ?_
    refine z_iload_n (M := M_X12_nearest) dX12_nearest_18 rfl ?_
    refine z_i2l (M := M_X12_nearest) dX12_nearest_19 ?_
    refine z_callS (M := M_X12_nearest) (M' := M_X12_isFar) (as := [vl (w32 x_0)]) (rest := [vr 277]) rfl rfl dX12_nearest_20 m_X12_isFar t_3133 t_3134 (c_X12_isFar hl  rfl) rfl rfl (Nat.le_of_ble_eq_true rfl) (Nat.le_of_ble_eq_true rfl) (Nat.le_of_ble_eq_true rfl) (Nat.le_of_ble_eq_true rfl) ?_
    refine z_st (st' := [zv (fR_isFar (w32 x_0)), vr 277]) rfl ?_
    by_cases h_80 : (fR_isFar (w32 x_0)) = true
    · refine z_zeq_f (M := M_X12_nearest) (tgt := 34) dX12_nearest_23 (by decide) h_80 ?_
      refine z_iload_n (M := M_X12_nearest) dX12_nearest_26 rfl ?_
      refine z_i2l (M := M_X12_nearest) dX12_nearest_27 ?_
      refine z_callS (M := M_X12_nearest) (M' := M_X12_isFar) (as := [vl (w32 y_0)]) (rest := [vr 277]) rfl rfl dX12_nearest_28 m_X12_isFar t_3133 t_3134 (c_X12_isFar hl  rfl) rfl rfl (Nat.le_of_ble_eq_true rfl) (Nat.le_of_ble_eq_true rfl) (Nat.le_of_ble_eq_true rfl) (Nat.le_of_ble_eq_true rfl) ?_
      refine z_st (st' := [zv (fR_isFar (w32 y_0)), vr 277]) rfl ?_
      by_cases h_81 : (fR_isFar (w32 y_0)) = true
      · refine z_zne_t (M := M_X12_nearest) (tgt := 38) dX12_nearest_31 (by decide) h_81 ?_
        refine z_iconst (M := M_X12_nearest) dX12_nearest_38 ?_
        exact z_st (by rw [zv_f (p := ((¬ ((fR_in (w32 n_0) 1 32) = true)) ∨ (¬ ((fR_isFar (w32 x_0)) = true))) ∨ (¬ ((fR_isFar (w32 y_0)) = true))) (fun q => q.elim (fun q => q.elim (not_not_intro h_79) (not_not_intro h_80)) (not_not_intro h_81))]) J_2
      · refine z_zne_f (M := M_X12_nearest) (tgt := 38) dX12_nearest_31 (by decide) h_81 ?_
        refine z_iconst (M := M_X12_nearest) dX12_nearest_34 ?_
        refine z_goto (M := M_X12_nearest) (tgt := 39) dX12_nearest_35 (by decide) ?_
        exact z_st (by rw [zv_t (p := ((¬ ((fR_in (w32 n_0) 1 32) = true)) ∨ (¬ ((fR_isFar (w32 x_0)) = true))) ∨ (¬ ((fR_isFar (w32 y_0)) = true))) (Or.inr h_81)]) J_2
    · refine z_zeq_t (M := M_X12_nearest) (tgt := 34) dX12_nearest_23 (by decide) h_80 ?_
      refine z_iconst (M := M_X12_nearest) dX12_nearest_34 ?_
      refine z_goto (M := M_X12_nearest) (tgt := 39) dX12_nearest_35 (by decide) ?_
      exact z_st (by rw [zv_t (p := ((¬ ((fR_in (w32 n_0) 1 32) = true)) ∨ (¬ ((fR_isFar (w32 x_0)) = true))) ∨ (¬ ((fR_isFar (w32 y_0)) = true))) (Or.inl (Or.inr h_80))]) J_2
  · refine z_zeq_t (M := M_X12_nearest) (tgt := 34) dX12_nearest_15 (by decide) h_79 ?_
    refine z_iconst (M := M_X12_nearest) dX12_nearest_34 ?_
    refine z_goto (M := M_X12_nearest) (tgt := 39) dX12_nearest_35 (by decide) ?_
    exact z_st (by rw [zv_t (p := ((¬ ((fR_in (w32 n_0) 1 32) = true)) ∨ (¬ ((fR_isFar (w32 x_0)) = true))) ∨ (¬ ((fR_isFar (w32 y_0)) = true))) (Or.inl (Or.inl h_79))]) J_2
theorem c_X12_found (hl : l.stackTraces = false) {σ : SG} {k_0 : Int} {r : Int} {σ' : SG}  (H : fR_found σ k_0 = some (r, σ')) : en_S l E M_X12_found 2 0 0 [vr 277, vi k_0] σ (pS (some (vi r)) σ') := by
  unfold fR_found at H
  refine z_mk (lv := [some (vr 277), some (vi k_0)]) m_X12_found rfl hl (Nat.le_of_ble_eq_true rfl) rfl ?_
  refine z_aload_n (M := M_X12_found) dX12_found_0 rfl ?_
  refine z_iconst (M := M_X12_found) dX12_found_1 ?_
  obtain ⟨σ_1, σ_1_e, H⟩ := wf_e H
  refine z_putI (M := M_X12_found) (ci := 15) (C := RX12) (T := TX12) (Nf := 135) (ty := tyX12) cl15 dX12_found_2 ly_277 0 (by decide) t_2391 rfl rfl rfl rfl σ_1_e ?_
  refine z_aload_n (M := M_X12_found) dX12_found_5 rfl ?_
  have J_2 : YY l E M_X12_found 2 0 0 (pS (some (vi r)) σ') 27 [some (vr 277), some (vi k_0)] [zv (decide (¬ ((fR_in (w32 k_0) 0 (w32 ((σ_1 kR_foundMany 0) - 1))) = true))), vr 277] σ_1 0 0 := by
    refine z_iconst (M := M_X12_found) dX12_found_27 ?_
    obtain ⟨⟨x_5, σ_4⟩, hc_3, H⟩ := bd_e H
    refine z_callV (M := M_X12_found) (M' := M_X12_fails) (as := [zv (decide (¬ ((fR_in (w32 k_0) 0 (w32 ((σ_1 kR_foundMany 0) - 1))) = true))), vi 1]) (rest := []) rfl rfl dX12_found_28 m_X12_fails t_2805 t_2807 s_157 (c_X12_fails hl  hc_3) rfl rfl ly_277 rfl (Nat.le_of_ble_eq_true rfl) (Nat.le_of_ble_eq_true rfl) (Nat.le_of_ble_eq_true rfl) (Nat.le_of_ble_eq_true rfl) ?_
    refine z_st (st' := [zv x_5]) rfl ?_
    rcases if_e H with ⟨h_6, H⟩ | ⟨h_6, H⟩
    · refine z_zeq_f (M := M_X12_found) (tgt := 36) dX12_found_31 (by decide) h_6 ?_
      refine z_iconst (M := M_X12_found) dX12_found_34 ?_
      cases H
      exact z_iret (M := M_X12_found) dX12_found_35 rfl (Nat.le_of_ble_eq_true rfl) (Nat.le_of_ble_eq_true rfl) ⟨rfl, rfl⟩
    · refine z_zeq_t (M := M_X12_found) (tgt := 36) dX12_found_31 (by decide) h_6 ?_
      refine z_aload_n (M := M_X12_found) dX12_found_36 rfl ?_
      refine z_getR (M := M_X12_found) (ci := 15) (C := RX12) (T := TX12) (Nf := 135) (ty := tyX12) cl15 dX12_found_37 ly_277 15 (by decide) t_2406 rfl ?_
      refine z_iload_n (M := M_X12_found) dX12_found_40 rfl ?_
      obtain ⟨x_7, x_7_e, hi_8, H⟩ := rd_e H
      refine z_iald (M := M_X12_found) dX12_found_41 ly_286 rfl rfl rfl hi_8 x_7_e ?_
      cases H
      exact z_iret (M := M_X12_found) dX12_found_42 rfl (Nat.le_of_ble_eq_true rfl) (Nat.le_of_ble_eq_true rfl) ⟨rfl, rfl⟩
  refine z_iload_n (M := M_X12_found) dX12_found_6 rfl ?_
  refine z_i2l (M := M_X12_found) dX12_found_7 ?_
  refine z_lconst (M := M_X12_found) (m := 0) dX12_found_8 (by decide +kernel) ?_
  refine z_aload_n (M := M_X12_found) dX12_found_9 rfl ?_
  refine z_getI (M := M_X12_found) (ci := 15) (C := RX12) (T := TX12) (Nf := 135) (ty := tyX12) cl15 dX12_found_10 ly_277 16 (by decide) t_2407 rfl rfl ?_
  refine z_iconst (M := M_X12_found) dX12_found_13 ?_
  refine z_isub (M := M_X12_found) dX12_found_14 ?_
  refine z_i2l (M := M_X12_found) dX12_found_15 ?_
  refine z_callS (M := M_X12_found) (M' := M_X12_in) (as := [vl (w32 k_0), vl 0, vl (w32 ((σ_1 kR_foundMany 0) - 1))]) (rest := [vr 277]) rfl rfl dX12_found_16 m_X12_in t_2818 t_2819 (c_X12_in hl  rfl) rfl rfl (Nat.le_of_ble_eq_true rfl) (Nat.le_of_ble_eq_true rfl) (Nat.le_of_ble_eq_true rfl) (Nat.le_of_ble_eq_true rfl) ?_
  refine z_st (st' := [zv (fR_in (w32 k_0) 0 (w32 ((σ_1 kR_foundMany 0) - 1))), vr 277]) rfl ?_
  by_cases h_9 : (fR_in (w32 k_0) 0 (w32 ((σ_1 kR_foundMany 0) - 1))) = true
  · refine z_zne_t (M := M_X12_found) (tgt := 26) dX12_found_19 (by decide) h_9 ?_
    refine z_iconst (M := M_X12_found) dX12_found_26 ?_
    exact z_st (by rw [zv_f (p := ¬ ((fR_in (w32 k_0) 0 (w32 ((σ_1 kR_foundMany 0) - 1))) = true)) (not_not_intro h_9)]) J_2
  · refine z_zne_f (M := M_X12_found) (tgt := 26) dX12_found_19 (by decide) h_9 ?_
    refine z_iconst (M := M_X12_found) dX12_found_22 ?_
    refine z_goto (M := M_X12_found) (tgt := 27) dX12_found_23 (by decide) ?_
    exact z_st (by rw [zv_t (p := ¬ ((fR_in (w32 k_0) 0 (w32 ((σ_1 kR_foundMany 0) - 1))) = true)) h_9]) J_2
theorem c_X12_trim (hl : l.stackTraces = false) {σ : SG} {r_0 : Int} {σ' : SG}  (H : fR_trim σ r_0 = some σ') : en_S l E M_X12_trim 1 0 0 [vr 277, vi r_0] σ (pS (none) σ') := by
  unfold fR_trim at H
  refine z_mk (lv := [some (vr 277), some (vi r_0)]) m_X12_trim rfl hl (Nat.le_of_ble_eq_true rfl) rfl ?_
  obtain ⟨rl_5, hw_2, hk_3⟩ := bd_e H
  have J_50 : ∀ σ_36, rl_5 = σ_36 → YY l E M_X12_trim 1 0 0 (pS (none) σ') 46 [some (vr 277), some (vi r_0)] [] σ_36 0 0 := by
    intro σ_36 e
    have H := hk_3
    rw [e] at H
    obtain ⟨v_40, he_37, hk_38⟩ := bd_e H
    have J_49 : ∀ σ_48, v_40 = σ_48 → YY l E M_X12_trim 1 0 0 (pS (none) σ') 62 [some (vr 277), some (vi r_0)] [] σ_48 0 0 := by
      intro σ_48 e
      have H := hk_38
      rw [e] at H
      cases H
      exact z_vret (M := M_X12_trim) dX12_trim_62 rfl (Nat.le_of_ble_eq_true rfl) (Nat.le_of_ble_eq_true rfl) ⟨rfl, rfl⟩
    have H := he_37
    refine z_aload_n (M := M_X12_trim) dX12_trim_46 rfl ?_
    refine z_getR (M := M_X12_trim) (ci := 15) (C := RX12) (T := TX12) (Nf := 135) (ty := tyX12) cl15 dX12_trim_47 ly_277 37 (by decide) t_2428 rfl ?_
    refine z_iload_n (M := M_X12_trim) dX12_trim_50 rfl ?_
    obtain ⟨x_41, x_41_e, hi_42, H⟩ := rd_e H
    refine z_iald (M := M_X12_trim) dX12_trim_51 ly_295 rfl rfl rfl hi_42 x_41_e ?_
    rcases if_e H with ⟨h_43, H⟩ | ⟨h_43, H⟩
    · refine z_if_ne_f (M := M_X12_trim) (tgt := 62) dX12_trim_52 (by decide) rfl h_43 ?_
      refine z_aload_n (M := M_X12_trim) dX12_trim_55 rfl ?_
      refine z_getR (M := M_X12_trim) (ci := 15) (C := RX12) (T := TX12) (Nf := 135) (ty := tyX12) cl15 dX12_trim_56 ly_277 38 (by decide) t_2429 rfl ?_
      refine z_iload_n (M := M_X12_trim) dX12_trim_59 rfl ?_
      refine z_iconst (M := M_X12_trim) dX12_trim_60 ?_
      obtain ⟨σ_44, σ_44_e, hi_45, H⟩ := wa_e H
      refine z_iast (M := M_X12_trim) dX12_trim_61 ly_296 rfl rfl rfl hi_45 σ_44_e ?_
      exact J_49 _ (Option.some.inj H).symm
    · refine z_if_ne_t (M := M_X12_trim) (tgt := 62) dX12_trim_52 (by decide) rfl h_43 ?_
      exact J_49 _ (Option.some.inj H).symm
  refine whl_go hw_2 (fun σ_1 => YY l E M_X12_trim 1 0 0 (pS (none) σ') 0 [some (vr 277), some (vi r_0)] [] σ_1 0 0) ?_
  rintro σ_1 o_6 H K_7 K_8
  refine z_aload_n (M := M_X12_trim) dX12_trim_0 rfl ?_
  refine z_getR (M := M_X12_trim) (ci := 15) (C := RX12) (T := TX12) (Nf := 135) (ty := tyX12) cl15 dX12_trim_1 ly_277 37 (by decide) t_2428 rfl ?_
  refine z_iload_n (M := M_X12_trim) dX12_trim_4 rfl ?_
  obtain ⟨x_21, x_21_e, hi_22, H⟩ := rd_e H
  refine z_iald (M := M_X12_trim) dX12_trim_5 ly_295 rfl rfl rfl hi_22 x_21_e ?_
  rcases if_e H with ⟨h_23, H⟩ | ⟨h_23, H⟩
  · refine z_if_le_f (M := M_X12_trim) (tgt := 46) dX12_trim_6 (by decide) rfl h_23 ?_
    refine z_aload_n (M := M_X12_trim) dX12_trim_9 rfl ?_
    refine z_getR (M := M_X12_trim) (ci := 15) (C := RX12) (T := TX12) (Nf := 135) (ty := tyX12) cl15 dX12_trim_10 ly_277 36 (by decide) t_2427 rfl ?_
    refine z_sipush (M := M_X12_trim) dX12_trim_13 (by decide +kernel) ?_
    refine z_iload_n (M := M_X12_trim) dX12_trim_16 rfl ?_
    refine z_imul (M := M_X12_trim) dX12_trim_17 ?_
    refine z_aload_n (M := M_X12_trim) dX12_trim_18 rfl ?_
    refine z_getR (M := M_X12_trim) (ci := 15) (C := RX12) (T := TX12) (Nf := 135) (ty := tyX12) cl15 dX12_trim_19 ly_277 37 (by decide) t_2428 rfl ?_
    refine z_iload_n (M := M_X12_trim) dX12_trim_22 rfl ?_
    obtain ⟨x_24, x_24_e, hi_25, H⟩ := rd_e H
    refine z_iald (M := M_X12_trim) dX12_trim_23 ly_295 rfl rfl rfl hi_25 x_24_e ?_
    refine z_iadd (M := M_X12_trim) dX12_trim_24 ?_
    refine z_iconst (M := M_X12_trim) dX12_trim_25 ?_
    refine z_isub (M := M_X12_trim) dX12_trim_26 ?_
    obtain ⟨x_26, x_26_e, hi_27, H⟩ := rd_e H
    refine z_lald (M := M_X12_trim) dX12_trim_27 ly_294 rfl rfl rfl hi_27 x_26_e ?_
    refine z_lconst (M := M_X12_trim) (m := 0) dX12_trim_28 (by decide +kernel) ?_
    refine z_lcmp (M := M_X12_trim) dX12_trim_29 ?_
    rcases if_e H with ⟨h_28, H⟩ | ⟨h_28, H⟩
    · refine z_lif_ne_f (M := M_X12_trim) (tgt := 46) dX12_trim_30 (by decide) rfl (by decide +kernel) h_28 ?_
      refine z_aload_n (M := M_X12_trim) dX12_trim_33 rfl ?_
      refine z_getR (M := M_X12_trim) (ci := 15) (C := RX12) (T := TX12) (Nf := 135) (ty := tyX12) cl15 dX12_trim_34 ly_277 37 (by decide) t_2428 rfl ?_
      refine z_iload_n (M := M_X12_trim) dX12_trim_37 rfl ?_
      refine z_dup2 (M := M_X12_trim) dX12_trim_38 rfl rfl ?_
      obtain ⟨x_29, x_29_e, hi_30, H⟩ := rd_e H
      refine z_iald (M := M_X12_trim) dX12_trim_39 ly_295 rfl rfl rfl hi_30 x_29_e ?_
      refine z_iconst (M := M_X12_trim) dX12_trim_40 ?_
      refine z_isub (M := M_X12_trim) dX12_trim_41 ?_
      obtain ⟨σ_31, σ_31_e, hi_32, H⟩ := wa_e H
      refine z_iast (M := M_X12_trim) dX12_trim_42 ly_295 rfl rfl rfl hi_32 σ_31_e ?_
      refine z_goto (M := M_X12_trim) (tgt := 0) dX12_trim_43 (by decide) ?_
      exact K_7 _ (Option.some.inj H).symm
    · refine z_lif_ne_t (M := M_X12_trim) (tgt := 46) dX12_trim_30 (by decide) rfl (by decide +kernel) h_28 ?_
      exact J_50 _ (K_8 _ (Option.some.inj H).symm).symm
  · refine z_if_le_t (M := M_X12_trim) (tgt := 46) dX12_trim_6 (by decide) rfl (Int.not_lt.mp h_23) ?_
    exact J_50 _ (K_8 _ (Option.some.inj H).symm).symm
end LFAS
