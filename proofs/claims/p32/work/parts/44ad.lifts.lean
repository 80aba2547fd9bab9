section LFAD
variable {l : Launch} {E : EE}
theorem c_X10_tellInBytes (hl : l.stackTraces = false) {σ : SG} {shape_0 : Nat} {order_0 : Int} {r : Int} {σ' : SG} (h_shape : isS shape_0) (H : fO_tellInBytes σ shape_0 order_0 = some (r, σ')) : en_S l E M_X10_tellInBytes 3 0 0 [vr 173, vr shape_0, vi order_0] σ (pS (some (vi r)) σ') := by
  unfold fO_tellInBytes at H
  refine z_mk (lv := [some (vr 173), some (vr shape_0), some (vi order_0), none, none, none, none, none, none]) m_X10_tellInBytes rfl hl (Nat.le_of_ble_eq_true rfl) rfl ?_
  refine z_aload_n (M := M_X10_tellInBytes) dX10_tellInBytes_0 rfl ?_
  refine z_iconst (M := M_X10_tellInBytes) dX10_tellInBytes_1 ?_
  obtain ⟨σ_1, σ_1_e, H⟩ := wf_e H
  refine z_putI (M := M_X10_tellInBytes) (ci := 13) (C := RX10) (T := TX10) (Nf := 6) (ty := tyX10) cl13 dX10_tellInBytes_2 ly_173 5 (by decide) t_207 rfl rfl rfl rfl σ_1_e ?_
  refine z_aload_n (M := M_X10_tellInBytes) dX10_tellInBytes_5 rfl ?_
  have J_2 : YY l E M_X10_tellInBytes 3 0 0 (pS (some (vi r)) σ') 16 [some (vr 173), some (vr shape_0), some (vi order_0), none, none, none, none, none, none] [zv (decide ((w32 order_0) = 1)), vr 173] σ_1 0 0 := by
    obtain ⟨σ_3, σ_3_e, H⟩ := wf_e H
    refine z_putZ (M := M_X10_tellInBytes) (ci := 13) (C := RX10) (T := TX10) (Nf := 6) (ty := tyX10) cl13 dX10_tellInBytes_16 ly_173 3 (by decide) t_204 rfl rfl rfl rfl σ_3_e ?_
    refine z_iconst (M := M_X10_tellInBytes) dX10_tellInBytes_19 ?_
    refine z_istore_n (M := M_X10_tellInBytes) (lv' := [some (vr 173), some (vr shape_0), some (vi order_0), some (vi 0), none, none, none, none, none]) dX10_tellInBytes_20 (Nat.le_of_ble_eq_true rfl) rfl rfl ?_
    refine z_iconst (M := M_X10_tellInBytes) dX10_tellInBytes_21 ?_
    refine z_istore (M := M_X10_tellInBytes) (lv' := [some (vr 173), some (vr shape_0), some (vi order_0), some (vi 0), some (vi 0), none, none, none, none]) dX10_tellInBytes_22 (Nat.le_of_ble_eq_true rfl) rfl rfl ?_
    obtain ⟨rl_10, hw_7, hk_8⟩ := bd_e H
    have J_115 : ∀ from_112 at_113 σ_114, rl_10 = (from_112, at_113, σ_114) → YY l E M_X10_tellInBytes 3 0 0 (pS (some (vi r)) σ') 223 [some (vr 173), some (vr shape_0), some (vi order_0), some (vi from_112), some (vi at_113), none, none, none, none] [] σ_114 0 0 := by
      intro from_112 at_113 σ_114 e
      have H := hk_8
      rw [e] at H
      refine z_aload_n (M := M_X10_tellInBytes) dX10_tellInBytes_223 rfl ?_
      refine z_getI (M := M_X10_tellInBytes) (ci := 13) (C := RX10) (T := TX10) (Nf := 6) (ty := tyX10) cl13 dX10_tellInBytes_224 ly_173 5 (by decide) t_207 rfl rfl ?_
      cases H
      exact z_iret (M := M_X10_tellInBytes) dX10_tellInBytes_227 rfl (Nat.le_of_ble_eq_true rfl) (Nat.le_of_ble_eq_true rfl) ⟨rfl, rfl⟩
    refine whl_go hw_7 (fun (from_4, at_5, σ_6) => YY l E M_X10_tellInBytes 3 0 0 (pS (some (vi r)) σ') 24 [some (vr 173), some (vr shape_0), some (vi order_0), some (vi from_4), some (vi at_5), none, none, none, none] [] σ_6 0 0) ?_
    rintro ⟨from_4, at_5, σ_6⟩ o_11 H K_12 K_13
    refine z_iload (M := M_X10_tellInBytes) dX10_tellInBytes_24 rfl ?_
    refine z_iconst (M := M_X10_tellInBytes) dX10_tellInBytes_26 ?_
    refine z_iadd (M := M_X10_tellInBytes) dX10_tellInBytes_27 ?_
    refine z_aload_n (M := M_X10_tellInBytes) dX10_tellInBytes_28 rfl ?_
    refine z_getI (M := M_X10_tellInBytes) (ci := 9) (C := RX6) (T := TX6) (Nf := 5) (ty := tyX6) cl9 dX10_tellInBytes_29 (ly_S h_shape) 3 (by decide) t_75 rfl rfl ?_
    rcases if_e H with ⟨h_14, H⟩ | ⟨h_14, H⟩
    · refine z_icmp_ge_f (M := M_X10_tellInBytes) (tgt := 223) dX10_tellInBytes_32 (by decide) rfl rfl h_14 ?_
      refine z_aload_n (M := M_X10_tellInBytes) dX10_tellInBytes_35 rfl ?_
      refine z_getR (M := M_X10_tellInBytes) (ci := 9) (C := RX6) (T := TX6) (Nf := 5) (ty := tyX6) cl9 dX10_tellInBytes_36 (ly_S h_shape) 0 (by decide) t_52 rfl ?_
      refine z_iload (M := M_X10_tellInBytes) dX10_tellInBytes_39 rfl ?_
      obtain ⟨x_15, x_15_e, hi_16, H⟩ := rd_e H
      refine z_iald (M := M_X10_tellInBytes) dX10_tellInBytes_41 (ly_Sp h_shape) rfl rfl rfl hi_16 x_15_e ?_
      refine z_istore (M := M_X10_tellInBytes) (lv' := [some (vr 173), some (vr shape_0), some (vi order_0), some (vi from_4), some (vi at_5), some (vi x_15), none, none, none]) dX10_tellInBytes_42 (Nat.le_of_ble_eq_true rfl) rfl rfl ?_
      refine z_aload_n (M := M_X10_tellInBytes) dX10_tellInBytes_44 rfl ?_
      refine z_iload_n (M := M_X10_tellInBytes) dX10_tellInBytes_45 rfl ?_
      obtain ⟨σ_18, hc_17, H⟩ := bd_e H
      refine z_callV (M := M_X10_tellInBytes) (M' := M_X10_put) (as := [vi order_0]) (rest := []) rfl rfl dX10_tellInBytes_46 m_X10_put t_1065 t_1067 s_36 (c_X10_put hl  hc_17) rfl rfl ly_173 rfl (Nat.le_of_ble_eq_true rfl) (Nat.le_of_ble_eq_true rfl) (Nat.le_of_ble_eq_true rfl) (Nat.le_of_ble_eq_true rfl) ?_
      refine z_st (st' := []) rfl ?_
      refine z_aload_n (M := M_X10_tellInBytes) dX10_tellInBytes_49 rfl ?_
      refine z_iload (M := M_X10_tellInBytes) dX10_tellInBytes_50 rfl ?_
      refine z_i2l (M := M_X10_tellInBytes) dX10_tellInBytes_52 ?_
      refine z_iconst (M := M_X10_tellInBytes) dX10_tellInBytes_53 ?_
      obtain ⟨σ_20, hc_19, H⟩ := bd_e H
      refine z_callV (M := M_X10_tellInBytes) (M' := M_X10_putBytes) (as := [vl (w32 x_15), vi 4]) (rest := []) rfl rfl dX10_tellInBytes_54 m_X10_putBytes t_1121 t_1123 s_41 (c_X10_putBytes hl  hc_19) rfl rfl ly_173 rfl (Nat.le_of_ble_eq_true rfl) (Nat.le_of_ble_eq_true rfl) (Nat.le_of_ble_eq_true rfl) (Nat.le_of_ble_eq_true rfl) ?_
      refine z_st (st' := []) rfl ?_
      obtain ⟨v_24, he_21, hk_22⟩ := bd_e H
      have J_110 : ∀ σ_47, v_24 = σ_47 → YY l E M_X10_tellInBytes 3 0 0 (pS (some (vi r)) σ') 111 [some (vr 173), some (vr shape_0), some (vi order_0), some (vi from_4), some (vi at_5), some (vi x_15), none, none, none] [] σ_47 0 0 := by
        intro σ_47 e
        have H := hk_22
        rw [e] at H
        refine z_iconst (M := M_X10_tellInBytes) dX10_tellInBytes_111 ?_
        refine z_istore (M := M_X10_tellInBytes) (lv' := [some (vr 173), some (vr shape_0), some (vi order_0), some (vi from_4), some (vi at_5), some (vi x_15), some (vi 0), none, none]) dX10_tellInBytes_112 (Nat.le_of_ble_eq_true rfl) rfl rfl ?_
        obtain ⟨rl_54, hw_51, hk_52⟩ := bd_e H
        have J_109 : ∀ from_103 row_104 σ_105, rl_54 = (from_103, row_104, σ_105) → YY l E M_X10_tellInBytes 3 0 0 (pS (some (vi r)) σ') 212 [some (vr 173), some (vr shape_0), some (vi order_0), some (vi from_103), some (vi at_5), some (vi x_15), some (vi row_104), none, none] [] σ_105 0 0 := by
          intro from_103 row_104 σ_105 e
          have H := hk_52
          rw [e] at H
          refine z_aload_n (M := M_X10_tellInBytes) dX10_tellInBytes_212 rfl ?_
          refine z_iload (M := M_X10_tellInBytes) dX10_tellInBytes_213 rfl ?_
          obtain ⟨x_107, hc_106, H⟩ := bd_e H
          refine z_callV (M := M_X10_tellInBytes) (M' := M_X6_behind) (as := [vi at_5]) (rest := []) rfl rfl dX10_tellInBytes_215 m_X6_behind t_1106 t_1107 t_1108 (c_X6_behind hl h_shape hc_106) rfl rfl (ly_S h_shape) rfl (Nat.le_of_ble_eq_true rfl) (Nat.le_of_ble_eq_true rfl) (Nat.le_of_ble_eq_true rfl) (Nat.le_of_ble_eq_true rfl) ?_
          refine z_st (st' := [vi x_107]) rfl ?_
          refine z_istore (M := M_X10_tellInBytes) (lv' := [some (vr 173), some (vr shape_0), some (vi order_0), some (vi from_103), some (vi x_107), some (vi x_15), some (vi row_104), none, none]) dX10_tellInBytes_218 (Nat.le_of_ble_eq_true rfl) rfl rfl ?_
          refine z_goto (M := M_X10_tellInBytes) (tgt := 24) dX10_tellInBytes_220 (by decide) ?_
          refine z_le (lv' := [some (vr 173), some (vr shape_0), some (vi order_0), some (vi from_103), some (vi x_107), none, none, none, none]) ⟨Or.inr rfl, Or.inr rfl, Or.inr rfl, Or.inr rfl, Or.inr rfl, Or.inl rfl, Or.inl rfl, Or.inl rfl, Or.inl rfl, trivial⟩ ?_
          exact K_12 _ (Option.some.inj H).symm
        refine whl_go hw_51 (fun (from_48, row_49, σ_50) => YY l E M_X10_tellInBytes 3 0 0 (pS (some (vi r)) σ') 114 [some (vr 173), some (vr shape_0), some (vi order_0), some (vi from_48), some (vi at_5), some (vi x_15), some (vi row_49), none, none] [] σ_50 0 0) ?_
        rintro ⟨from_48, row_49, σ_50⟩ o_55 H K_56 K_57
        refine z_iload (M := M_X10_tellInBytes) dX10_tellInBytes_114 rfl ?_
        refine z_aload_n (M := M_X10_tellInBytes) dX10_tellInBytes_116 rfl ?_
        refine z_iload (M := M_X10_tellInBytes) dX10_tellInBytes_117 rfl ?_
        obtain ⟨x_59, hc_58, H⟩ := bd_e H
        refine z_callV (M := M_X10_tellInBytes) (M' := M_X6_rows) (as := [vi at_5]) (rest := [vi row_49]) rfl rfl dX10_tellInBytes_119 m_X6_rows t_1074 t_1075 t_1076 (c_X6_rows hl h_shape hc_58) rfl rfl (ly_S h_shape) rfl (Nat.le_of_ble_eq_true rfl) (Nat.le_of_ble_eq_true rfl) (Nat.le_of_ble_eq_true rfl) (Nat.le_of_ble_eq_true rfl) ?_
        refine z_st (st' := [vi x_59, vi row_49]) rfl ?_
        rcases if_e H with ⟨h_60, H⟩ | ⟨h_60, H⟩
        · refine z_icmp_ge_f (M := M_X10_tellInBytes) (tgt := 212) dX10_tellInBytes_122 (by decide) rfl rfl h_60 ?_
          refine z_aload_n (M := M_X10_tellInBytes) dX10_tellInBytes_125 rfl ?_
          refine z_iload (M := M_X10_tellInBytes) dX10_tellInBytes_126 rfl ?_
          refine z_iload (M := M_X10_tellInBytes) dX10_tellInBytes_128 rfl ?_
          obtain ⟨x_62, hc_61, H⟩ := bd_e H
          refine z_callV (M := M_X10_tellInBytes) (M' := M_X6_rowLength) (as := [vi at_5, vi row_49]) (rest := []) rfl rfl dX10_tellInBytes_130 m_X6_rowLength t_1079 t_1080 t_1081 (c_X6_rowLength hl h_shape hc_61) rfl rfl (ly_S h_shape) rfl (Nat.le_of_ble_eq_true rfl) (Nat.le_of_ble_eq_true rfl) (Nat.le_of_ble_eq_true rfl) (Nat.le_of_ble_eq_true rfl) ?_
          refine z_st (st' := [vi x_62]) rfl ?_
          refine z_istore (M := M_X10_tellInBytes) (lv' := [some (vr 173), some (vr shape_0), some (vi order_0), some (vi from_48), some (vi at_5), some (vi x_15), some (vi row_49), some (vi x_62), none]) dX10_tellInBytes_133 (Nat.le_of_ble_eq_true rfl) rfl rfl ?_
          obtain ⟨v_66, he_63, hk_64⟩ := bd_e H
          have J_101 : ∀ σ_72, v_66 = σ_72 → YY l E M_X10_tellInBytes 3 0 0 (pS (some (vi r)) σ') 149 [some (vr 173), some (vr shape_0), some (vi order_0), some (vi from_48), some (vi at_5), some (vi x_15), some (vi row_49), some (vi x_62), none] [] σ_72 0 0 := by
            intro σ_72 e
            have H := hk_64
            rw [e] at H
            refine z_iload_n (M := M_X10_tellInBytes) dX10_tellInBytes_149 rfl ?_
            refine z_istore (M := M_X10_tellInBytes) (lv' := [some (vr 173), some (vr shape_0), some (vi order_0), some (vi from_48), some (vi at_5), some (vi x_15), some (vi row_49), some (vi x_62), some (vi from_48)]) dX10_tellInBytes_150 (Nat.le_of_ble_eq_true rfl) rfl rfl ?_
            obtain ⟨rl_78, hw_75, hk_76⟩ := bd_e H
            have J_100 : ∀ i_97 σ_98, rl_78 = (i_97, σ_98) → YY l E M_X10_tellInBytes 3 0 0 (pS (some (vi r)) σ') 201 [some (vr 173), some (vr shape_0), some (vi order_0), some (vi from_48), some (vi at_5), some (vi x_15), some (vi row_49), some (vi x_62), some (vi i_97)] [] σ_98 0 0 := by
              intro i_97 σ_98 e
              have H := hk_76
              rw [e] at H
              refine z_iload_n (M := M_X10_tellInBytes) dX10_tellInBytes_201 rfl ?_
              refine z_iload (M := M_X10_tellInBytes) dX10_tellInBytes_202 rfl ?_
              refine z_iadd (M := M_X10_tellInBytes) dX10_tellInBytes_204 ?_
              refine z_istore_n (M := M_X10_tellInBytes) (lv' := [some (vr 173), some (vr shape_0), some (vi order_0), some (vi (from_48 + x_62)), some (vi at_5), some (vi x_15), some (vi row_49), some (vi x_62), some (vi i_97)]) dX10_tellInBytes_205 (Nat.le_of_ble_eq_true rfl) rfl rfl ?_
              refine z_iinc (M := M_X10_tellInBytes) (lv' := [some (vr 173), some (vr shape_0), some (vi order_0), some (vi (from_48 + x_62)), some (vi at_5), some (vi x_15), some (vi (row_49 + 1)), some (vi x_62), some (vi i_97)]) dX10_tellInBytes_206 rfl (Nat.le_of_ble_eq_true rfl) rfl rfl ?_
              refine z_goto (M := M_X10_tellInBytes) (tgt := 114) dX10_tellInBytes_209 (by decide) ?_
              refine z_le (lv' := [some (vr 173), some (vr shape_0), some (vi order_0), some (vi (from_48 + x_62)), some (vi at_5), some (vi x_15), some (vi (row_49 + 1)), none, none]) ⟨Or.inr rfl, Or.inr rfl, Or.inr rfl, Or.inr rfl, Or.inr rfl, Or.inr rfl, Or.inr rfl, Or.inl rfl, Or.inl rfl, trivial⟩ ?_
              exact K_56 _ (Option.some.inj H).symm
            refine whl_go hw_75 (fun (i_73, σ_74) => YY l E M_X10_tellInBytes 3 0 0 (pS (some (vi r)) σ') 152 [some (vr 173), some (vr shape_0), some (vi order_0), some (vi from_48), some (vi at_5), some (vi x_15), some (vi row_49), some (vi x_62), some (vi i_73)] [] σ_74 0 0) ?_
            rintro ⟨i_73, σ_74⟩ o_79 H K_80 K_81
            refine z_iload (M := M_X10_tellInBytes) dX10_tellInBytes_152 rfl ?_
            refine z_iload_n (M := M_X10_tellInBytes) dX10_tellInBytes_154 rfl ?_
            refine z_iload (M := M_X10_tellInBytes) dX10_tellInBytes_155 rfl ?_
            refine z_iadd (M := M_X10_tellInBytes) dX10_tellInBytes_157 ?_
            rcases if_e H with ⟨h_82, H⟩ | ⟨h_82, H⟩
            · refine z_icmp_ge_f (M := M_X10_tellInBytes) (tgt := 201) dX10_tellInBytes_158 (by decide) rfl rfl h_82 ?_
              refine z_aload_n (M := M_X10_tellInBytes) dX10_tellInBytes_161 rfl ?_
              refine z_aload_n (M := M_X10_tellInBytes) dX10_tellInBytes_162 rfl ?_
              refine z_aload_n (M := M_X10_tellInBytes) dX10_tellInBytes_163 rfl ?_
              refine z_getR (M := M_X10_tellInBytes) (ci := 9) (C := RX6) (T := TX6) (Nf := 5) (ty := tyX6) cl9 dX10_tellInBytes_164 (ly_S h_shape) 1 (by decide) t_63 rfl ?_
              refine z_iload (M := M_X10_tellInBytes) dX10_tellInBytes_167 rfl ?_
              obtain ⟨x_83, x_83_e, hi_84, H⟩ := rd_e H
              refine z_iald (M := M_X10_tellInBytes) dX10_tellInBytes_169 (ly_Sx h_shape) rfl rfl rfl hi_84 x_83_e ?_
              obtain ⟨x_86, hc_85, H⟩ := bd_e H
              refine z_callV (M := M_X10_tellInBytes) (M' := M_X10_bitsOf) (as := [vi x_83]) (rest := [vr 173]) rfl rfl dX10_tellInBytes_170 m_X10_bitsOf t_1126 t_1128 s_42 (c_X10_bitsOf hl  hc_85) rfl rfl ly_173 rfl (Nat.le_of_ble_eq_true rfl) (Nat.le_of_ble_eq_true rfl) (Nat.le_of_ble_eq_true rfl) (Nat.le_of_ble_eq_true rfl) ?_
              refine z_st (st' := [vl x_86, vr 173]) rfl ?_
              refine z_bipush (M := M_X10_tellInBytes) dX10_tellInBytes_173 (by decide +kernel) ?_
              obtain ⟨σ_88, hc_87, H⟩ := bd_e H
              refine z_callV (M := M_X10_tellInBytes) (M' := M_X10_putBytes) (as := [vl x_86, vi 8]) (rest := []) rfl rfl dX10_tellInBytes_175 m_X10_putBytes t_1121 t_1123 s_41 (c_X10_putBytes hl  hc_87) rfl rfl ly_173 rfl (Nat.le_of_ble_eq_true rfl) (Nat.le_of_ble_eq_true rfl) (Nat.le_of_ble_eq_true rfl) (Nat.le_of_ble_eq_true rfl) ?_
              refine z_st (st' := []) rfl ?_
              refine z_aload_n (M := M_X10_tellInBytes) dX10_tellInBytes_178 rfl ?_
              refine z_aload_n (M := M_X10_tellInBytes) dX10_tellInBytes_179 rfl ?_
              refine z_aload_n (M := M_X10_tellInBytes) dX10_tellInBytes_180 rfl ?_
              refine z_getR (M := M_X10_tellInBytes) (ci := 9) (C := RX6) (T := TX6) (Nf := 5) (ty := tyX6) cl9 dX10_tellInBytes_181 (ly_S h_shape) 2 (by decide) t_70 rfl ?_
              refine z_iload (M := M_X10_tellInBytes) dX10_tellInBytes_184 rfl ?_
              obtain ⟨x_89, x_89_e, hi_90, H⟩ := rd_e H
              refine z_iald (M := M_X10_tellInBytes) dX10_tellInBytes_186 (ly_Sy h_shape) rfl rfl rfl hi_90 x_89_e ?_
              obtain ⟨x_92, hc_91, H⟩ := bd_e H
              refine z_callV (M := M_X10_tellInBytes) (M' := M_X10_bitsOf) (as := [vi x_89]) (rest := [vr 173]) rfl rfl dX10_tellInBytes_187 m_X10_bitsOf t_1126 t_1128 s_42 (c_X10_bitsOf hl  hc_91) rfl rfl ly_173 rfl (Nat.le_of_ble_eq_true rfl) (Nat.le_of_ble_eq_true rfl) (Nat.le_of_ble_eq_true rfl) (Nat.le_of_ble_eq_true rfl) ?_
              refine z_st (st' := [vl x_92, vr 173]) rfl ?_
              refine z_bipush (M := M_X10_tellInBytes) dX10_tellInBytes_190 (by decide +kernel) ?_
              obtain ⟨σ_94, hc_93, H⟩ := bd_e H
              refine z_callV (M := M_X10_tellInBytes) (M' := M_X10_putBytes) (as := [vl x_92, vi 8]) (rest := []) rfl rfl dX10_tellInBytes_192 m_X10_putBytes t_1121 t_1123 s_41 (c_X10_putBytes hl  hc_93) rfl rfl ly_173 rfl (Nat.le_of_ble_eq_true rfl) (Nat.le_of_ble_eq_true rfl) (Nat.le_of_ble_eq_true rfl) (Nat.le_of_ble_eq_true rfl) ?_
              refine z_st (st' := []) rfl ?_
              refine z_iinc (M := M_X10_tellInBytes) (lv' := [some (vr 173), some (vr shape_0), some (vi order_0), some (vi from_48), some (vi at_5), some (vi x_15), some (vi row_49), some (vi x_62), some (vi (i_73 + 1))]) dX10_tellInBytes_195 rfl (Nat.le_of_ble_eq_true rfl) rfl rfl ?_
              refine z_goto (M := M_X10_tellInBytes) (tgt := 152) dX10_tellInBytes_198 (by decide) ?_
              exact K_80 _ (Option.some.inj H).symm
            · refine z_icmp_ge_t (M := M_X10_tellInBytes) (tgt := 201) dX10_tellInBytes_158 (by decide) rfl rfl (Int.not_lt.mp h_82) ?_
              exact J_100 _ _ (K_81 _ (Option.some.inj H).symm).symm
          have H := he_63
          refine z_iload (M := M_X10_tellInBytes) dX10_tellInBytes_135 rfl ?_
          refine z_iconst (M := M_X10_tellInBytes) dX10_tellInBytes_137 ?_
          rcases if_e H with ⟨h_67, H⟩ | ⟨h_67, H⟩
          · refine z_icmp_ne_f (M := M_X10_tellInBytes) (tgt := 149) dX10_tellInBytes_138 (by decide) rfl (by decide +kernel) h_67 ?_
            refine z_aload_n (M := M_X10_tellInBytes) dX10_tellInBytes_141 rfl ?_
            refine z_iload (M := M_X10_tellInBytes) dX10_tellInBytes_142 rfl ?_
            refine z_i2l (M := M_X10_tellInBytes) dX10_tellInBytes_144 ?_
            refine z_iconst (M := M_X10_tellInBytes) dX10_tellInBytes_145 ?_
            obtain ⟨σ_69, hc_68, H⟩ := bd_e H
            refine z_callV (M := M_X10_tellInBytes) (M' := M_X10_putBytes) (as := [vl (w32 x_62), vi 4]) (rest := []) rfl rfl dX10_tellInBytes_146 m_X10_putBytes t_1121 t_1123 s_41 (c_X10_putBytes hl  hc_68) rfl rfl ly_173 rfl (Nat.le_of_ble_eq_true rfl) (Nat.le_of_ble_eq_true rfl) (Nat.le_of_ble_eq_true rfl) (Nat.le_of_ble_eq_true rfl) ?_
            refine z_st (st' := []) rfl ?_
            exact J_101 _ (Option.some.inj H).symm
          · refine z_icmp_ne_t (M := M_X10_tellInBytes) (tgt := 149) dX10_tellInBytes_138 (by decide) rfl (by decide +kernel) h_67 ?_
            exact J_101 _ (Option.some.inj H).symm
        · refine z_icmp_ge_t (M := M_X10_tellInBytes) (tgt := 212) dX10_tellInBytes_122 (by decide) rfl rfl (Int.not_lt.mp h_60) ?_
          exact J_109 _ _ _ (K_57 _ (Option.some.inj H).symm).symm
      have H := he_21
      refine z_iload (M := M_X10_tellInBytes) dX10_tellInBytes_57 rfl ?_
      refine z_iconst (M := M_X10_tellInBytes) dX10_tellInBytes_59 ?_
      rcases if_e H with ⟨h_25, H⟩ | ⟨h_25, H⟩
      · refine z_icmp_eq_f (M := M_X10_tellInBytes) (tgt := 81) dX10_tellInBytes_60 (by decide) rfl (by decide +kernel) h_25 ?_
        refine z_aload_n (M := M_X10_tellInBytes) dX10_tellInBytes_63 rfl ?_
        refine z_aload_n (M := M_X10_tellInBytes) dX10_tellInBytes_64 rfl ?_
        refine z_getR (M := M_X10_tellInBytes) (ci := 9) (C := RX6) (T := TX6) (Nf := 5) (ty := tyX6) cl9 dX10_tellInBytes_65 (ly_S h_shape) 0 (by decide) t_52 rfl ?_
        refine z_iload (M := M_X10_tellInBytes) dX10_tellInBytes_68 rfl ?_
        refine z_iconst (M := M_X10_tellInBytes) dX10_tellInBytes_70 ?_
        refine z_iadd (M := M_X10_tellInBytes) dX10_tellInBytes_71 ?_
        obtain ⟨x_26, x_26_e, hi_27, H⟩ := rd_e H
        refine z_iald (M := M_X10_tellInBytes) dX10_tellInBytes_72 (ly_Sp h_shape) rfl rfl rfl hi_27 x_26_e ?_
        refine z_i2l (M := M_X10_tellInBytes) dX10_tellInBytes_73 ?_
        refine z_iconst (M := M_X10_tellInBytes) dX10_tellInBytes_74 ?_
        obtain ⟨σ_29, hc_28, H⟩ := bd_e H
        refine z_callV (M := M_X10_tellInBytes) (M' := M_X10_putBytes) (as := [vl (w32 x_26), vi 4]) (rest := []) rfl rfl dX10_tellInBytes_75 m_X10_putBytes t_1121 t_1123 s_41 (c_X10_putBytes hl  hc_28) rfl rfl ly_173 rfl (Nat.le_of_ble_eq_true rfl) (Nat.le_of_ble_eq_true rfl) (Nat.le_of_ble_eq_true rfl) (Nat.le_of_ble_eq_true rfl) ?_
        refine z_st (st' := []) rfl ?_
        refine z_goto (M := M_X10_tellInBytes) (tgt := 111) dX10_tellInBytes_78 (by decide) ?_
        exact J_110 _ (Option.some.inj H).symm
      · refine z_icmp_eq_t (M := M_X10_tellInBytes) (tgt := 81) dX10_tellInBytes_60 (by decide) rfl (by decide +kernel) (Decidable.not_not.mp h_25) ?_
        obtain ⟨v_34, he_31, hk_32⟩ := bd_e H
        have J_46 : ∀ σ_44, v_34 = σ_44 → YY l E M_X10_tellInBytes 3 0 0 (pS (some (vi r)) σ') 111 [some (vr 173), some (vr shape_0), some (vi order_0), some (vi from_4), some (vi at_5), some (vi x_15), none, none, none] [] σ_44 0 0 := by
          intro σ_44 e
          have H := hk_32
          rw [e] at H
          exact J_110 _ (Option.some.inj H).symm
        have H := he_31
        refine z_aload_n (M := M_X10_tellInBytes) dX10_tellInBytes_81 rfl ?_
        refine z_getR (M := M_X10_tellInBytes) (ci := 9) (C := RX6) (T := TX6) (Nf := 5) (ty := tyX6) cl9 dX10_tellInBytes_82 (ly_S h_shape) 0 (by decide) t_52 rfl ?_
        refine z_iload (M := M_X10_tellInBytes) dX10_tellInBytes_85 rfl ?_
        refine z_iconst (M := M_X10_tellInBytes) dX10_tellInBytes_87 ?_
        refine z_iadd (M := M_X10_tellInBytes) dX10_tellInBytes_88 ?_
        obtain ⟨x_35, x_35_e, hi_36, H⟩ := rd_e H
        refine z_iald (M := M_X10_tellInBytes) dX10_tellInBytes_89 (ly_Sp h_shape) rfl rfl rfl hi_36 x_35_e ?_
        rcases if_e H with ⟨h_37, H⟩ | ⟨h_37, H⟩
        · refine z_if_ne_f (M := M_X10_tellInBytes) (tgt := 111) dX10_tellInBytes_90 (by decide) rfl h_37 ?_
          refine z_aload_n (M := M_X10_tellInBytes) dX10_tellInBytes_93 rfl ?_
          refine z_ldc2 (M := M_X10_tellInBytes) (n := 9221120237041090560) dX10_tellInBytes_94 t_1125 (by decide +kernel) ?_
          refine z_bipush (M := M_X10_tellInBytes) dX10_tellInBytes_97 (by decide +kernel) ?_
          obtain ⟨σ_39, hc_38, H⟩ := bd_e H
          refine z_callV (M := M_X10_tellInBytes) (M' := M_X10_putBytes) (as := [vl 9221120237041090560, vi 8]) (rest := []) rfl rfl dX10_tellInBytes_99 m_X10_putBytes t_1121 t_1123 s_41 (c_X10_putBytes hl  hc_38) rfl rfl ly_173 rfl (Nat.le_of_ble_eq_true rfl) (Nat.le_of_ble_eq_true rfl) (Nat.le_of_ble_eq_true rfl) (Nat.le_of_ble_eq_true rfl) ?_
          refine z_st (st' := []) rfl ?_
          refine z_aload_n (M := M_X10_tellInBytes) dX10_tellInBytes_102 rfl ?_
          refine z_ldc2 (M := M_X10_tellInBytes) (n := 9221120237041090560) dX10_tellInBytes_103 t_1125 (by decide +kernel) ?_
          refine z_bipush (M := M_X10_tellInBytes) dX10_tellInBytes_106 (by decide +kernel) ?_
          obtain ⟨σ_41, hc_40, H⟩ := bd_e H
          refine z_callV (M := M_X10_tellInBytes) (M' := M_X10_putBytes) (as := [vl 9221120237041090560, vi 8]) (rest := []) rfl rfl dX10_tellInBytes_108 m_X10_putBytes t_1121 t_1123 s_41 (c_X10_putBytes hl  hc_40) rfl rfl ly_173 rfl (Nat.le_of_ble_eq_true rfl) (Nat.le_of_ble_eq_true rfl) (Nat.le_of_ble_eq_true rfl) (Nat.le_of_ble_eq_true rfl) ?_
          refine z_st (st' := []) rfl ?_
          exact J_46 _ (Option.some.inj H).symm
        · refine z_if_ne_t (M := M_X10_tellInBytes) (tgt := 111) dX10_tellInBytes_90 (by decide) rfl h_37 ?_
          exact J_46 _ (Option.some.inj H).symm
    · refine z_icmp_ge_t (M := M_X10_tellInBytes) (tgt := 223) dX10_tellInBytes_32 (by decide) rfl rfl (Int.not_lt.mp h_14) ?_
      exact J_115 _ _ _ (K_13 _ (Option.some.inj H).symm).symm
  refine z_iload_n (M := M_X10_tellInBytes) dX10_tellInBytes_6 rfl ?_
  refine z_iconst (M := M_X10_tellInBytes) dX10_tellInBytes_7 ?_
  by_cases h_116 : (w32 order_0) = 1
  · refine z_icmp_ne_f (M := M_X10_tellInBytes) (tgt := 15) dX10_tellInBytes_8 (by decide) rfl (by decide +kernel) h_116 ?_
    refine z_iconst (M := M_X10_tellInBytes) dX10_tellInBytes_11 ?_
    refine z_goto (M := M_X10_tellInBytes) (tgt := 16) dX10_tellInBytes_12 (by decide) ?_
    exact z_st (by rw [zv_t (p := (w32 order_0) = 1) h_116]) J_2
  · refine z_icmp_ne_t (M := M_X10_tellInBytes) (tgt := 15) dX10_tellInBytes_8 (by decide) rfl (by decide +kernel) h_116 ?_
    refine z_iconst (M := M_X10_tellInBytes) dX10_tellInBytes_15 ?_
    exact z_st (by rw [zv_f (p := (w32 order_0) = 1) h_116]) J_2
theorem c_X11_writeBytes (hl : l.stackTraces = false) {σ : SG} {slot_0 : Int} {order_0 : Int} {r : Int ⊕ Nat} {σ' : SG}  (H : fQ_writeBytes σ slot_0 order_0 = some (r, σ')) : en_S l E M_X11_writeBytes 7 3 18 [vr 32, vi slot_0, vi order_0] σ (pT (riT r) σ') := by
  unfold fQ_writeBytes at H
  refine z_mk (lv := [some (vr 32), some (vi slot_0), some (vi order_0), none]) m_X11_writeBytes rfl hl (Nat.le_of_ble_eq_true rfl) rfl ?_
  refine z_aload_n (M := M_X11_writeBytes) dX11_writeBytes_0 rfl ?_
  refine z_iload_n (M := M_X11_writeBytes) dX11_writeBytes_1 rfl ?_
  obtain ⟨z_23, σ_2, hc_1, K_4, K_5⟩ := bt_e H
  rcases z_23 with x_3 | z_23
  · have H := K_4 _ rfl
    refine z_callV (M := M_X11_writeBytes) (M' := M_X11_slotNumbered) (as := [vi slot_0]) (rest := []) rfl rfl dX11_writeBytes_2 m_X11_slotNumbered t_744 t_746 s_2 (v := some (vr x_3)) (c_X11_slotNumbered hl  hc_1) rfl rfl ly_32 rfl (Nat.le_of_ble_eq_true rfl) (Nat.le_of_ble_eq_true rfl) (Nat.le_of_ble_eq_true rfl) (Nat.le_of_ble_eq_true rfl) ?_
    refine z_st (st' := [vr x_3]) rfl ?_
    obtain ⟨hs_6, H⟩ := ck_e H
    refine z_astore_n (M := M_X11_writeBytes) (lv' := [some (vr 32), some (vi slot_0), some (vi order_0), some (vr x_3)]) dX11_writeBytes_5 (Nat.le_of_ble_eq_true rfl) rfl rfl ?_
    refine z_aload_n (M := M_X11_writeBytes) dX11_writeBytes_6 rfl ?_
    obtain ⟨z_22, σ_8, hc_7, K_10, K_11⟩ := bt_e H
    rcases z_22 with x_9 | z_22
    · have H := K_10 _ rfl
      refine z_callS (M := M_X11_writeBytes) (M' := M_X11_mustBeThere) (as := [vr x_3]) (rest := []) rfl rfl dX11_writeBytes_7 m_X11_mustBeThere t_1047 t_1048 (v := none) (c_X11_mustBeThere hl hs_6 hc_7) rfl rfl (Nat.le_of_ble_eq_true rfl) (Nat.le_of_ble_eq_true rfl) (Nat.le_of_ble_eq_true rfl) (Nat.le_of_ble_eq_true rfl) ?_
      refine z_st (st' := []) rfl ?_
      rcases if_e H with ⟨h_15, H⟩ | ⟨h_15, H⟩
      · have J_16 : YY l E M_X11_writeBytes 7 3 18 (pT (riT r) σ') 19 [some (vr 32), some (vi slot_0), some (vi order_0), some (vr x_3)] [] σ_8 2 12 := by
          cases H
          exact z_throw (M := M_X11_writeBytes) (names := en_nm) rfl dX11_writeBytes_19 dX11_writeBytes_22 dX11_writeBytes_23 dX11_writeBytes_26 (by decide +kernel) en_nm_ok (Or.inl t_721) (Or.inl t_19) at_X11_IllegalArgumentException_118 (Nat.le_of_ble_eq_true rfl) (Nat.le_of_ble_eq_true rfl) (Nat.le_of_ble_eq_true rfl) (Nat.le_of_ble_eq_true rfl) ⟨rfl, rfl⟩
        refine z_iload_n (M := M_X11_writeBytes) dX11_writeBytes_10 rfl ?_
        by_cases h_18 : (w32 order_0) < 0
        · refine z_if_lt_t (M := M_X11_writeBytes) (tgt := 19) dX11_writeBytes_11 (by decide) rfl h_18 ?_
          exact J_16
        · refine z_if_lt_f (M := M_X11_writeBytes) (tgt := 19) dX11_writeBytes_11 (by decide) rfl (Int.not_lt.mp h_18) ?_
          refine z_iload_n (M := M_X11_writeBytes) dX11_writeBytes_14 rfl ?_
          refine z_iconst (M := M_X11_writeBytes) dX11_writeBytes_15 ?_
          by_cases h_19 : 1 < (w32 order_0)
          · refine z_icmp_le_f (M := M_X11_writeBytes) (tgt := 27) dX11_writeBytes_16 (by decide) rfl (by decide +kernel) h_19 ?_
            exact J_16
          · refine z_icmp_le_t (M := M_X11_writeBytes) (tgt := 27) dX11_writeBytes_16 (by decide) rfl (by decide +kernel) (Int.not_lt.mp h_19) ?_
            exact absurd h_15 (fun q => q.elim h_18 h_19)
      · have J_17 : YY l E M_X11_writeBytes 7 3 18 (pT (riT r) σ') 27 [some (vr 32), some (vi slot_0), some (vi order_0), some (vr x_3)] [] σ_8 2 12 := by
          refine z_aload_n (M := M_X11_writeBytes) dX11_writeBytes_27 rfl ?_
          refine z_getR (M := M_X11_writeBytes) (ci := 14) (C := RX11) (T := TX11) (Nf := 19) (ty := tyX11) cl14 dX11_writeBytes_28 ly_32 8 (by decide) t_571 rfl ?_
          refine z_aload_n (M := M_X11_writeBytes) dX11_writeBytes_31 rfl ?_
          refine z_iload_n (M := M_X11_writeBytes) dX11_writeBytes_32 rfl ?_
          obtain ⟨⟨x_14, σ_13⟩, hc_12, H⟩ := bd_e H
          refine z_callV (M := M_X11_writeBytes) (M' := M_X10_tellInBytes) (as := [vr x_3, vi order_0]) (rest := []) rfl rfl dX11_writeBytes_33 m_X10_tellInBytes t_1117 t_1118 t_1119 (c_X10_tellInBytes hl hs_6 hc_12) rfl rfl ly_173 rfl (Nat.le_of_ble_eq_true rfl) (Nat.le_of_ble_eq_true rfl) (Nat.le_of_ble_eq_true rfl) (Nat.le_of_ble_eq_true rfl) ?_
          refine z_st (st' := [vi x_14]) rfl ?_
          cases H
          exact z_iret (M := M_X11_writeBytes) dX11_writeBytes_36 rfl (Nat.le_of_ble_eq_true rfl) (Nat.le_of_ble_eq_true rfl) ⟨rfl, rfl⟩
        refine z_iload_n (M := M_X11_writeBytes) dX11_writeBytes_10 rfl ?_
        by_cases h_20 : (w32 order_0) < 0
        · refine z_if_lt_t (M := M_X11_writeBytes) (tgt := 19) dX11_writeBytes_11 (by decide) rfl h_20 ?_
          exact absurd (Or.inl h_20) h_15
        · refine z_if_lt_f (M := M_X11_writeBytes) (tgt := 19) dX11_writeBytes_11 (by decide) rfl (Int.not_lt.mp h_20) ?_
          refine z_iload_n (M := M_X11_writeBytes) dX11_writeBytes_14 rfl ?_
          refine z_iconst (M := M_X11_writeBytes) dX11_writeBytes_15 ?_
          by_cases h_21 : 1 < (w32 order_0)
          · refine z_icmp_le_f (M := M_X11_writeBytes) (tgt := 27) dX11_writeBytes_16 (by decide) rfl (by decide +kernel) h_21 ?_
            exact absurd (Or.inr h_21) h_15
          · refine z_icmp_le_t (M := M_X11_writeBytes) (tgt := 27) dX11_writeBytes_16 (by decide) rfl (by decide +kernel) (Int.not_lt.mp h_21) ?_
            exact J_17
    · have H := K_11 _ rfl
      cases H
      exact z_callSX (M := M_X11_writeBytes) (M' := M_X11_mustBeThere) (as := [vr x_3]) (rest := []) rfl rfl dX11_writeBytes_7 m_X11_mustBeThere t_1047 t_1048 (e := z_22) (c_X11_mustBeThere hl hs_6 hc_7) rfl rfl (Nat.le_of_ble_eq_true rfl) (Nat.le_of_ble_eq_true rfl) (Nat.le_of_ble_eq_true rfl) (Nat.le_of_ble_eq_true rfl) ⟨rfl, rfl⟩
  · have H := K_5 _ rfl
    cases H
    exact z_callVX (M := M_X11_writeBytes) (M' := M_X11_slotNumbered) (as := [vi slot_0]) (rest := []) rfl rfl dX11_writeBytes_2 m_X11_slotNumbered t_744 t_746 s_2 (e := z_23) (c_X11_slotNumbered hl  hc_1) rfl rfl ly_32 rfl (Nat.le_of_ble_eq_true rfl) (Nat.le_of_ble_eq_true rfl) (Nat.le_of_ble_eq_true rfl) (Nat.le_of_ble_eq_true rfl) ⟨rfl, rfl⟩
theorem c_X6_become (hl : l.stackTraces = false) {σ : SG} {this_0 : Nat} {other_0 : Nat} {σ' : SG} (h_this : isS this_0) (h_other : isS other_0) (H : fA_become σ this_0 other_0 = some σ') : en_S l E M_X6_become 1 0 0 [vr this_0, vr other_0] σ (pS (none) σ') := by
  unfold fA_become at H
  refine z_mk (lv := [some (vr this_0), some (vr other_0)]) m_X6_become rfl hl (Nat.le_of_ble_eq_true rfl) rfl ?_
  refine z_aload_n (M := M_X6_become) dX6_become_0 rfl ?_
  refine z_aload_n (M := M_X6_become) dX6_become_1 rfl ?_
  refine z_getI (M := M_X6_become) (ci := 9) (C := RX6) (T := TX6) (Nf := 5) (ty := tyX6) cl9 dX6_become_2 (ly_S h_other) 3 (by decide) t_72 rfl rfl ?_
  obtain ⟨σ_1, σ_1_e, H⟩ := wf_e H
  refine z_putI (M := M_X6_become) (ci := 9) (C := RX6) (T := TX6) (Nf := 5) (ty := tyX6) cl9 dX6_become_5 (ly_S h_this) 3 (by decide) t_72 rfl rfl rfl rfl σ_1_e ?_
  refine z_aload_n (M := M_X6_become) dX6_become_8 rfl ?_
  refine z_aload_n (M := M_X6_become) dX6_become_9 rfl ?_
  refine z_getI (M := M_X6_become) (ci := 9) (C := RX6) (T := TX6) (Nf := 5) (ty := tyX6) cl9 dX6_become_10 (ly_S h_other) 4 (by decide) t_83 rfl rfl ?_
  obtain ⟨σ_2, σ_2_e, H⟩ := wf_e H
  refine z_putI (M := M_X6_become) (ci := 9) (C := RX6) (T := TX6) (Nf := 5) (ty := tyX6) cl9 dX6_become_13 (ly_S h_this) 4 (by decide) t_83 rfl rfl rfl rfl σ_2_e ?_
  refine z_aload_n (M := M_X6_become) dX6_become_16 rfl ?_
  refine z_getR (M := M_X6_become) (ci := 9) (C := RX6) (T := TX6) (Nf := 5) (ty := tyX6) cl9 dX6_become_17 (ly_S h_other) 0 (by decide) t_50 rfl ?_
  refine z_iconst (M := M_X6_become) dX6_become_20 ?_
  refine z_aload_n (M := M_X6_become) dX6_become_21 rfl ?_
  refine z_getR (M := M_X6_become) (ci := 9) (C := RX6) (T := TX6) (Nf := 5) (ty := tyX6) cl9 dX6_become_22 (ly_S h_this) 0 (by decide) t_50 rfl ?_
  refine z_iconst (M := M_X6_become) dX6_become_25 ?_
  refine z_aload_n (M := M_X6_become) dX6_become_26 rfl ?_
  refine z_getI (M := M_X6_become) (ci := 9) (C := RX6) (T := TX6) (Nf := 5) (ty := tyX6) cl9 dX6_become_27 (ly_S h_this) 3 (by decide) t_72 rfl rfl ?_
  obtain ⟨σ_3, σ_3_e, hi_4, H⟩ := cp_e H
  refine z_acopyI (M := M_X6_become) dX6_become_30 t_1154 t_630 t_629 t_21 (ly_Sp h_other) (ly_Sp h_this) rfl rfl rfl rfl (by decide +kernel) (by decide +kernel) rfl hi_4 σ_3_e (Nat.le_of_ble_eq_true rfl) (Nat.le_of_ble_eq_true rfl) ?_
  refine z_aload_n (M := M_X6_become) dX6_become_33 rfl ?_
  refine z_getR (M := M_X6_become) (ci := 9) (C := RX6) (T := TX6) (Nf := 5) (ty := tyX6) cl9 dX6_become_34 (ly_S h_other) 1 (by decide) t_58 rfl ?_
  refine z_iconst (M := M_X6_become) dX6_become_37 ?_
  refine z_aload_n (M := M_X6_become) dX6_become_38 rfl ?_
  refine z_getR (M := M_X6_become) (ci := 9) (C := RX6) (T := TX6) (Nf := 5) (ty := tyX6) cl9 dX6_become_39 (ly_S h_this) 1 (by decide) t_58 rfl ?_
  refine z_iconst (M := M_X6_become) dX6_become_42 ?_
  refine z_aload_n (M := M_X6_become) dX6_become_43 rfl ?_
  refine z_getI (M := M_X6_become) (ci := 9) (C := RX6) (T := TX6) (Nf := 5) (ty := tyX6) cl9 dX6_become_44 (ly_S h_this) 4 (by decide) t_83 rfl rfl ?_
  obtain ⟨σ_5, σ_5_e, hi_6, H⟩ := cp_e H
  refine z_acopyI (M := M_X6_become) dX6_become_47 t_1154 t_630 t_629 t_21 (ly_Sx h_other) (ly_Sx h_this) rfl rfl rfl rfl (by decide +kernel) (by decide +kernel) rfl hi_6 σ_5_e (Nat.le_of_ble_eq_true rfl) (Nat.le_of_ble_eq_true rfl) ?_
  refine z_aload_n (M := M_X6_become) dX6_become_50 rfl ?_
  refine z_getR (M := M_X6_become) (ci := 9) (C := RX6) (T := TX6) (Nf := 5) (ty := tyX6) cl9 dX6_become_51 (ly_S h_other) 2 (by decide) t_65 rfl ?_
  refine z_iconst (M := M_X6_become) dX6_become_54 ?_
  refine z_aload_n (M := M_X6_become) dX6_become_55 rfl ?_
  refine z_getR (M := M_X6_become) (ci := 9) (C := RX6) (T := TX6) (Nf := 5) (ty := tyX6) cl9 dX6_become_56 (ly_S h_this) 2 (by decide) t_65 rfl ?_
  refine z_iconst (M := M_X6_become) dX6_become_59 ?_
  refine z_aload_n (M := M_X6_become) dX6_become_60 rfl ?_
  refine z_getI (M := M_X6_become) (ci := 9) (C := RX6) (T := TX6) (Nf := 5) (ty := tyX6) cl9 dX6_become_61 (ly_S h_this) 4 (by decide) t_83 rfl rfl ?_
  obtain ⟨σ_7, σ_7_e, hi_8, H⟩ := cp_e H
  refine z_acopyI (M := M_X6_become) dX6_become_64 t_1154 t_630 t_629 t_21 (ly_Sy h_other) (ly_Sy h_this) rfl rfl rfl rfl (by decide +kernel) (by decide +kernel) rfl hi_8 σ_7_e (Nat.le_of_ble_eq_true rfl) (Nat.le_of_ble_eq_true rfl) ?_
  cases H
  exact z_vret (M := M_X6_become) dX6_become_67 rfl (Nat.le_of_ble_eq_true rfl) (Nat.le_of_ble_eq_true rfl) ⟨rfl, rfl⟩
theorem c_X11_copy (hl : l.stackTraces = false) {σ : SG} {from_0 : Int} {to_0 : Int} {r : Int ⊕ Nat} {σ' : SG}  (H : fQ_copy σ from_0 to_0 = some (r, σ')) : en_S l E M_X11_copy 7 3 18 [vr 32, vi from_0, vi to_0] σ (pT (riT r) σ') := by
  unfold fQ_copy at H
  refine z_mk (lv := [some (vr 32), some (vi from_0), some (vi to_0), none, none]) m_X11_copy rfl hl (Nat.le_of_ble_eq_true rfl) rfl ?_
  refine z_aload_n (M := M_X11_copy) dX11_copy_0 rfl ?_
  refine z_iload_n (M := M_X11_copy) dX11_copy_1 rfl ?_
  obtain ⟨z_24, σ_2, hc_1, K_4, K_5⟩ := bt_e H
  rcases z_24 with x_3 | z_24
  · have H := K_4 _ rfl
    refine z_callV (M := M_X11_copy) (M' := M_X11_slotNumbered) (as := [vi from_0]) (rest := []) rfl rfl dX11_copy_2 m_X11_slotNumbered t_744 t_746 s_2 (v := some (vr x_3)) (c_X11_slotNumbered hl  hc_1) rfl rfl ly_32 rfl (Nat.le_of_ble_eq_true rfl) (Nat.le_of_ble_eq_true rfl) (Nat.le_of_ble_eq_true rfl) (Nat.le_of_ble_eq_true rfl) ?_
    refine z_st (st' := [vr x_3]) rfl ?_
    obtain ⟨hs_6, H⟩ := ck_e H
    refine z_astore_n (M := M_X11_copy) (lv' := [some (vr 32), some (vi from_0), some (vi to_0), some (vr x_3), none]) dX11_copy_5 (Nat.le_of_ble_eq_true rfl) rfl rfl ?_
    refine z_aload_n (M := M_X11_copy) dX11_copy_6 rfl ?_
    refine z_iload_n (M := M_X11_copy) dX11_copy_7 rfl ?_
    obtain ⟨z_23, σ_8, hc_7, K_10, K_11⟩ := bt_e H
    rcases z_23 with x_9 | z_23
    · have H := K_10 _ rfl
      refine z_callV (M := M_X11_copy) (M' := M_X11_slotNumbered) (as := [vi to_0]) (rest := []) rfl rfl dX11_copy_8 m_X11_slotNumbered t_744 t_746 s_2 (v := some (vr x_9)) (c_X11_slotNumbered hl  hc_7) rfl rfl ly_32 rfl (Nat.le_of_ble_eq_true rfl) (Nat.le_of_ble_eq_true rfl) (Nat.le_of_ble_eq_true rfl) (Nat.le_of_ble_eq_true rfl) ?_
      refine z_st (st' := [vr x_9]) rfl ?_
      obtain ⟨hs_12, H⟩ := ck_e H
      refine z_astore (M := M_X11_copy) (lv' := [some (vr 32), some (vi from_0), some (vi to_0), some (vr x_3), some (vr x_9)]) dX11_copy_11 (Nat.le_of_ble_eq_true rfl) rfl rfl ?_
      refine z_aload_n (M := M_X11_copy) dX11_copy_13 rfl ?_
      obtain ⟨z_22, σ_14, hc_13, K_16, K_17⟩ := bt_e H
      rcases z_22 with x_15 | z_22
      · have H := K_16 _ rfl
        refine z_callS (M := M_X11_copy) (M' := M_X11_mustBeThere) (as := [vr x_3]) (rest := []) rfl rfl dX11_copy_14 m_X11_mustBeThere t_1047 t_1048 (v := none) (c_X11_mustBeThere hl hs_6 hc_13) rfl rfl (Nat.le_of_ble_eq_true rfl) (Nat.le_of_ble_eq_true rfl) (Nat.le_of_ble_eq_true rfl) (Nat.le_of_ble_eq_true rfl) ?_
        refine z_st (st' := []) rfl ?_
        refine z_aload (M := M_X11_copy) dX11_copy_17 rfl ?_
        refine z_aload_n (M := M_X11_copy) dX11_copy_19 rfl ?_
        obtain ⟨σ_19, hc_18, H⟩ := bd_e H
        refine z_callV (M := M_X11_copy) (M' := M_X6_become) (as := [vr x_3]) (rest := []) rfl rfl dX11_copy_20 m_X6_become t_1150 t_1151 t_1152 (c_X6_become hl hs_12 hs_6 hc_18) rfl rfl (ly_S hs_12) rfl (Nat.le_of_ble_eq_true rfl) (Nat.le_of_ble_eq_true rfl) (Nat.le_of_ble_eq_true rfl) (Nat.le_of_ble_eq_true rfl) ?_
        refine z_st (st' := []) rfl ?_
        refine z_aload (M := M_X11_copy) dX11_copy_23 rfl ?_
        obtain ⟨x_21, hc_20, H⟩ := bd_e H
        refine z_callV (M := M_X11_copy) (M' := M_X6_kind) (as := []) (rest := []) rfl rfl dX11_copy_25 m_X6_kind t_950 t_951 t_952 (c_X6_kind hl hs_12 hc_20) rfl rfl (ly_S hs_12) rfl (Nat.le_of_ble_eq_true rfl) (Nat.le_of_ble_eq_true rfl) (Nat.le_of_ble_eq_true rfl) (Nat.le_of_ble_eq_true rfl) ?_
        refine z_st (st' := [vi x_21]) rfl ?_
        cases H
        exact z_iret (M := M_X11_copy) dX11_copy_28 rfl (Nat.le_of_ble_eq_true rfl) (Nat.le_of_ble_eq_true rfl) ⟨rfl, rfl⟩
      · have H := K_17 _ rfl
        cases H
        exact z_callSX (M := M_X11_copy) (M' := M_X11_mustBeThere) (as := [vr x_3]) (rest := []) rfl rfl dX11_copy_14 m_X11_mustBeThere t_1047 t_1048 (e := z_22) (c_X11_mustBeThere hl hs_6 hc_13) rfl rfl (Nat.le_of_ble_eq_true rfl) (Nat.le_of_ble_eq_true rfl) (Nat.le_of_ble_eq_true rfl) (Nat.le_of_ble_eq_true rfl) ⟨rfl, rfl⟩
    · have H := K_11 _ rfl
      cases H
      exact z_callVX (M := M_X11_copy) (M' := M_X11_slotNumbered) (as := [vi to_0]) (rest := []) rfl rfl dX11_copy_8 m_X11_slotNumbered t_744 t_746 s_2 (e := z_23) (c_X11_slotNumbered hl  hc_7) rfl rfl ly_32 rfl (Nat.le_of_ble_eq_true rfl) (Nat.le_of_ble_eq_true rfl) (Nat.le_of_ble_eq_true rfl) (Nat.le_of_ble_eq_true rfl) ⟨rfl, rfl⟩
  · have H := K_5 _ rfl
    cases H
    exact z_callVX (M := M_X11_copy) (M' := M_X11_slotNumbered) (as := [vi from_0]) (rest := []) rfl rfl dX11_copy_2 m_X11_slotNumbered t_744 t_746 s_2 (e := z_24) (c_X11_slotNumbered hl  hc_1) rfl rfl ly_32 rfl (Nat.le_of_ble_eq_true rfl) (Nat.le_of_ble_eq_true rfl) (Nat.le_of_ble_eq_true rfl) (Nat.le_of_ble_eq_true rfl) ⟨rfl, rfl⟩
theorem c_X11_drop (hl : l.stackTraces = false) {σ : SG} {slot_0 : Int} {r : Bool ⊕ Nat} {σ' : SG}  (H : fQ_drop σ slot_0 = some (r, σ')) : en_S l E M_X11_drop 7 1 6 [vr 32, vi slot_0] σ (pT (rzT r) σ') := by
  unfold fQ_drop at H
  refine z_mk (lv := [some (vr 32), some (vi slot_0), none, none]) m_X11_drop rfl hl (Nat.le_of_ble_eq_true rfl) rfl ?_
  refine z_aload_n (M := M_X11_drop) dX11_drop_0 rfl ?_
  refine z_iload_n (M := M_X11_drop) dX11_drop_1 rfl ?_
  obtain ⟨z_9, σ_2, hc_1, K_4, K_5⟩ := bt_e H
  rcases z_9 with x_3 | z_9
  · have H := K_4 _ rfl
    refine z_callV (M := M_X11_drop) (M' := M_X11_slotNumbered) (as := [vi slot_0]) (rest := []) rfl rfl dX11_drop_2 m_X11_slotNumbered t_744 t_746 s_2 (v := some (vr x_3)) (c_X11_slotNumbered hl  hc_1) rfl rfl ly_32 rfl (Nat.le_of_ble_eq_true rfl) (Nat.le_of_ble_eq_true rfl) (Nat.le_of_ble_eq_true rfl) (Nat.le_of_ble_eq_true rfl) ?_
    refine z_st (st' := [vr x_3]) rfl ?_
    obtain ⟨hs_6, H⟩ := ck_e H
    refine z_astore_n (M := M_X11_drop) (lv' := [some (vr 32), some (vi slot_0), some (vr x_3), none]) dX11_drop_5 (Nat.le_of_ble_eq_true rfl) rfl rfl ?_
    refine z_aload_n (M := M_X11_drop) dX11_drop_6 rfl ?_
    refine z_callV (M := M_X11_drop) (M' := M_X6_isThere) (as := []) (rest := []) rfl rfl dX11_drop_7 m_X6_isThere t_1050 t_1051 t_1052 (c_X6_isThere hl hs_6 rfl) rfl rfl (ly_S hs_6) rfl (Nat.le_of_ble_eq_true rfl) (Nat.le_of_ble_eq_true rfl) (Nat.le_of_ble_eq_true rfl) (Nat.le_of_ble_eq_true rfl) ?_
    refine z_st (st' := [zv (fA_isThere σ_2 x_3)]) rfl ?_
    refine z_zstore_n (M := M_X11_drop) (lv' := [some (vr 32), some (vi slot_0), some (vr x_3), some (zv (fA_isThere σ_2 x_3))]) dX11_drop_10 (Nat.le_of_ble_eq_true rfl) rfl rfl ?_
    refine z_aload_n (M := M_X11_drop) dX11_drop_11 rfl ?_
    obtain ⟨σ_8, hc_7, H⟩ := bd_e H
    refine z_callV (M := M_X11_drop) (M' := M_X6_clear) (as := []) (rest := []) rfl rfl dX11_drop_12 m_X6_clear t_949 t_768 t_769 (c_X6_clear hl hs_6 hc_7) rfl rfl (ly_S hs_6) rfl (Nat.le_of_ble_eq_true rfl) (Nat.le_of_ble_eq_true rfl) (Nat.le_of_ble_eq_true rfl) (Nat.le_of_ble_eq_true rfl) ?_
    refine z_st (st' := []) rfl ?_
    refine z_zload_n (M := M_X11_drop) dX11_drop_15 rfl ?_
    cases H
    exact z_zret (M := M_X11_drop) dX11_drop_16 rfl (Nat.le_of_ble_eq_true rfl) (Nat.le_of_ble_eq_true rfl) ⟨rfl, rfl⟩
  · have H := K_5 _ rfl
    cases H
    exact z_callVX (M := M_X11_drop) (M' := M_X11_slotNumbered) (as := [vi slot_0]) (rest := []) rfl rfl dX11_drop_2 m_X11_slotNumbered t_744 t_746 s_2 (e := z_9) (c_X11_slotNumbered hl  hc_1) rfl rfl ly_32 rfl (Nat.le_of_ble_eq_true rfl) (Nat.le_of_ble_eq_true rfl) (Nat.le_of_ble_eq_true rfl) (Nat.le_of_ble_eq_true rfl) ⟨rfl, rfl⟩
theorem c_X6_isLike (hl : l.stackTraces = false) {σ : SG} {this_0 : Nat} {other_0 : Nat} {r : Bool} (h_this : isS this_0) (h_other : isS other_0) (H : fA_isLike σ this_0 other_0 = some r) : en_S l E M_X6_isLike 1 0 0 [vr this_0, vr other_0] σ (pS (some (zv r)) σ) := by
  unfold fA_isLike at H
  refine z_mk (lv := [some (vr this_0), some (vr other_0), none]) m_X6_isLike rfl hl (Nat.le_of_ble_eq_true rfl) rfl ?_
  rcases if_e H with ⟨h_55, H⟩ | ⟨h_55, H⟩
  · have J_56 : YY l E M_X6_isLike 1 0 0 (pS (some (zv r)) σ) 22 [some (vr this_0), some (vr other_0), none] [] σ 0 0 := by
      refine z_zconst (M := M_X6_isLike) (b := false) dX6_isLike_22 rfl ?_
      cases H
      exact z_zret (M := M_X6_isLike) dX6_isLike_23 rfl (Nat.le_of_ble_eq_true rfl) (Nat.le_of_ble_eq_true rfl) ⟨rfl, rfl⟩
    refine z_aload_n (M := M_X6_isLike) dX6_isLike_0 rfl ?_
    refine z_getI (M := M_X6_isLike) (ci := 9) (C := RX6) (T := TX6) (Nf := 5) (ty := tyX6) cl9 dX6_isLike_1 (ly_S h_this) 3 (by decide) t_72 rfl rfl ?_
    refine z_aload_n (M := M_X6_isLike) dX6_isLike_4 rfl ?_
    refine z_getI (M := M_X6_isLike) (ci := 9) (C := RX6) (T := TX6) (Nf := 5) (ty := tyX6) cl9 dX6_isLike_5 (ly_S h_other) 3 (by decide) t_72 rfl rfl ?_
    by_cases h_58 : ¬ (w32 (σ (kA_plans this_0) 0)) = (w32 (σ (kA_plans other_0) 0))
    · refine z_icmp_ne_t (M := M_X6_isLike) (tgt := 22) dX6_isLike_8 (by decide) rfl rfl h_58 ?_
      exact J_56
    · refine z_icmp_ne_f (M := M_X6_isLike) (tgt := 22) dX6_isLike_8 (by decide) rfl rfl (Decidable.not_not.mp h_58) ?_
      refine z_aload_n (M := M_X6_isLike) dX6_isLike_11 rfl ?_
      refine z_getI (M := M_X6_isLike) (ci := 9) (C := RX6) (T := TX6) (Nf := 5) (ty := tyX6) cl9 dX6_isLike_12 (ly_S h_this) 4 (by decide) t_83 rfl rfl ?_
      refine z_aload_n (M := M_X6_isLike) dX6_isLike_15 rfl ?_
      refine z_getI (M := M_X6_isLike) (ci := 9) (C := RX6) (T := TX6) (Nf := 5) (ty := tyX6) cl9 dX6_isLike_16 (ly_S h_other) 4 (by decide) t_83 rfl rfl ?_
      by_cases h_59 : ¬ (w32 (σ (kA_points this_0) 0)) = (w32 (σ (kA_points other_0) 0))
      · refine z_icmp_eq_f (M := M_X6_isLike) (tgt := 24) dX6_isLike_19 (by decide) rfl rfl h_59 ?_
        exact J_56
      · refine z_icmp_eq_t (M := M_X6_isLike) (tgt := 24) dX6_isLike_19 (by decide) rfl rfl (Decidable.not_not.mp h_59) ?_
        exact absurd h_55 (fun q => q.elim h_58 h_59)
  · have J_57 : YY l E M_X6_isLike 1 0 0 (pS (some (zv r)) σ) 24 [some (vr this_0), some (vr other_0), none] [] σ 0 0 := by
      refine z_iconst (M := M_X6_isLike) dX6_isLike_24 ?_
      refine z_istore_n (M := M_X6_isLike) (lv' := [some (vr this_0), some (vr other_0), some (vi 0)]) dX6_isLike_25 (Nat.le_of_ble_eq_true rfl) rfl rfl ?_
      obtain ⟨rl_5, hw_2, hk_3, hk_4⟩ := bx_e H
      have J_54 : ∀ i_17, rl_5 = (.inl i_17) → YY l E M_X6_isLike 1 0 0 (pS (some (zv r)) σ) 57 [some (vr this_0), some (vr other_0), some (vi i_17)] [] σ 0 0 := by
        intro i_17 e
        have H := hk_3 _ e
        refine z_iconst (M := M_X6_isLike) dX6_isLike_57 ?_
        refine z_istore_n (M := M_X6_isLike) (lv' := [some (vr this_0), some (vr other_0), some (vi 0)]) dX6_isLike_58 (Nat.le_of_ble_eq_true rfl) rfl rfl ?_
        obtain ⟨rl_22, hw_19, hk_20, hk_21⟩ := bx_e H
        have J_53 : ∀ i_52, rl_22 = (.inl i_52) → YY l E M_X6_isLike 1 0 0 (pS (some (zv r)) σ) 105 [some (vr this_0), some (vr other_0), some (vi i_52)] [] σ 0 0 := by
          intro i_52 e
          have H := hk_20 _ e
          refine z_zconst (M := M_X6_isLike) (b := true) dX6_isLike_105 rfl ?_
          cases H
          exact z_zret (M := M_X6_isLike) dX6_isLike_106 rfl (Nat.le_of_ble_eq_true rfl) (Nat.le_of_ble_eq_true rfl) ⟨rfl, rfl⟩
        refine whl_go hw_19 (fun i_18 => YY l E M_X6_isLike 1 0 0 (pS (some (zv r)) σ) 59 [some (vr this_0), some (vr other_0), some (vi i_18)] [] σ 0 0) ?_
        rintro i_18 o_23 H K_24 K_25
        refine z_iload_n (M := M_X6_isLike) dX6_isLike_59 rfl ?_
        refine z_aload_n (M := M_X6_isLike) dX6_isLike_60 rfl ?_
        refine z_getI (M := M_X6_isLike) (ci := 9) (C := RX6) (T := TX6) (Nf := 5) (ty := tyX6) cl9 dX6_isLike_61 (ly_S h_this) 4 (by decide) t_83 rfl rfl ?_
        rcases if_e H with ⟨h_26, H⟩ | ⟨h_26, H⟩
        · refine z_icmp_ge_f (M := M_X6_isLike) (tgt := 105) dX6_isLike_64 (by decide) rfl rfl h_26 ?_
          refine z_aload_n (M := M_X6_isLike) dX6_isLike_67 rfl ?_
          refine z_getR (M := M_X6_isLike) (ci := 9) (C := RX6) (T := TX6) (Nf := 5) (ty := tyX6) cl9 dX6_isLike_68 (ly_S h_this) 1 (by decide) t_58 rfl ?_
          refine z_iload_n (M := M_X6_isLike) dX6_isLike_71 rfl ?_
          obtain ⟨x_40, x_40_e, hi_41, H⟩ := rd_e H
          refine z_iald (M := M_X6_isLike) dX6_isLike_72 (ly_Sx h_this) rfl rfl rfl hi_41 x_40_e ?_
          refine z_aload_n (M := M_X6_isLike) dX6_isLike_73 rfl ?_
          refine z_getR (M := M_X6_isLike) (ci := 9) (C := RX6) (T := TX6) (Nf := 5) (ty := tyX6) cl9 dX6_isLike_74 (ly_S h_other) 1 (by decide) t_58 rfl ?_
          refine z_iload_n (M := M_X6_isLike) dX6_isLike_77 rfl ?_
          obtain ⟨x_42, x_42_e, hi_43, H⟩ := rd_e H
          refine z_iald (M := M_X6_isLike) dX6_isLike_78 (ly_Sx h_other) rfl rfl rfl hi_43 x_42_e ?_
          rcases if_e H with ⟨h_44, H⟩ | ⟨h_44, H⟩
          · refine z_icmp_ne_t (M := M_X6_isLike) (tgt := 97) dX6_isLike_79 (by decide) rfl rfl h_44 ?_
            refine z_zconst (M := M_X6_isLike) (b := false) dX6_isLike_97 rfl ?_
            have H := congrArg some (hk_21 _ ((K_25 _ (Option.some.inj H).symm).symm))
            cases H
            exact z_zret (M := M_X6_isLike) dX6_isLike_98 rfl (Nat.le_of_ble_eq_true rfl) (Nat.le_of_ble_eq_true rfl) ⟨rfl, rfl⟩
          · refine z_icmp_ne_f (M := M_X6_isLike) (tgt := 97) dX6_isLike_79 (by decide) rfl rfl (Decidable.not_not.mp h_44) ?_
            refine z_aload_n (M := M_X6_isLike) dX6_isLike_82 rfl ?_
            refine z_getR (M := M_X6_isLike) (ci := 9) (C := RX6) (T := TX6) (Nf := 5) (ty := tyX6) cl9 dX6_isLike_83 (ly_S h_this) 2 (by decide) t_65 rfl ?_
            refine z_iload_n (M := M_X6_isLike) dX6_isLike_86 rfl ?_
            obtain ⟨x_45, x_45_e, hi_46, H⟩ := rd_e H
            refine z_iald (M := M_X6_isLike) dX6_isLike_87 (ly_Sy h_this) rfl rfl rfl hi_46 x_45_e ?_
            refine z_aload_n (M := M_X6_isLike) dX6_isLike_88 rfl ?_
            refine z_getR (M := M_X6_isLike) (ci := 9) (C := RX6) (T := TX6) (Nf := 5) (ty := tyX6) cl9 dX6_isLike_89 (ly_S h_other) 2 (by decide) t_65 rfl ?_
            refine z_iload_n (M := M_X6_isLike) dX6_isLike_92 rfl ?_
            obtain ⟨x_47, x_47_e, hi_48, H⟩ := rd_e H
            refine z_iald (M := M_X6_isLike) dX6_isLike_93 (ly_Sy h_other) rfl rfl rfl hi_48 x_47_e ?_
            rcases if_e H with ⟨h_49, H⟩ | ⟨h_49, H⟩
            · refine z_icmp_eq_f (M := M_X6_isLike) (tgt := 99) dX6_isLike_94 (by decide) rfl rfl h_49 ?_
              refine z_zconst (M := M_X6_isLike) (b := false) dX6_isLike_97 rfl ?_
              have H := congrArg some (hk_21 _ ((K_25 _ (Option.some.inj H).symm).symm))
              cases H
              exact z_zret (M := M_X6_isLike) dX6_isLike_98 rfl (Nat.le_of_ble_eq_true rfl) (Nat.le_of_ble_eq_true rfl) ⟨rfl, rfl⟩
            · refine z_icmp_eq_t (M := M_X6_isLike) (tgt := 99) dX6_isLike_94 (by decide) rfl rfl (Decidable.not_not.mp h_49) ?_
              refine z_iinc (M := M_X6_isLike) (lv' := [some (vr this_0), some (vr other_0), some (vi (i_18 + 1))]) dX6_isLike_99 rfl (Nat.le_of_ble_eq_true rfl) rfl rfl ?_
              refine z_goto (M := M_X6_isLike) (tgt := 59) dX6_isLike_102 (by decide) ?_
              exact K_24 _ (Option.some.inj H).symm
        · refine z_icmp_ge_t (M := M_X6_isLike) (tgt := 105) dX6_isLike_64 (by decide) rfl rfl (Int.not_lt.mp h_26) ?_
          exact J_53 _ (K_25 _ (Option.some.inj H).symm).symm
      refine whl_go hw_2 (fun i_1 => YY l E M_X6_isLike 1 0 0 (pS (some (zv r)) σ) 26 [some (vr this_0), some (vr other_0), some (vi i_1)] [] σ 0 0) ?_
      rintro i_1 o_6 H K_7 K_8
      refine z_iload_n (M := M_X6_isLike) dX6_isLike_26 rfl ?_
      refine z_aload_n (M := M_X6_isLike) dX6_isLike_27 rfl ?_
      refine z_getI (M := M_X6_isLike) (ci := 9) (C := RX6) (T := TX6) (Nf := 5) (ty := tyX6) cl9 dX6_isLike_28 (ly_S h_this) 3 (by decide) t_72 rfl rfl ?_
      rcases if_e H with ⟨h_9, H⟩ | ⟨h_9, H⟩
      · refine z_icmp_ge_f (M := M_X6_isLike) (tgt := 57) dX6_isLike_31 (by decide) rfl rfl h_9 ?_
        refine z_aload_n (M := M_X6_isLike) dX6_isLike_34 rfl ?_
        refine z_getR (M := M_X6_isLike) (ci := 9) (C := RX6) (T := TX6) (Nf := 5) (ty := tyX6) cl9 dX6_isLike_35 (ly_S h_this) 0 (by decide) t_50 rfl ?_
        refine z_iload_n (M := M_X6_isLike) dX6_isLike_38 rfl ?_
        obtain ⟨x_10, x_10_e, hi_11, H⟩ := rd_e H
        refine z_iald (M := M_X6_isLike) dX6_isLike_39 (ly_Sp h_this) rfl rfl rfl hi_11 x_10_e ?_
        refine z_aload_n (M := M_X6_isLike) dX6_isLike_40 rfl ?_
        refine z_getR (M := M_X6_isLike) (ci := 9) (C := RX6) (T := TX6) (Nf := 5) (ty := tyX6) cl9 dX6_isLike_41 (ly_S h_other) 0 (by decide) t_50 rfl ?_
        refine z_iload_n (M := M_X6_isLike) dX6_isLike_44 rfl ?_
        obtain ⟨x_12, x_12_e, hi_13, H⟩ := rd_e H
        refine z_iald (M := M_X6_isLike) dX6_isLike_45 (ly_Sp h_other) rfl rfl rfl hi_13 x_12_e ?_
        rcases if_e H with ⟨h_14, H⟩ | ⟨h_14, H⟩
        · refine z_icmp_eq_f (M := M_X6_isLike) (tgt := 51) dX6_isLike_46 (by decide) rfl rfl h_14 ?_
          refine z_zconst (M := M_X6_isLike) (b := false) dX6_isLike_49 rfl ?_
          have H := congrArg some (hk_4 _ ((K_8 _ (Option.some.inj H).symm).symm))
          cases H
          exact z_zret (M := M_X6_isLike) dX6_isLike_50 rfl (Nat.le_of_ble_eq_true rfl) (Nat.le_of_ble_eq_true rfl) ⟨rfl, rfl⟩
        · refine z_icmp_eq_t (M := M_X6_isLike) (tgt := 51) dX6_isLike_46 (by decide) rfl rfl (Decidable.not_not.mp h_14) ?_
          refine z_iinc (M := M_X6_isLike) (lv' := [some (vr this_0), some (vr other_0), some (vi (i_1 + 1))]) dX6_isLike_51 rfl (Nat.le_of_ble_eq_true rfl) rfl rfl ?_
          refine z_goto (M := M_X6_isLike) (tgt := 26) dX6_isLike_54 (by decide) ?_
          exact K_7 _ (Option.some.inj H).symm
      · refine z_icmp_ge_t (M := M_X6_isLike) (tgt := 57) dX6_isLike_31 (by decide) rfl rfl (Int.not_lt.mp h_9) ?_
        exact J_54 _ (K_8 _ (Option.some.inj H).symm).symm
    refine z_aload_n (M := M_X6_isLike) dX6_isLike_0 rfl ?_
    refine z_getI (M := M_X6_isLike) (ci := 9) (C := RX6) (T := TX6) (Nf := 5) (ty := tyX6) cl9 dX6_isLike_1 (ly_S h_this) 3 (by decide) t_72 rfl rfl ?_
    refine z_aload_n (M := M_X6_isLike) dX6_isLike_4 rfl ?_
    refine z_getI (M := M_X6_isLike) (ci := 9) (C := RX6) (T := TX6) (Nf := 5) (ty := tyX6) cl9 dX6_isLike_5 (ly_S h_other) 3 (by decide) t_72 rfl rfl ?_
    by_cases h_60 : ¬ (w32 (σ (kA_plans this_0) 0)) = (w32 (σ (kA_plans other_0) 0))
    · refine z_icmp_ne_t (M := M_X6_isLike) (tgt := 22) dX6_isLike_8 (by decide) rfl rfl h_60 ?_
      exact absurd (Or.inl h_60) h_55
    · refine z_icmp_ne_f (M := M_X6_isLike) (tgt := 22) dX6_isLike_8 (by decide) rfl rfl (Decidable.not_not.mp h_60) ?_
      refine z_aload_n (M := M_X6_isLike) dX6_isLike_11 rfl ?_
      refine z_getI (M := M_X6_isLike) (ci := 9) (C := RX6) (T := TX6) (Nf := 5) (ty := tyX6) cl9 dX6_isLike_12 (ly_S h_this) 4 (by decide) t_83 rfl rfl ?_
      refine z_aload_n (M := M_X6_isLike) dX6_isLike_15 rfl ?_
      refine z_getI (M := M_X6_isLike) (ci := 9) (C := RX6) (T := TX6) (Nf := 5) (ty := tyX6) cl9 dX6_isLike_16 (ly_S h_other) 4 (by decide) t_83 rfl rfl ?_
      by_cases h_61 : ¬ (w32 (σ (kA_points this_0) 0)) = (w32 (σ (kA_points other_0) 0))
      · refine z_icmp_eq_f (M := M_X6_isLike) (tgt := 24) dX6_isLike_19 (by decide) rfl rfl h_61 ?_
        exact absurd (Or.inr h_61) h_55
      · refine z_icmp_eq_t (M := M_X6_isLike) (tgt := 24) dX6_isLike_19 (by decide) rfl rfl (Decidable.not_not.mp h_61) ?_
        exact J_57
theorem c_X11_same (hl : l.stackTraces = false) {σ : SG} {slot_0 : Int} {other_0 : Int} {r : Bool ⊕ Nat} {σ' : SG}  (H : fQ_same σ slot_0 other_0 = some (r, σ')) : en_S l E M_X11_same 7 2 12 [vr 32, vi slot_0, vi other_0] σ (pT (rzT r) σ') := by
  unfold fQ_same at H
  refine z_mk (lv := [some (vr 32), some (vi slot_0), some (vi other_0), none, none]) m_X11_same rfl hl (Nat.le_of_ble_eq_true rfl) rfl ?_
  refine z_aload_n (M := M_X11_same) dX11_same_0 rfl ?_
  refine z_iload_n (M := M_X11_same) dX11_same_1 rfl ?_
  obtain ⟨z_16, σ_2, hc_1, K_4, K_5⟩ := bt_e H
  rcases z_16 with x_3 | z_16
  · have H := K_4 _ rfl
    refine z_callV (M := M_X11_same) (M' := M_X11_slotNumbered) (as := [vi slot_0]) (rest := []) rfl rfl dX11_same_2 m_X11_slotNumbered t_744 t_746 s_2 (v := some (vr x_3)) (c_X11_slotNumbered hl  hc_1) rfl rfl ly_32 rfl (Nat.le_of_ble_eq_true rfl) (Nat.le_of_ble_eq_true rfl) (Nat.le_of_ble_eq_true rfl) (Nat.le_of_ble_eq_true rfl) ?_
    refine z_st (st' := [vr x_3]) rfl ?_
    obtain ⟨hs_6, H⟩ := ck_e H
    refine z_astore_n (M := M_X11_same) (lv' := [some (vr 32), some (vi slot_0), some (vi other_0), some (vr x_3), none]) dX11_same_5 (Nat.le_of_ble_eq_true rfl) rfl rfl ?_
    refine z_aload_n (M := M_X11_same) dX11_same_6 rfl ?_
    refine z_iload_n (M := M_X11_same) dX11_same_7 rfl ?_
    obtain ⟨z_15, σ_8, hc_7, K_10, K_11⟩ := bt_e H
    rcases z_15 with x_9 | z_15
    · have H := K_10 _ rfl
      refine z_callV (M := M_X11_same) (M' := M_X11_slotNumbered) (as := [vi other_0]) (rest := []) rfl rfl dX11_same_8 m_X11_slotNumbered t_744 t_746 s_2 (v := some (vr x_9)) (c_X11_slotNumbered hl  hc_7) rfl rfl ly_32 rfl (Nat.le_of_ble_eq_true rfl) (Nat.le_of_ble_eq_true rfl) (Nat.le_of_ble_eq_true rfl) (Nat.le_of_ble_eq_true rfl) ?_
      refine z_st (st' := [vr x_9]) rfl ?_
      obtain ⟨hs_12, H⟩ := ck_e H
      refine z_astore (M := M_X11_same) (lv' := [some (vr 32), some (vi slot_0), some (vi other_0), some (vr x_3), some (vr x_9)]) dX11_same_11 (Nat.le_of_ble_eq_true rfl) rfl rfl ?_
      refine z_aload_n (M := M_X11_same) dX11_same_13 rfl ?_
      refine z_aload (M := M_X11_same) dX11_same_14 rfl ?_
      obtain ⟨x_14, hc_13, H⟩ := bd_e H
      refine z_callV (M := M_X11_same) (M' := M_X6_isLike) (as := [vr x_9]) (rest := []) rfl rfl dX11_same_16 m_X6_isLike t_1169 t_1170 t_1171 (c_X6_isLike hl hs_6 hs_12 hc_13) rfl rfl (ly_S hs_6) rfl (Nat.le_of_ble_eq_true rfl) (Nat.le_of_ble_eq_true rfl) (Nat.le_of_ble_eq_true rfl) (Nat.le_of_ble_eq_true rfl) ?_
      refine z_st (st' := [zv x_14]) rfl ?_
      cases H
      exact z_zret (M := M_X11_same) dX11_same_19 rfl (Nat.le_of_ble_eq_true rfl) (Nat.le_of_ble_eq_true rfl) ⟨rfl, rfl⟩
    · have H := K_11 _ rfl
      cases H
      exact z_callVX (M := M_X11_same) (M' := M_X11_slotNumbered) (as := [vi other_0]) (rest := []) rfl rfl dX11_same_8 m_X11_slotNumbered t_744 t_746 s_2 (e := z_15) (c_X11_slotNumbered hl  hc_7) rfl rfl ly_32 rfl (Nat.le_of_ble_eq_true rfl) (Nat.le_of_ble_eq_true rfl) (Nat.le_of_ble_eq_true rfl) (Nat.le_of_ble_eq_true rfl) ⟨rfl, rfl⟩
  · have H := K_5 _ rfl
    cases H
    exact z_callVX (M := M_X11_same) (M' := M_X11_slotNumbered) (as := [vi slot_0]) (rest := []) rfl rfl dX11_same_2 m_X11_slotNumbered t_744 t_746 s_2 (e := z_16) (c_X11_slotNumbered hl  hc_1) rfl rfl ly_32 rfl (Nat.le_of_ble_eq_true rfl) (Nat.le_of_ble_eq_true rfl) (Nat.le_of_ble_eq_true rfl) (Nat.le_of_ble_eq_true rfl) ⟨rfl, rfl⟩
theorem c_X11_plan (hl : l.stackTraces = false) {σ : SG} {slot_0 : Int} {i_0 : Int} {r : Int ⊕ Nat} {σ' : SG}  (H : fQ_plan σ slot_0 i_0 = some (r, σ')) : en_S l E M_X11_plan 7 2 12 [vr 32, vi slot_0, vi i_0] σ (pT (riT r) σ') := by
  unfold fQ_plan at H
  refine z_mk (lv := [some (vr 32), some (vi slot_0), some (vi i_0), none]) m_X11_plan rfl hl (Nat.le_of_ble_eq_true rfl) rfl ?_
  refine z_aload_n (M := M_X11_plan) dX11_plan_0 rfl ?_
  refine z_iload_n (M := M_X11_plan) dX11_plan_1 rfl ?_
  obtain ⟨z_16, σ_2, hc_1, K_4, K_5⟩ := bt_e H
  rcases z_16 with x_3 | z_16
  · have H := K_4 _ rfl
    refine z_callV (M := M_X11_plan) (M' := M_X11_slotNumbered) (as := [vi slot_0]) (rest := []) rfl rfl dX11_plan_2 m_X11_slotNumbered t_744 t_746 s_2 (v := some (vr x_3)) (c_X11_slotNumbered hl  hc_1) rfl rfl ly_32 rfl (Nat.le_of_ble_eq_true rfl) (Nat.le_of_ble_eq_true rfl) (Nat.le_of_ble_eq_true rfl) (Nat.le_of_ble_eq_true rfl) ?_
    refine z_st (st' := [vr x_3]) rfl ?_
    obtain ⟨hs_6, H⟩ := ck_e H
    refine z_astore_n (M := M_X11_plan) (lv' := [some (vr 32), some (vi slot_0), some (vi i_0), some (vr x_3)]) dX11_plan_5 (Nat.le_of_ble_eq_true rfl) rfl rfl ?_
    rcases if_e H with ⟨h_9, H⟩ | ⟨h_9, H⟩
    · have J_10 : YY l E M_X11_plan 7 2 12 (pT (riT r) σ') 18 [some (vr 32), some (vi slot_0), some (vi i_0), some (vr x_3)] [] σ_2 1 6 := by
        cases H
        exact z_throw (M := M_X11_plan) (names := en_nm) rfl dX11_plan_18 dX11_plan_21 dX11_plan_22 dX11_plan_25 (by decide +kernel) en_nm_ok (Or.inl t_748) (Or.inl t_22) at_X11_IndexOutOfBoundsException_139 (Nat.le_of_ble_eq_true rfl) (Nat.le_of_ble_eq_true rfl) (Nat.le_of_ble_eq_true rfl) (Nat.le_of_ble_eq_true rfl) ⟨rfl, rfl⟩
      refine z_iload_n (M := M_X11_plan) dX11_plan_6 rfl ?_
      by_cases h_12 : (w32 i_0) < 0
      · refine z_if_lt_t (M := M_X11_plan) (tgt := 18) dX11_plan_7 (by decide) rfl h_12 ?_
        exact J_10
      · refine z_if_lt_f (M := M_X11_plan) (tgt := 18) dX11_plan_7 (by decide) rfl (Int.not_lt.mp h_12) ?_
        refine z_iload_n (M := M_X11_plan) dX11_plan_10 rfl ?_
        refine z_aload_n (M := M_X11_plan) dX11_plan_11 rfl ?_
        refine z_getI (M := M_X11_plan) (ci := 9) (C := RX6) (T := TX6) (Nf := 5) (ty := tyX6) cl9 dX11_plan_12 (ly_S hs_6) 3 (by decide) t_79 rfl rfl ?_
        by_cases h_13 : (w32 (σ_2 (kA_plans x_3) 0)) ≤ (w32 i_0)
        · refine z_icmp_lt_f (M := M_X11_plan) (tgt := 26) dX11_plan_15 (by decide) rfl rfl h_13 ?_
          exact J_10
        · refine z_icmp_lt_t (M := M_X11_plan) (tgt := 26) dX11_plan_15 (by decide) rfl rfl (Int.not_le.mp h_13) ?_
          exact absurd h_9 (fun q => q.elim h_12 h_13)
    · have J_11 : YY l E M_X11_plan 7 2 12 (pT (riT r) σ') 26 [some (vr 32), some (vi slot_0), some (vi i_0), some (vr x_3)] [] σ_2 1 6 := by
        refine z_aload_n (M := M_X11_plan) dX11_plan_26 rfl ?_
        refine z_getR (M := M_X11_plan) (ci := 9) (C := RX6) (T := TX6) (Nf := 5) (ty := tyX6) cl9 dX11_plan_27 (ly_S hs_6) 0 (by decide) t_55 rfl ?_
        refine z_iload_n (M := M_X11_plan) dX11_plan_30 rfl ?_
        obtain ⟨x_7, x_7_e, hi_8, H⟩ := rd_e H
        refine z_iald (M := M_X11_plan) dX11_plan_31 (ly_Sp hs_6) rfl rfl rfl hi_8 x_7_e ?_
        cases H
        exact z_iret (M := M_X11_plan) dX11_plan_32 rfl (Nat.le_of_ble_eq_true rfl) (Nat.le_of_ble_eq_true rfl) ⟨rfl, rfl⟩
      refine z_iload_n (M := M_X11_plan) dX11_plan_6 rfl ?_
      by_cases h_14 : (w32 i_0) < 0
      · refine z_if_lt_t (M := M_X11_plan) (tgt := 18) dX11_plan_7 (by decide) rfl h_14 ?_
        exact absurd (Or.inl h_14) h_9
      · refine z_if_lt_f (M := M_X11_plan) (tgt := 18) dX11_plan_7 (by decide) rfl (Int.not_lt.mp h_14) ?_
        refine z_iload_n (M := M_X11_plan) dX11_plan_10 rfl ?_
        refine z_aload_n (M := M_X11_plan) dX11_plan_11 rfl ?_
        refine z_getI (M := M_X11_plan) (ci := 9) (C := RX6) (T := TX6) (Nf := 5) (ty := tyX6) cl9 dX11_plan_12 (ly_S hs_6) 3 (by decide) t_79 rfl rfl ?_
        by_cases h_15 : (w32 (σ_2 (kA_plans x_3) 0)) ≤ (w32 i_0)
        · refine z_icmp_lt_f (M := M_X11_plan) (tgt := 26) dX11_plan_15 (by decide) rfl rfl h_15 ?_
          exact absurd (Or.inr h_15) h_9
        · refine z_icmp_lt_t (M := M_X11_plan) (tgt := 26) dX11_plan_15 (by decide) rfl rfl (Int.not_le.mp h_15) ?_
          exact J_11
  · have H := K_5 _ rfl
    cases H
    exact z_callVX (M := M_X11_plan) (M' := M_X11_slotNumbered) (as := [vi slot_0]) (rest := []) rfl rfl dX11_plan_2 m_X11_slotNumbered t_744 t_746 s_2 (e := z_16) (c_X11_slotNumbered hl  hc_1) rfl rfl ly_32 rfl (Nat.le_of_ble_eq_true rfl) (Nat.le_of_ble_eq_true rfl) (Nat.le_of_ble_eq_true rfl) (Nat.le_of_ble_eq_true rfl) ⟨rfl, rfl⟩
theorem c_X11_ordinate (hl : l.stackTraces = false) {σ : SG} {slot_0 : Int} {i_0 : Int} {what_0 : Int} {r : Int ⊕ Nat} {σ' : SG}  (H : fQ_ordinate σ slot_0 i_0 what_0 = some (r, σ')) : en_S l E M_X11_ordinate 7 2 12 [vr 32, vi slot_0, vi i_0, vi what_0] σ (pT (riT r) σ') := by
  unfold fQ_ordinate at H
  refine z_mk (lv := [some (vr 32), some (vi slot_0), some (vi i_0), some (vi what_0), none]) m_X11_ordinate rfl hl (Nat.le_of_ble_eq_true rfl) rfl ?_
  refine z_aload_n (M := M_X11_ordinate) dX11_ordinate_0 rfl ?_
  refine z_iload_n (M := M_X11_ordinate) dX11_ordinate_1 rfl ?_
  obtain ⟨z_34, σ_2, hc_1, K_4, K_5⟩ := bt_e H
  rcases z_34 with x_3 | z_34
  · have H := K_4 _ rfl
    refine z_callV (M := M_X11_ordinate) (M' := M_X11_slotNumbered) (as := [vi slot_0]) (rest := []) rfl rfl dX11_ordinate_2 m_X11_slotNumbered t_744 t_746 s_2 (v := some (vr x_3)) (c_X11_slotNumbered hl  hc_1) rfl rfl ly_32 rfl (Nat.le_of_ble_eq_true rfl) (Nat.le_of_ble_eq_true rfl) (Nat.le_of_ble_eq_true rfl) (Nat.le_of_ble_eq_true rfl) ?_
    refine z_st (st' := [vr x_3]) rfl ?_
    obtain ⟨hs_6, H⟩ := ck_e H
    refine z_astore (M := M_X11_ordinate) (lv' := [some (vr 32), some (vi slot_0), some (vi i_0), some (vi what_0), some (vr x_3)]) dX11_ordinate_5 (Nat.le_of_ble_eq_true rfl) rfl rfl ?_
    rcases if_e H with ⟨h_23, H⟩ | ⟨h_23, H⟩
    · have J_24 : YY l E M_X11_ordinate 7 2 12 (pT (riT r) σ') 29 [some (vr 32), some (vi slot_0), some (vi i_0), some (vi what_0), some (vr x_3)] [] σ_2 1 6 := by
        cases H
        exact z_throw (M := M_X11_ordinate) (names := en_nm) rfl dX11_ordinate_29 dX11_ordinate_32 dX11_ordinate_33 dX11_ordinate_36 (by decide +kernel) en_nm_ok (Or.inl t_748) (Or.inl t_22) at_X11_IndexOutOfBoundsException_139 (Nat.le_of_ble_eq_true rfl) (Nat.le_of_ble_eq_true rfl) (Nat.le_of_ble_eq_true rfl) (Nat.le_of_ble_eq_true rfl) ⟨rfl, rfl⟩
      refine z_iload_n (M := M_X11_ordinate) dX11_ordinate_7 rfl ?_
      by_cases h_26 : (w32 i_0) < 0
      · refine z_if_lt_t (M := M_X11_ordinate) (tgt := 29) dX11_ordinate_8 (by decide) rfl h_26 ?_
        exact J_24
      · refine z_if_lt_f (M := M_X11_ordinate) (tgt := 29) dX11_ordinate_8 (by decide) rfl (Int.not_lt.mp h_26) ?_
        refine z_iload_n (M := M_X11_ordinate) dX11_ordinate_11 rfl ?_
        refine z_aload (M := M_X11_ordinate) dX11_ordinate_12 rfl ?_
        refine z_getI (M := M_X11_ordinate) (ci := 9) (C := RX6) (T := TX6) (Nf := 5) (ty := tyX6) cl9 dX11_ordinate_14 (ly_S hs_6) 4 (by decide) t_85 rfl rfl ?_
        by_cases h_27 : (w32 (σ_2 (kA_points x_3) 0)) ≤ (w32 i_0)
        · refine z_icmp_ge_t (M := M_X11_ordinate) (tgt := 29) dX11_ordinate_17 (by decide) rfl rfl h_27 ?_
          exact J_24
        · refine z_icmp_ge_f (M := M_X11_ordinate) (tgt := 29) dX11_ordinate_17 (by decide) rfl rfl (Int.not_le.mp h_27) ?_
          refine z_iload_n (M := M_X11_ordinate) dX11_ordinate_20 rfl ?_
          by_cases h_28 : (w32 what_0) < 0
          · refine z_if_lt_t (M := M_X11_ordinate) (tgt := 29) dX11_ordinate_21 (by decide) rfl h_28 ?_
            exact J_24
          · refine z_if_lt_f (M := M_X11_ordinate) (tgt := 29) dX11_ordinate_21 (by decide) rfl (Int.not_lt.mp h_28) ?_
            refine z_iload_n (M := M_X11_ordinate) dX11_ordinate_24 rfl ?_
            refine z_iconst (M := M_X11_ordinate) dX11_ordinate_25 ?_
            by_cases h_29 : 1 < (w32 what_0)
            · refine z_icmp_le_f (M := M_X11_ordinate) (tgt := 37) dX11_ordinate_26 (by decide) rfl (by decide +kernel) h_29 ?_
              exact J_24
            · refine z_icmp_le_t (M := M_X11_ordinate) (tgt := 37) dX11_ordinate_26 (by decide) rfl (by decide +kernel) (Int.not_lt.mp h_29) ?_
              exact absurd h_23 (fun q => q.elim (fun q => q.elim (fun q => q.elim h_26 h_27) h_28) h_29)
    · have J_25 : YY l E M_X11_ordinate 7 2 12 (pT (riT r) σ') 37 [some (vr 32), some (vi slot_0), some (vi i_0), some (vi what_0), some (vr x_3)] [] σ_2 1 6 := by
        obtain ⟨v_19, he_20, hk_21⟩ := bd_e H
        have J_22 : ∀ x_18, v_19 = x_18 → YY l E M_X11_ordinate 7 2 12 (pT (riT r) σ') 58 [some (vr 32), some (vi slot_0), some (vi i_0), some (vi what_0), some (vr x_3)] [vi x_18] σ_2 1 6 := by
          intro x_18 e
          have H := hk_21
          rw [e] at H
          cases H
          exact z_iret (M := M_X11_ordinate) dX11_ordinate_58 rfl (Nat.le_of_ble_eq_true rfl) (Nat.le_of_ble_eq_true rfl) ⟨rfl, rfl⟩
        have H := he_20
        refine z_iload_n (M := M_X11_ordinate) dX11_ordinate_37 rfl ?_
        rcases if_e H with ⟨h_11, H⟩ | ⟨h_11, H⟩
        · refine z_if_ne_f (M := M_X11_ordinate) (tgt := 51) dX11_ordinate_38 (by decide) rfl h_11 ?_
          refine z_aload (M := M_X11_ordinate) dX11_ordinate_41 rfl ?_
          refine z_getR (M := M_X11_ordinate) (ci := 9) (C := RX6) (T := TX6) (Nf := 5) (ty := tyX6) cl9 dX11_ordinate_43 (ly_S hs_6) 1 (by decide) t_64 rfl ?_
          refine z_iload_n (M := M_X11_ordinate) dX11_ordinate_46 rfl ?_
          obtain ⟨x_12, x_12_e, hi_13, H⟩ := rd_e H
          refine z_iald (M := M_X11_ordinate) dX11_ordinate_47 (ly_Sx hs_6) rfl rfl rfl hi_13 x_12_e ?_
          refine z_goto (M := M_X11_ordinate) (tgt := 58) dX11_ordinate_48 (by decide) ?_
          exact J_22 _ (Option.some.inj H).symm
        · refine z_if_ne_t (M := M_X11_ordinate) (tgt := 51) dX11_ordinate_38 (by decide) rfl h_11 ?_
          refine z_aload (M := M_X11_ordinate) dX11_ordinate_51 rfl ?_
          refine z_getR (M := M_X11_ordinate) (ci := 9) (C := RX6) (T := TX6) (Nf := 5) (ty := tyX6) cl9 dX11_ordinate_53 (ly_S hs_6) 2 (by decide) t_71 rfl ?_
          refine z_iload_n (M := M_X11_ordinate) dX11_ordinate_56 rfl ?_
          obtain ⟨x_15, x_15_e, hi_16, H⟩ := rd_e H
          refine z_iald (M := M_X11_ordinate) dX11_ordinate_57 (ly_Sy hs_6) rfl rfl rfl hi_16 x_15_e ?_
          exact J_22 _ (Option.some.inj H).symm
      refine z_iload_n (M := M_X11_ordinate) dX11_ordinate_7 rfl ?_
      by_cases h_30 : (w32 i_0) < 0
      · refine z_if_lt_t (M := M_X11_ordinate) (tgt := 29) dX11_ordinate_8 (by decide) rfl h_30 ?_
        exact absurd (Or.inl (Or.inl (Or.inl h_30))) h_23
      · refine z_if_lt_f (M := M_X11_ordinate) (tgt := 29) dX11_ordinate_8 (by decide) rfl (Int.not_lt.mp h_30) ?_
        refine z_iload_n (M := M_X11_ordinate) dX11_ordinate_11 rfl ?_
        refine z_aload (M := M_X11_ordinate) dX11_ordinate_12 rfl ?_
        refine z_getI (M := M_X11_ordinate) (ci := 9) (C := RX6) (T := TX6) (Nf := 5) (ty := tyX6) cl9 dX11_ordinate_14 (ly_S hs_6) 4 (by decide) t_85 rfl rfl ?_
        by_cases h_31 : (w32 (σ_2 (kA_points x_3) 0)) ≤ (w32 i_0)
        · refine z_icmp_ge_t (M := M_X11_ordinate) (tgt := 29) dX11_ordinate_17 (by decide) rfl rfl h_31 ?_
          exact absurd (Or.inl (Or.inl (Or.inr h_31))) h_23
        · refine z_icmp_ge_f (M := M_X11_ordinate) (tgt := 29) dX11_ordinate_17 (by decide) rfl rfl (Int.not_le.mp h_31) ?_
          refine z_iload_n (M := M_X11_ordinate) dX11_ordinate_20 rfl ?_
          by_cases h_32 : (w32 what_0) < 0
          · refine z_if_lt_t (M := M_X11_ordinate) (tgt := 29) dX11_ordinate_21 (by decide) rfl h_32 ?_
            exact absurd (Or.inl (Or.inr h_32)) h_23
          · refine z_if_lt_f (M := M_X11_ordinate) (tgt := 29) dX11_ordinate_21 (by decide) rfl (Int.not_lt.mp h_32) ?_
            refine z_iload_n (M := M_X11_ordinate) dX11_ordinate_24 rfl ?_
            refine z_iconst (M := M_X11_ordinate) dX11_ordinate_25 ?_
            by_cases h_33 : 1 < (w32 what_0)
            · refine z_icmp_le_f (M := M_X11_ordinate) (tgt := 37) dX11_ordinate_26 (by decide) rfl (by decide +kernel) h_33 ?_
              exact absurd (Or.inr h_33) h_23
            · refine z_icmp_le_t (M := M_X11_ordinate) (tgt := 37) dX11_ordinate_26 (by decide) rfl (by decide +kernel) (Int.not_lt.mp h_33) ?_
              exact J_25
  · have H := K_5 _ rfl
    cases H
    exact z_callVX (M := M_X11_ordinate) (M' := M_X11_slotNumbered) (as := [vi slot_0]) (rest := []) rfl rfl dX11_ordinate_2 m_X11_slotNumbered t_744 t_746 s_2 (e := z_34) (c_X11_slotNumbered hl  hc_1) rfl rfl ly_32 rfl (Nat.le_of_ble_eq_true rfl) (Nat.le_of_ble_eq_true rfl) (Nat.le_of_ble_eq_true rfl) (Nat.le_of_ble_eq_true rfl) ⟨rfl, rfl⟩
theorem c_X11_slotsWithShapes (hl : l.stackTraces = false) {σ : SG} {r : Int}  (H : fQ_slotsWithShapes σ = some r) : en_S l E M_X11_slotsWithShapes 2 0 0 [vr 32] σ (pS (some (vi r)) σ) := by
  unfold fQ_slotsWithShapes at H
  refine z_mk (lv := [some (vr 32), none, none]) m_X11_slotsWithShapes rfl hl (Nat.le_of_ble_eq_true rfl) rfl ?_
  refine z_iconst (M := M_X11_slotsWithShapes) dX11_slotsWithShapes_0 ?_
  refine z_istore_n (M := M_X11_slotsWithShapes) (lv' := [some (vr 32), some (vi 0), none]) dX11_slotsWithShapes_1 (Nat.le_of_ble_eq_true rfl) rfl rfl ?_
  refine z_iconst (M := M_X11_slotsWithShapes) dX11_slotsWithShapes_2 ?_
  refine z_istore_n (M := M_X11_slotsWithShapes) (lv' := [some (vr 32), some (vi 0), some (vi 0)]) dX11_slotsWithShapes_3 (Nat.le_of_ble_eq_true rfl) rfl rfl ?_
  obtain ⟨rl_6, hw_3, hk_4⟩ := bd_e H
  have J_25 : ∀ there_23 i_24, rl_6 = (there_23, i_24) → YY l E M_X11_slotsWithShapes 2 0 0 (pS (some (vi r)) σ) 31 [some (vr 32), some (vi there_23), some (vi i_24)] [] σ 0 0 := by
    intro there_23 i_24 e
    have H := hk_4
    rw [e] at H
    refine z_iload_n (M := M_X11_slotsWithShapes) dX11_slotsWithShapes_31 rfl ?_
    cases H
    exact z_iret (M := M_X11_slotsWithShapes) dX11_slotsWithShapes_32 rfl (Nat.le_of_ble_eq_true rfl) (Nat.le_of_ble_eq_true rfl) ⟨rfl, rfl⟩
  refine whl_go hw_3 (fun (there_1, i_2) => YY l E M_X11_slotsWithShapes 2 0 0 (pS (some (vi r)) σ) 4 [some (vr 32), some (vi there_1), some (vi i_2)] [] σ 0 0) ?_
  rintro ⟨there_1, i_2⟩ o_7 H K_8 K_9
  refine z_iload_n (M := M_X11_slotsWithShapes) dX11_slotsWithShapes_4 rfl ?_
  refine z_bipush (M := M_X11_slotsWithShapes) dX11_slotsWithShapes_5 (by decide +kernel) ?_
  rcases if_e H with ⟨h_10, H⟩ | ⟨h_10, H⟩
  · refine z_icmp_ge_f (M := M_X11_slotsWithShapes) (tgt := 31) dX11_slotsWithShapes_7 (by decide) rfl (by decide +kernel) h_10 ?_
    obtain ⟨v_14, he_11, hk_12⟩ := bd_e H
    have J_21 : ∀ there_19, v_14 = there_19 → YY l E M_X11_slotsWithShapes 2 0 0 (pS (some (vi r)) σ) 25 [some (vr 32), some (vi there_19), some (vi i_2)] [] σ 0 0 := by
      intro there_19 e
      have H := hk_12
      rw [e] at H
      refine z_iinc (M := M_X11_slotsWithShapes) (lv' := [some (vr 32), some (vi there_19), some (vi (i_2 + 1))]) dX11_slotsWithShapes_25 rfl (Nat.le_of_ble_eq_true rfl) rfl rfl ?_
      refine z_goto (M := M_X11_slotsWithShapes) (tgt := 4) dX11_slotsWithShapes_28 (by decide) ?_
      exact K_8 _ (Option.some.inj H).symm
    have H := he_11
    refine z_aload_n (M := M_X11_slotsWithShapes) dX11_slotsWithShapes_10 rfl ?_
    refine z_getR (M := M_X11_slotsWithShapes) (ci := 14) (C := RX11) (T := TX11) (Nf := 19) (ty := tyX11) cl14 dX11_slotsWithShapes_11 ly_32 0 (by decide) t_563 rfl ?_
    refine z_iload_n (M := M_X11_slotsWithShapes) dX11_slotsWithShapes_14 rfl ?_
    obtain ⟨hi_15, H⟩ := ck_e H
    refine z_aald (M := M_X11_slotsWithShapes) dX11_slotsWithShapes_15 ly_33 rfl rfl hi_15 rfl ?_
    refine z_callV (M := M_X11_slotsWithShapes) (M' := M_X6_isThere) (as := []) (rest := []) rfl rfl dX11_slotsWithShapes_16 m_X6_isThere t_1050 t_1051 t_1052 (c_X6_isThere hl (sl_S hi_15) rfl) rfl rfl (ly_S (sl_S hi_15)) rfl (Nat.le_of_ble_eq_true rfl) (Nat.le_of_ble_eq_true rfl) (Nat.le_of_ble_eq_true rfl) (Nat.le_of_ble_eq_true rfl) ?_
    refine z_st (st' := [zv (fA_isThere σ (34 + 4 * (w32 i_2).toNat))]) rfl ?_
    rcases if_e H with ⟨h_16, H⟩ | ⟨h_16, H⟩
    · refine z_zeq_f (M := M_X11_slotsWithShapes) (tgt := 25) dX11_slotsWithShapes_19 (by decide) h_16 ?_
      refine z_iinc (M := M_X11_slotsWithShapes) (lv' := [some (vr 32), some (vi (there_1 + 1)), some (vi i_2)]) dX11_slotsWithShapes_22 rfl (Nat.le_of_ble_eq_true rfl) rfl rfl ?_
      exact J_21 _ (Option.some.inj H).symm
    · refine z_zeq_t (M := M_X11_slotsWithShapes) (tgt := 25) dX11_slotsWithShapes_19 (by decide) h_16 ?_
      exact J_21 _ (Option.some.inj H).symm
  · refine z_icmp_ge_t (M := M_X11_slotsWithShapes) (tgt := 31) dX11_slotsWithShapes_7 (by decide) rfl (by decide +kernel) (Int.not_lt.mp h_10) ?_
    exact J_25 _ _ (K_9 _ (Option.some.inj H).symm).symm
theorem c_X11_count (hl : l.stackTraces = false) {σ : SG} {slot_0 : Int} {what_0 : Int} {r : Int ⊕ Nat} {σ' : SG}  (H : fQ_count σ slot_0 what_0 = some (r, σ')) : en_S l E M_X11_count 7 2 12 [vr 32, vi slot_0, vi what_0] σ (pT (riT r) σ') := by
  unfold fQ_count at H
  refine z_mk (lv := [some (vr 32), some (vi slot_0), some (vi what_0), none]) m_X11_count rfl hl (Nat.le_of_ble_eq_true rfl) rfl ?_
  refine z_aload_n (M := M_X11_count) dX11_count_0 rfl ?_
  refine z_iload_n (M := M_X11_count) dX11_count_1 rfl ?_
  obtain ⟨z_15, σ_2, hc_1, K_4, K_5⟩ := bt_e H
  rcases z_15 with x_3 | z_15
  · have H := K_4 _ rfl
    refine z_callV (M := M_X11_count) (M' := M_X11_slotNumbered) (as := [vi slot_0]) (rest := []) rfl rfl dX11_count_2 m_X11_slotNumbered t_744 t_746 s_2 (v := some (vr x_3)) (c_X11_slotNumbered hl  hc_1) rfl rfl ly_32 rfl (Nat.le_of_ble_eq_true rfl) (Nat.le_of_ble_eq_true rfl) (Nat.le_of_ble_eq_true rfl) (Nat.le_of_ble_eq_true rfl) ?_
    refine z_st (st' := [vr x_3]) rfl ?_
    obtain ⟨hs_6, H⟩ := ck_e H
    refine z_astore_n (M := M_X11_count) (lv' := [some (vr 32), some (vi slot_0), some (vi what_0), some (vr x_3)]) dX11_count_5 (Nat.le_of_ble_eq_true rfl) rfl rfl ?_
    refine z_iload_n (M := M_X11_count) dX11_count_6 rfl ?_
    rcases if_e H with ⟨h_7, H⟩ | ⟨h_7, H⟩
    · refine z_tabIn (M := M_X11_count) (tgt := 44) (off := 37) dX11_count_7 h_7 (by decide) (by decide) rfl (by decide) ?_
      refine z_aload_n (M := M_X11_count) dX11_count_44 rfl ?_
      refine z_getI (M := M_X11_count) (ci := 9) (C := RX6) (T := TX6) (Nf := 5) (ty := tyX6) cl9 dX11_count_45 (ly_S hs_6) 3 (by decide) t_79 rfl rfl ?_
      cases H
      exact z_iret (M := M_X11_count) dX11_count_48 rfl (Nat.le_of_ble_eq_true rfl) (Nat.le_of_ble_eq_true rfl) ⟨rfl, rfl⟩
    · rcases if_e H with ⟨h_8, H⟩ | ⟨h_8, H⟩
      · refine z_tabIn (M := M_X11_count) (tgt := 49) (off := 42) dX11_count_7 h_8 (by decide) (by decide) rfl (by decide) ?_
        refine z_aload_n (M := M_X11_count) dX11_count_49 rfl ?_
        refine z_getI (M := M_X11_count) (ci := 9) (C := RX6) (T := TX6) (Nf := 5) (ty := tyX6) cl9 dX11_count_50 (ly_S hs_6) 4 (by decide) t_85 rfl rfl ?_
        cases H
        exact z_iret (M := M_X11_count) dX11_count_53 rfl (Nat.le_of_ble_eq_true rfl) (Nat.le_of_ble_eq_true rfl) ⟨rfl, rfl⟩
      · rcases if_e H with ⟨h_9, H⟩ | ⟨h_9, H⟩
        · refine z_tabIn (M := M_X11_count) (tgt := 54) (off := 47) dX11_count_7 h_9 (by decide) (by decide) rfl (by decide) ?_
          refine z_aload_n (M := M_X11_count) dX11_count_54 rfl ?_
          refine z_getI (M := M_X11_count) (ci := 14) (C := RX11) (T := TX11) (Nf := 19) (ty := tyX11) cl14 dX11_count_55 ly_32 3 (by decide) t_566 rfl rfl ?_
          cases H
          exact z_iret (M := M_X11_count) dX11_count_58 rfl (Nat.le_of_ble_eq_true rfl) (Nat.le_of_ble_eq_true rfl) ⟨rfl, rfl⟩
        · rcases if_e H with ⟨h_10, H⟩ | ⟨h_10, H⟩
          · refine z_tabIn (M := M_X11_count) (tgt := 59) (off := 52) dX11_count_7 h_10 (by decide) (by decide) rfl (by decide) ?_
            refine z_aload_n (M := M_X11_count) dX11_count_59 rfl ?_
            refine z_getR (M := M_X11_count) (ci := 14) (C := RX11) (T := TX11) (Nf := 19) (ty := tyX11) cl14 dX11_count_60 ly_32 8 (by decide) t_571 rfl ?_
            refine z_getI (M := M_X11_count) (ci := 13) (C := RX10) (T := TX10) (Nf := 6) (ty := tyX10) cl13 dX11_count_63 ly_173 5 (by decide) t_208 rfl rfl ?_
            cases H
            exact z_iret (M := M_X11_count) dX11_count_66 rfl (Nat.le_of_ble_eq_true rfl) (Nat.le_of_ble_eq_true rfl) ⟨rfl, rfl⟩
          · rcases if_e H with ⟨h_11, H⟩ | ⟨h_11, H⟩
            · refine z_tabIn (M := M_X11_count) (tgt := 67) (off := 60) dX11_count_7 h_11 (by decide) (by decide) rfl (by decide) ?_
              refine z_aload_n (M := M_X11_count) dX11_count_67 rfl ?_
              obtain ⟨x_13, hc_12, H⟩ := bd_e H
              refine z_callV (M := M_X11_count) (M' := M_X11_slotsWithShapes) (as := []) (rest := []) rfl rfl dX11_count_68 m_X11_slotsWithShapes t_2298 t_2300 s_147 (c_X11_slotsWithShapes hl  hc_12) rfl rfl ly_32 rfl (Nat.le_of_ble_eq_true rfl) (Nat.le_of_ble_eq_true rfl) (Nat.le_of_ble_eq_true rfl) (Nat.le_of_ble_eq_true rfl) ?_
              refine z_st (st' := [vi x_13]) rfl ?_
              cases H
              exact z_iret (M := M_X11_count) dX11_count_71 rfl (Nat.le_of_ble_eq_true rfl) (Nat.le_of_ble_eq_true rfl) ⟨rfl, rfl⟩
            · rcases if_e H with ⟨h_14, H⟩ | ⟨h_14, H⟩
              · refine z_tabIn (M := M_X11_count) (tgt := 72) (off := 65) dX11_count_7 h_14 (by decide) (by decide) rfl (by decide) ?_
                refine z_aload_n (M := M_X11_count) dX11_count_72 rfl ?_
                refine z_getI (M := M_X11_count) (ci := 14) (C := RX11) (T := TX11) (Nf := 19) (ty := tyX11) cl14 dX11_count_73 ly_32 18 (by decide) t_581 rfl rfl ?_
                cases H
                exact z_iret (M := M_X11_count) dX11_count_76 rfl (Nat.le_of_ble_eq_true rfl) (Nat.le_of_ble_eq_true rfl) ⟨rfl, rfl⟩
              · refine z_tabOut (M := M_X11_count) (tgt := 77) dX11_count_7 rfl (by omega) (by decide) ?_
                cases H
                exact z_throw (M := M_X11_count) (names := en_nm) rfl dX11_count_77 dX11_count_80 dX11_count_81 dX11_count_84 (by decide +kernel) en_nm_ok (Or.inl t_748) (Or.inl t_22) at_X11_IndexOutOfBoundsException_139 (Nat.le_of_ble_eq_true rfl) (Nat.le_of_ble_eq_true rfl) (Nat.le_of_ble_eq_true rfl) (Nat.le_of_ble_eq_true rfl) ⟨rfl, rfl⟩
  · have H := K_5 _ rfl
    cases H
    exact z_callVX (M := M_X11_count) (M' := M_X11_slotNumbered) (as := [vi slot_0]) (rest := []) rfl rfl dX11_count_2 m_X11_slotNumbered t_744 t_746 s_2 (e := z_15) (c_X11_slotNumbered hl  hc_1) rfl rfl ly_32 rfl (Nat.le_of_ble_eq_true rfl) (Nat.le_of_ble_eq_true rfl) (Nat.le_of_ble_eq_true rfl) (Nat.le_of_ble_eq_true rfl) ⟨rfl, rfl⟩
theorem c_J7_fill_53178 (hl : l.stackTraces = false) {σ : SG} {a_0 : Nat} {a_n : Nat} {val_0 : Int} {σ' : SG} (h_a : lay a_0 = some (.inr (0, a_n, 0, 0))) (H : fU_fillI σ a_0 a_n val_0 = some σ') : en_S l E M_J7_fill_53178 1 0 0 [vr a_0, vi val_0] σ (pS (none) σ') := by
  unfold fU_fillI at H
  refine z_mk (lv := [some (vr a_0), some (vi val_0), none, none]) m_J7_fill_53178 rfl hl (Nat.le_of_ble_eq_true rfl) rfl ?_
  refine z_iconst (M := M_J7_fill_53178) dJ7_fill_53178_0 ?_
  refine z_istore_n (M := M_J7_fill_53178) (lv' := [some (vr a_0), some (vi val_0), some (vi 0), none]) dJ7_fill_53178_1 (Nat.le_of_ble_eq_true rfl) rfl rfl ?_
  refine z_aload_n (M := M_J7_fill_53178) dJ7_fill_53178_2 rfl ?_
  refine z_alen (M := M_J7_fill_53178) (N := (a_n : Int)) dJ7_fill_53178_3 h_a (by decide) rfl ?_
  refine z_istore_n (M := M_J7_fill_53178) (lv' := [some (vr a_0), some (vi val_0), some (vi 0), some (vi (a_n : Int))]) dJ7_fill_53178_4 (Nat.le_of_ble_eq_true rfl) rfl rfl ?_
  obtain ⟨rl_6, hw_3, hk_4⟩ := bd_e H
  have J_17 : ∀ i_15 σ_16, rl_6 = (i_15, σ_16) → YY l E M_J7_fill_53178 1 0 0 (pS (none) σ') 20 [some (vr a_0), some (vi val_0), some (vi i_15), some (vi (a_n : Int))] [] σ_16 0 0 := by
    intro i_15 σ_16 e
    have H := hk_4
    rw [e] at H
    cases H
    exact z_vret (M := M_J7_fill_53178) dJ7_fill_53178_20 rfl (Nat.le_of_ble_eq_true rfl) (Nat.le_of_ble_eq_true rfl) ⟨rfl, rfl⟩
  refine whl_go hw_3 (fun (i_1, σ_2) => YY l E M_J7_fill_53178 1 0 0 (pS (none) σ') 5 [some (vr a_0), some (vi val_0), some (vi i_1), some (vi (a_n : Int))] [] σ_2 0 0) ?_
  rintro ⟨i_1, σ_2⟩ o_7 H K_8 K_9
  refine z_iload_n (M := M_J7_fill_53178) dJ7_fill_53178_5 rfl ?_
  refine z_iload_n (M := M_J7_fill_53178) dJ7_fill_53178_6 rfl ?_
  rcases if_e H with ⟨h_10, H⟩ | ⟨h_10, H⟩
  · refine z_icmp_ge_f (M := M_J7_fill_53178) (tgt := 20) dJ7_fill_53178_7 (by decide) rfl rfl h_10 ?_
    refine z_aload_n (M := M_J7_fill_53178) dJ7_fill_53178_10 rfl ?_
    refine z_iload_n (M := M_J7_fill_53178) dJ7_fill_53178_11 rfl ?_
    refine z_iload_n (M := M_J7_fill_53178) dJ7_fill_53178_12 rfl ?_
    obtain ⟨σ_11, σ_11_e, hi_12, H⟩ := wa_e H
    refine z_iast (M := M_J7_fill_53178) dJ7_fill_53178_13 h_a rfl rfl rfl hi_12 σ_11_e ?_
    refine z_iinc (M := M_J7_fill_53178) (lv' := [some (vr a_0), some (vi val_0), some (vi (i_1 + 1)), some (vi (a_n : Int))]) dJ7_fill_53178_14 rfl (Nat.le_of_ble_eq_true rfl) rfl rfl ?_
    refine z_goto (M := M_J7_fill_53178) (tgt := 5) dJ7_fill_53178_17 (by decide) ?_
    exact K_8 _ (Option.some.inj H).symm
  · refine z_icmp_ge_t (M := M_J7_fill_53178) (tgt := 20) dJ7_fill_53178_7 (by decide) rfl rfl (Int.not_lt.mp h_10) ?_
    exact J_17 _ _ (K_9 _ (Option.some.inj H).symm).symm
theorem c_X1_isEmpty (hl : l.stackTraces = false) {σ : SG} {part_0 : Int} {r : Bool}  (H : fJ_isEmpty σ part_0 = some r) : en_S l E M_X1_isEmpty 1 0 0 [vr 177, vi part_0] σ (pS (some (zv r)) σ) := by
  unfold fJ_isEmpty at H
  refine z_mk (lv := [some (vr 177), some (vi part_0)]) m_X1_isEmpty rfl hl (Nat.le_of_ble_eq_true rfl) rfl ?_
  obtain ⟨v_9, he_10, hk_11⟩ := bd_e H
  have J_12 : ∀ x_8, v_9 = x_8 → YY l E M_X1_isEmpty 1 0 0 (pS (some (zv r)) σ) 20 [some (vr 177), some (vi part_0)] [zv x_8] σ 0 0 := by
    intro x_8 e
    have H := hk_11
    rw [e] at H
    cases H
    exact z_zret (M := M_X1_isEmpty) dX1_isEmpty_20 rfl (Nat.le_of_ble_eq_true rfl) (Nat.le_of_ble_eq_true rfl) ⟨rfl, rfl⟩
  have H := he_10
  refine z_aload_n (M := M_X1_isEmpty) dX1_isEmpty_0 rfl ?_
  refine z_getR (M := M_X1_isEmpty) (ci := 4) (C := RX1) (T := TX1) (Nf := 11) (ty := tyX1) cl4 dX1_isEmpty_1 ly_177 8 (by decide) t_293 rfl ?_
  refine z_iload_n (M := M_X1_isEmpty) dX1_isEmpty_4 rfl ?_
  obtain ⟨x_1, x_1_e, hi_2, H⟩ := rd_e H
  refine z_iald (M := M_X1_isEmpty) dX1_isEmpty_5 ly_190 rfl rfl rfl hi_2 x_1_e ?_
  refine z_aload_n (M := M_X1_isEmpty) dX1_isEmpty_6 rfl ?_
  refine z_getR (M := M_X1_isEmpty) (ci := 4) (C := RX1) (T := TX1) (Nf := 11) (ty := tyX1) cl4 dX1_isEmpty_7 ly_177 9 (by decide) t_294 rfl ?_
  refine z_iload_n (M := M_X1_isEmpty) dX1_isEmpty_10 rfl ?_
  obtain ⟨x_3, x_3_e, hi_4, H⟩ := rd_e H
  refine z_iald (M := M_X1_isEmpty) dX1_isEmpty_11 ly_191 rfl rfl rfl hi_4 x_3_e ?_
  rcases if_e H with ⟨h_5, H⟩ | ⟨h_5, H⟩
  · refine z_icmp_lt_f (M := M_X1_isEmpty) (tgt := 19) dX1_isEmpty_12 (by decide) rfl rfl h_5 ?_
    refine z_zconst (M := M_X1_isEmpty) (b := true) dX1_isEmpty_15 rfl ?_
    refine z_goto (M := M_X1_isEmpty) (tgt := 20) dX1_isEmpty_16 (by decide) ?_
    exact J_12 _ (Option.some.inj H).symm
  · refine z_icmp_lt_t (M := M_X1_isEmpty) (tgt := 19) dX1_isEmpty_12 (by decide) rfl rfl (Int.not_le.mp h_5) ?_
    refine z_zconst (M := M_X1_isEmpty) (b := false) dX1_isEmpty_19 rfl ?_
    exact J_12 _ (Option.some.inj H).symm
theorem c_J13_compare_74951 (hl : l.stackTraces = false) {σ : SG} {x_0 : Int} {y_0 : Int} {r : Int}  (H : fL_compare x_0 y_0 = r) : en_S l E M_J13_compare_74951 1 0 0 [vl x_0, vl y_0] σ (pS (some (vi r)) σ) := by
  unfold fL_compare at H
  refine z_mk (lv := [some (vl x_0), none, some (vl y_0), none]) m_J13_compare_74951 rfl hl (Nat.le_of_ble_eq_true rfl) rfl ?_
  have J_3 : YY l E M_J13_compare_74951 1 0 0 (pS (some (vi r)) σ) 21 [some (vl x_0), none, some (vl y_0), none] [vi (if (w64 x_0) < (w64 y_0) then (-1) else (if (w64 x_0) = (w64 y_0) then 0 else 1))] σ 0 0 := by
    cases H
    exact z_iret (M := M_J13_compare_74951) dJ13_compare_74951_21 rfl (Nat.le_of_ble_eq_true rfl) (Nat.le_of_ble_eq_true rfl) ⟨rfl, rfl⟩
  refine z_lload_n (M := M_J13_compare_74951) dJ13_compare_74951_0 rfl ?_
  refine z_lload_n (M := M_J13_compare_74951) dJ13_compare_74951_1 rfl ?_
  refine z_lcmp (M := M_J13_compare_74951) dJ13_compare_74951_2 ?_
  by_cases h_4 : (w64 x_0) < (w64 y_0)
  · refine z_lif_ge_f (M := M_J13_compare_74951) (tgt := 10) dJ13_compare_74951_3 (by decide) rfl rfl h_4 ?_
    refine z_iconst (M := M_J13_compare_74951) dJ13_compare_74951_6 ?_
    refine z_goto (M := M_J13_compare_74951) (tgt := 21) dJ13_compare_74951_7 (by decide) ?_
    exact z_st (by rw [if_pos (c := (w64 x_0) < (w64 y_0)) h_4]) J_3
  · refine z_lif_ge_t (M := M_J13_compare_74951) (tgt := 10) dJ13_compare_74951_3 (by decide) rfl rfl (Int.not_lt.mp h_4) ?_
    have J_5 : YY l E M_J13_compare_74951 1 0 0 (pS (some (vi r)) σ) 21 [some (vl x_0), none, some (vl y_0), none] [vi (if (w64 x_0) = (w64 y_0) then 0 else 1)] σ 0 0 := by
      exact z_st (by rw [if_neg (c := (w64 x_0) < (w64 y_0)) h_4]) J_3
    refine z_lload_n (M := M_J13_compare_74951) dJ13_compare_74951_10 rfl ?_
    refine z_lload_n (M := M_J13_compare_74951) dJ13_compare_74951_11 rfl ?_
    refine z_lcmp (M := M_J13_compare_74951) dJ13_compare_74951_12 ?_
    by_cases h_6 : (w64 x_0) = (w64 y_0)
    · refine z_lif_ne_f (M := M_J13_compare_74951) (tgt := 20) dJ13_compare_74951_13 (by decide) rfl rfl h_6 ?_
      refine z_iconst (M := M_J13_compare_74951) dJ13_compare_74951_16 ?_
      refine z_goto (M := M_J13_compare_74951) (tgt := 21) dJ13_compare_74951_17 (by decide) ?_
      exact z_st (by rw [if_pos (c := (w64 x_0) = (w64 y_0)) h_6]) J_5
    · refine z_lif_ne_t (M := M_J13_compare_74951) (tgt := 20) dJ13_compare_74951_13 (by decide) rfl rfl h_6 ?_
      refine z_iconst (M := M_J13_compare_74951) dJ13_compare_74951_20 ?_
      exact z_st (by rw [if_neg (c := (w64 x_0) = (w64 y_0)) h_6]) J_5
theorem c_X11_turnOf (hl : l.stackTraces = false) {σ : SG} {ax_0 : Int} {ay_0 : Int} {bx_0 : Int} {by_0 : Int} {cx_0 : Int} {cy_0 : Int} {r : Int}  (H : fQ_turnOf ax_0 ay_0 bx_0 by_0 cx_0 cy_0 = r) : en_S l E M_X11_turnOf 2 0 0 [vl ax_0, vl ay_0, vl bx_0, vl by_0, vl cx_0, vl cy_0] σ (pS (some (vi r)) σ) := by
  unfold fQ_turnOf at H
  refine z_mk (lv := [some (vl ax_0), none, some (vl ay_0), none, some (vl bx_0), none, some (vl by_0), none, some (vl cx_0), none, some (vl cy_0), none]) m_X11_turnOf rfl hl (Nat.le_of_ble_eq_true rfl) rfl ?_
  refine z_lload (M := M_X11_turnOf) dX11_turnOf_0 rfl ?_
  refine z_lload_n (M := M_X11_turnOf) dX11_turnOf_2 rfl ?_
  refine z_lsub (M := M_X11_turnOf) dX11_turnOf_3 ?_
  refine z_lload (M := M_X11_turnOf) dX11_turnOf_4 rfl ?_
  refine z_lload_n (M := M_X11_turnOf) dX11_turnOf_6 rfl ?_
  refine z_lsub (M := M_X11_turnOf) dX11_turnOf_7 ?_
  refine z_lmul (M := M_X11_turnOf) dX11_turnOf_8 ?_
  refine z_lload (M := M_X11_turnOf) dX11_turnOf_9 rfl ?_
  refine z_lload_n (M := M_X11_turnOf) dX11_turnOf_11 rfl ?_
  refine z_lsub (M := M_X11_turnOf) dX11_turnOf_12 ?_
  refine z_lload (M := M_X11_turnOf) dX11_turnOf_13 rfl ?_
  refine z_lload_n (M := M_X11_turnOf) dX11_turnOf_15 rfl ?_
  refine z_lsub (M := M_X11_turnOf) dX11_turnOf_16 ?_
  refine z_lmul (M := M_X11_turnOf) dX11_turnOf_17 ?_
  refine z_callS (M := M_X11_turnOf) (M' := M_J13_compare_74951) (as := [vl ((bx_0 - ax_0) * (cy_0 - ay_0)), vl ((by_0 - ay_0) * (cx_0 - ax_0))]) (rest := []) rfl rfl dX11_turnOf_18 m_J13_compare_74951 t_1267 t_1268 (c_J13_compare_74951 hl  rfl) rfl rfl (Nat.le_of_ble_eq_true rfl) (Nat.le_of_ble_eq_true rfl) (Nat.le_of_ble_eq_true rfl) (Nat.le_of_ble_eq_true rfl) ?_
  refine z_st (st' := [vi (fL_compare ((bx_0 - ax_0) * (cy_0 - ay_0)) ((by_0 - ay_0) * (cx_0 - ax_0)))]) rfl ?_
  cases H
  exact z_iret (M := M_X11_turnOf) dX11_turnOf_21 rfl (Nat.le_of_ble_eq_true rfl) (Nat.le_of_ble_eq_true rfl) ⟨rfl, rfl⟩
theorem c_X5_turn (hl : l.stackTraces = false) {σ : SG} {this_0 : Nat} {i_0 : Int} {x_0 : Int} {y_0 : Int} {r : Int} (h_this : isG this_0) (H : fE_turn σ this_0 i_0 x_0 y_0 = some r) : en_S l E M_X5_turn 3 0 0 [vr this_0, vi i_0, vi x_0, vi y_0] σ (pS (some (vi r)) σ) := by
  unfold fE_turn at H
  refine z_mk (lv := [some (vr this_0), some (vi i_0), some (vi x_0), some (vi y_0)]) m_X5_turn rfl hl (Nat.le_of_ble_eq_true rfl) rfl ?_
  refine z_aload_n (M := M_X5_turn) dX5_turn_0 rfl ?_
  refine z_getR (M := M_X5_turn) (ci := 8) (C := RX5) (T := TX5) (Nf := 8) (ty := tyX5) cl8 dX5_turn_1 (ly_G h_this) 0 (by decide) t_234 rfl ?_
  refine z_iload_n (M := M_X5_turn) dX5_turn_4 rfl ?_
  obtain ⟨x_1, x_1_e, hi_2, H⟩ := rd_e H
  refine z_iald (M := M_X5_turn) dX5_turn_5 (ly_Gi (k := 1) h_this (by decide) (by decide)) rfl rfl rfl hi_2 x_1_e ?_
  refine z_i2l (M := M_X5_turn) dX5_turn_6 ?_
  refine z_aload_n (M := M_X5_turn) dX5_turn_7 rfl ?_
  refine z_getR (M := M_X5_turn) (ci := 8) (C := RX5) (T := TX5) (Nf := 8) (ty := tyX5) cl8 dX5_turn_8 (ly_G h_this) 1 (by decide) t_238 rfl ?_
  refine z_iload_n (M := M_X5_turn) dX5_turn_11 rfl ?_
  obtain ⟨x_3, x_3_e, hi_4, H⟩ := rd_e H
  refine z_iald (M := M_X5_turn) dX5_turn_12 (ly_Gi (k := 2) h_this (by decide) (by decide)) rfl rfl rfl hi_4 x_3_e ?_
  refine z_i2l (M := M_X5_turn) dX5_turn_13 ?_
  refine z_aload_n (M := M_X5_turn) dX5_turn_14 rfl ?_
  refine z_getR (M := M_X5_turn) (ci := 8) (C := RX5) (T := TX5) (Nf := 8) (ty := tyX5) cl8 dX5_turn_15 (ly_G h_this) 2 (by decide) t_242 rfl ?_
  refine z_iload_n (M := M_X5_turn) dX5_turn_18 rfl ?_
  obtain ⟨x_5, x_5_e, hi_6, H⟩ := rd_e H
  refine z_iald (M := M_X5_turn) dX5_turn_19 (ly_Gi (k := 3) h_this (by decide) (by decide)) rfl rfl rfl hi_6 x_5_e ?_
  refine z_i2l (M := M_X5_turn) dX5_turn_20 ?_
  refine z_aload_n (M := M_X5_turn) dX5_turn_21 rfl ?_
  refine z_getR (M := M_X5_turn) (ci := 8) (C := RX5) (T := TX5) (Nf := 8) (ty := tyX5) cl8 dX5_turn_22 (ly_G h_this) 3 (by decide) t_246 rfl ?_
  refine z_iload_n (M := M_X5_turn) dX5_turn_25 rfl ?_
  obtain ⟨x_7, x_7_e, hi_8, H⟩ := rd_e H
  refine z_iald (M := M_X5_turn) dX5_turn_26 (ly_Gi (k := 4) h_this (by decide) (by decide)) rfl rfl rfl hi_8 x_7_e ?_
  refine z_i2l (M := M_X5_turn) dX5_turn_27 ?_
  refine z_iload_n (M := M_X5_turn) dX5_turn_28 rfl ?_
  refine z_i2l (M := M_X5_turn) dX5_turn_29 ?_
  refine z_iload_n (M := M_X5_turn) dX5_turn_30 rfl ?_
  refine z_i2l (M := M_X5_turn) dX5_turn_31 ?_
  refine z_callSN (M := M_X5_turn) (M' := M_X11_turnOf) (as := [vl (w32 x_1), vl (w32 x_3), vl (w32 x_5), vl (w32 x_7), vl (w32 x_0), vl (w32 y_0)]) (rest := []) rfl rfl dX5_turn_32 m_X11_turnOf n_1264 t_1265 (c_X11_turnOf hl  rfl) rfl rfl (Nat.le_of_ble_eq_true rfl) (Nat.le_of_ble_eq_true rfl) (Nat.le_of_ble_eq_true rfl) (Nat.le_of_ble_eq_true rfl) ?_
  refine z_st (st' := [vi (fQ_turnOf (w32 x_1) (w32 x_3) (w32 x_5) (w32 x_7) (w32 x_0) (w32 y_0))]) rfl ?_
  cases H
  exact z_iret (M := M_X5_turn) dX5_turn_35 rfl (Nat.le_of_ble_eq_true rfl) (Nat.le_of_ble_eq_true rfl) ⟨rfl, rfl⟩
theorem c_X1_isInsideBehindBegin (hl : l.stackTraces = false) {σ : SG} {ring_0 : Int} {i_0 : Int} {r : Bool}  (H : fJ_isInsideBehindBegin σ ring_0 i_0 = some r) : en_S l E M_X1_isInsideBehindBegin 4 0 0 [vr 177, vi ring_0, vi i_0] σ (pS (some (zv r)) σ) := by
  unfold fJ_isInsideBehindBegin at H
  refine z_mk (lv := [some (vr 177), some (vi ring_0), some (vi i_0), none, none, none, none, none, none, none, none, none, none, none]) m_X1_isInsideBehindBegin rfl hl (Nat.le_of_ble_eq_true rfl) rfl ?_
  refine z_aload_n (M := M_X1_isInsideBehindBegin) dX1_isInsideBehindBegin_0 rfl ?_
  refine z_getR (M := M_X1_isInsideBehindBegin) (ci := 4) (C := RX1) (T := TX1) (Nf := 11) (ty := tyX1) cl4 dX1_isInsideBehindBegin_1 ly_177 1 (by decide) t_286 rfl ?_
  refine z_getR (M := M_X1_isInsideBehindBegin) (ci := 8) (C := RX5) (T := TX5) (Nf := 8) (ty := tyX5) cl8 dX1_isInsideBehindBegin_4 (ly_G (by decide)) 0 (by decide) t_237 rfl ?_
  refine z_iload_n (M := M_X1_isInsideBehindBegin) dX1_isInsideBehindBegin_7 rfl ?_
  obtain ⟨x_1, x_1_e, hi_2, H⟩ := rd_e H
  refine z_iald (M := M_X1_isInsideBehindBegin) dX1_isInsideBehindBegin_8 ly_180 rfl rfl rfl hi_2 x_1_e ?_
  refine z_istore_n (M := M_X1_isInsideBehindBegin) (lv' := [some (vr 177), some (vi ring_0), some (vi i_0), some (vi x_1), none, none, none, none, none, none, none, none, none, none]) dX1_isInsideBehindBegin_9 (Nat.le_of_ble_eq_true rfl) rfl rfl ?_
  refine z_aload_n (M := M_X1_isInsideBehindBegin) dX1_isInsideBehindBegin_10 rfl ?_
  refine z_getR (M := M_X1_isInsideBehindBegin) (ci := 4) (C := RX1) (T := TX1) (Nf := 11) (ty := tyX1) cl4 dX1_isInsideBehindBegin_11 ly_177 1 (by decide) t_286 rfl ?_
  refine z_getR (M := M_X1_isInsideBehindBegin) (ci := 8) (C := RX5) (T := TX5) (Nf := 8) (ty := tyX5) cl8 dX1_isInsideBehindBegin_14 (ly_G (by decide)) 1 (by decide) t_241 rfl ?_
  refine z_iload_n (M := M_X1_isInsideBehindBegin) dX1_isInsideBehindBegin_17 rfl ?_
  obtain ⟨x_3, x_3_e, hi_4, H⟩ := rd_e H
  refine z_iald (M := M_X1_isInsideBehindBegin) dX1_isInsideBehindBegin_18 ly_181 rfl rfl rfl hi_4 x_3_e ?_
  refine z_istore (M := M_X1_isInsideBehindBegin) (lv' := [some (vr 177), some (vi ring_0), some (vi i_0), some (vi x_1), some (vi x_3), none, none, none, none, none, none, none, none, none]) dX1_isInsideBehindBegin_19 (Nat.le_of_ble_eq_true rfl) rfl rfl ?_
  refine z_aload_n (M := M_X1_isInsideBehindBegin) dX1_isInsideBehindBegin_21 rfl ?_
  refine z_getR (M := M_X1_isInsideBehindBegin) (ci := 4) (C := RX1) (T := TX1) (Nf := 11) (ty := tyX1) cl4 dX1_isInsideBehindBegin_22 ly_177 1 (by decide) t_286 rfl ?_
  refine z_getR (M := M_X1_isInsideBehindBegin) (ci := 8) (C := RX5) (T := TX5) (Nf := 8) (ty := tyX5) cl8 dX1_isInsideBehindBegin_25 (ly_G (by decide)) 2 (by decide) t_245 rfl ?_
  refine z_iload_n (M := M_X1_isInsideBehindBegin) dX1_isInsideBehindBegin_28 rfl ?_
  obtain ⟨x_5, x_5_e, hi_6, H⟩ := rd_e H
  refine z_iald (M := M_X1_isInsideBehindBegin) dX1_isInsideBehindBegin_29 ly_182 rfl rfl rfl hi_6 x_5_e ?_
  refine z_i2l (M := M_X1_isInsideBehindBegin) dX1_isInsideBehindBegin_30 ?_
  refine z_iload_n (M := M_X1_isInsideBehindBegin) dX1_isInsideBehindBegin_31 rfl ?_
  refine z_i2l (M := M_X1_isInsideBehindBegin) dX1_isInsideBehindBegin_32 ?_
  refine z_lsub (M := M_X1_isInsideBehindBegin) dX1_isInsideBehindBegin_33 ?_
  refine z_lstore (M := M_X1_isInsideBehindBegin) (lv' := [some (vr 177), some (vi ring_0), some (vi i_0), some (vi x_1), some (vi x_3), some (vl ((w32 x_5) - (w32 x_1))), none, none, none, none, none, none, none, none]) dX1_isInsideBehindBegin_34 (Nat.le_of_ble_eq_true rfl) rfl rfl ?_
  refine z_aload_n (M := M_X1_isInsideBehindBegin) dX1_isInsideBehindBegin_36 rfl ?_
  refine z_getR (M := M_X1_isInsideBehindBegin) (ci := 4) (C := RX1) (T := TX1) (Nf := 11) (ty := tyX1) cl4 dX1_isInsideBehindBegin_37 ly_177 1 (by decide) t_286 rfl ?_
  refine z_getR (M := M_X1_isInsideBehindBegin) (ci := 8) (C := RX5) (T := TX5) (Nf := 8) (ty := tyX5) cl8 dX1_isInsideBehindBegin_40 (ly_G (by decide)) 3 (by decide) t_249 rfl ?_
  refine z_iload_n (M := M_X1_isInsideBehindBegin) dX1_isInsideBehindBegin_43 rfl ?_
  obtain ⟨x_7, x_7_e, hi_8, H⟩ := rd_e H
  refine z_iald (M := M_X1_isInsideBehindBegin) dX1_isInsideBehindBegin_44 ly_183 rfl rfl rfl hi_8 x_7_e ?_
  refine z_i2l (M := M_X1_isInsideBehindBegin) dX1_isInsideBehindBegin_45 ?_
  refine z_iload (M := M_X1_isInsideBehindBegin) dX1_isInsideBehindBegin_46 rfl ?_
  refine z_i2l (M := M_X1_isInsideBehindBegin) dX1_isInsideBehindBegin_48 ?_
  refine z_lsub (M := M_X1_isInsideBehindBegin) dX1_isInsideBehindBegin_49 ?_
  refine z_lstore (M := M_X1_isInsideBehindBegin) (lv' := [some (vr 177), some (vi ring_0), some (vi i_0), some (vi x_1), some (vi x_3), some (vl ((w32 x_5) - (w32 x_1))), none, some (vl ((w32 x_7) - (w32 x_3))), none, none, none, none, none, none]) dX1_isInsideBehindBegin_50 (Nat.le_of_ble_eq_true rfl) rfl rfl ?_
  refine z_zconst (M := M_X1_isInsideBehindBegin) (b := false) dX1_isInsideBehindBegin_52 rfl ?_
  refine z_zstore (M := M_X1_isInsideBehindBegin) (lv' := [some (vr 177), some (vi ring_0), some (vi i_0), some (vi x_1), some (vi x_3), some (vl ((w32 x_5) - (w32 x_1))), none, some (vl ((w32 x_7) - (w32 x_3))), none, some (zv false), none, none, none, none]) dX1_isInsideBehindBegin_53 (Nat.le_of_ble_eq_true rfl) rfl rfl ?_
  refine z_aload_n (M := M_X1_isInsideBehindBegin) dX1_isInsideBehindBegin_55 rfl ?_
  refine z_getR (M := M_X1_isInsideBehindBegin) (ci := 4) (C := RX1) (T := TX1) (Nf := 11) (ty := tyX1) cl4 dX1_isInsideBehindBegin_56 ly_177 5 (by decide) t_290 rfl ?_
  refine z_iload_n (M := M_X1_isInsideBehindBegin) dX1_isInsideBehindBegin_59 rfl ?_
  obtain ⟨x_9, x_9_e, hi_10, H⟩ := rd_e H
  refine z_iald (M := M_X1_isInsideBehindBegin) dX1_isInsideBehindBegin_60 ly_188 rfl rfl rfl hi_10 x_9_e ?_
  refine z_istore (M := M_X1_isInsideBehindBegin) (lv' := [some (vr 177), some (vi ring_0), some (vi i_0), some (vi x_1), some (vi x_3), some (vl ((w32 x_5) - (w32 x_1))), none, some (vl ((w32 x_7) - (w32 x_3))), none, some (zv false), some (vi x_9), none, none, none]) dX1_isInsideBehindBegin_61 (Nat.le_of_ble_eq_true rfl) rfl rfl ?_
  obtain ⟨rl_16, hw_13, hk_14⟩ := bd_e H
  have J_100 : ∀ odd_98 k_99, rl_16 = (odd_98, k_99) → YY l E M_X1_isInsideBehindBegin 4 0 0 (pS (some (zv r)) σ) 284 [some (vr 177), some (vi ring_0), some (vi i_0), some (vi x_1), some (vi x_3), some (vl ((w32 x_5) - (w32 x_1))), none, some (vl ((w32 x_7) - (w32 x_3))), none, some (zv odd_98), some (vi k_99), none, none, none] [] σ 0 0 := by
    intro odd_98 k_99 e
    have H := hk_14
    rw [e] at H
    refine z_zload (M := M_X1_isInsideBehindBegin) dX1_isInsideBehindBegin_284 rfl ?_
    cases H
    exact z_zret (M := M_X1_isInsideBehindBegin) dX1_isInsideBehindBegin_286 rfl (Nat.le_of_ble_eq_true rfl) (Nat.le_of_ble_eq_true rfl) ⟨rfl, rfl⟩
  refine whl_go hw_13 (fun (odd_11, k_12) => YY l E M_X1_isInsideBehindBegin 4 0 0 (pS (some (zv r)) σ) 63 [some (vr 177), some (vi ring_0), some (vi i_0), some (vi x_1), some (vi x_3), some (vl ((w32 x_5) - (w32 x_1))), none, some (vl ((w32 x_7) - (w32 x_3))), none, some (zv odd_11), some (vi k_12), none, none, none] [] σ 0 0) ?_
  rintro ⟨odd_11, k_12⟩ o_17 H K_18 K_19
  refine z_iload (M := M_X1_isInsideBehindBegin) dX1_isInsideBehindBegin_63 rfl ?_
  refine z_aload_n (M := M_X1_isInsideBehindBegin) dX1_isInsideBehindBegin_65 rfl ?_
  refine z_getR (M := M_X1_isInsideBehindBegin) (ci := 4) (C := RX1) (T := TX1) (Nf := 11) (ty := tyX1) cl4 dX1_isInsideBehindBegin_66 ly_177 6 (by decide) t_291 rfl ?_
  refine z_iload_n (M := M_X1_isInsideBehindBegin) dX1_isInsideBehindBegin_69 rfl ?_
  obtain ⟨x_20, x_20_e, hi_21, H⟩ := rd_e H
  refine z_iald (M := M_X1_isInsideBehindBegin) dX1_isInsideBehindBegin_70 ly_189 rfl rfl rfl hi_21 x_20_e ?_
  rcases if_e H with ⟨h_22, H⟩ | ⟨h_22, H⟩
  · refine z_icmp_ge_f (M := M_X1_isInsideBehindBegin) (tgt := 284) dX1_isInsideBehindBegin_71 (by decide) rfl rfl h_22 ?_
    obtain ⟨v_93, he_94, hk_95⟩ := bd_e H
    have J_96 : ∀ x_34, v_93 = x_34 → YY l E M_X1_isInsideBehindBegin 4 0 0 (pS (some (zv r)) σ) 116 [some (vr 177), some (vi ring_0), some (vi i_0), some (vi x_1), some (vi x_3), some (vl ((w32 x_5) - (w32 x_1))), none, some (vl ((w32 x_7) - (w32 x_3))), none, some (zv odd_11), some (vi k_12), none, none, none] [zv x_34] σ 0 0 := by
      intro x_34 e
      have H := hk_95
      rw [e] at H
      refine z_zstore (M := M_X1_isInsideBehindBegin) (lv' := [some (vr 177), some (vi ring_0), some (vi i_0), some (vi x_1), some (vi x_3), some (vl ((w32 x_5) - (w32 x_1))), none, some (vl ((w32 x_7) - (w32 x_3))), none, some (zv odd_11), some (vi k_12), some (zv x_34), none, none]) dX1_isInsideBehindBegin_116 (Nat.le_of_ble_eq_true rfl) rfl rfl ?_
      obtain ⟨v_89, he_90, hk_91⟩ := bd_e H
      have J_92 : ∀ x_46, v_89 = x_46 → YY l E M_X1_isInsideBehindBegin 4 0 0 (pS (some (zv r)) σ) 160 [some (vr 177), some (vi ring_0), some (vi i_0), some (vi x_1), some (vi x_3), some (vl ((w32 x_5) - (w32 x_1))), none, some (vl ((w32 x_7) - (w32 x_3))), none, some (zv odd_11), some (vi k_12), some (zv x_34), none, none] [zv x_46] σ 0 0 := by
        intro x_46 e
        have H := hk_91
        rw [e] at H
        refine z_zstore (M := M_X1_isInsideBehindBegin) (lv' := [some (vr 177), some (vi ring_0), some (vi i_0), some (vi x_1), some (vi x_3), some (vl ((w32 x_5) - (w32 x_1))), none, some (vl ((w32 x_7) - (w32 x_3))), none, some (zv odd_11), some (vi k_12), some (zv x_34), some (zv x_46), none]) dX1_isInsideBehindBegin_160 (Nat.le_of_ble_eq_true rfl) rfl rfl ?_
        refine z_zload (M := M_X1_isInsideBehindBegin) dX1_isInsideBehindBegin_162 rfl ?_
        refine z_zload (M := M_X1_isInsideBehindBegin) dX1_isInsideBehindBegin_164 rfl ?_
        rcases if_e H with ⟨h_47, H⟩ | ⟨h_47, H⟩
        · refine z_cne_f (M := M_X1_isInsideBehindBegin) (tgt := 172) dX1_isInsideBehindBegin_166 (by decide)  h_47 ?_
          refine z_goto (M := M_X1_isInsideBehindBegin) (tgt := 278) dX1_isInsideBehindBegin_169 (by decide) ?_
          refine z_iinc (M := M_X1_isInsideBehindBegin) (lv' := [some (vr 177), some (vi ring_0), some (vi i_0), some (vi x_1), some (vi x_3), some (vl ((w32 x_5) - (w32 x_1))), none, some (vl ((w32 x_7) - (w32 x_3))), none, some (zv odd_11), some (vi (k_12 + 1)), some (zv x_34), some (zv x_46), none]) dX1_isInsideBehindBegin_278 rfl (Nat.le_of_ble_eq_true rfl) rfl rfl ?_
          refine z_goto (M := M_X1_isInsideBehindBegin) (tgt := 63) dX1_isInsideBehindBegin_281 (by decide) ?_
          refine z_le (lv' := [some (vr 177), some (vi ring_0), some (vi i_0), some (vi x_1), some (vi x_3), some (vl ((w32 x_5) - (w32 x_1))), none, some (vl ((w32 x_7) - (w32 x_3))), none, some (zv odd_11), some (vi (k_12 + 1)), none, none, none]) ⟨Or.inr rfl, Or.inr rfl, Or.inr rfl, Or.inr rfl, Or.inr rfl, Or.inr rfl, Or.inl rfl, Or.inr rfl, Or.inl rfl, Or.inr rfl, Or.inr rfl, Or.inl rfl, Or.inl rfl, Or.inl rfl, trivial⟩ ?_
          exact K_18 _ (Option.some.inj H).symm
        · refine z_cne_t (M := M_X1_isInsideBehindBegin) (tgt := 172) dX1_isInsideBehindBegin_166 (by decide)  h_47 ?_
          refine z_aload_n (M := M_X1_isInsideBehindBegin) dX1_isInsideBehindBegin_172 rfl ?_
          refine z_getR (M := M_X1_isInsideBehindBegin) (ci := 4) (C := RX1) (T := TX1) (Nf := 11) (ty := tyX1) cl4 dX1_isInsideBehindBegin_173 ly_177 1 (by decide) t_286 rfl ?_
          refine z_iload (M := M_X1_isInsideBehindBegin) dX1_isInsideBehindBegin_176 rfl ?_
          refine z_iload_n (M := M_X1_isInsideBehindBegin) dX1_isInsideBehindBegin_178 rfl ?_
          refine z_iload (M := M_X1_isInsideBehindBegin) dX1_isInsideBehindBegin_179 rfl ?_
          obtain ⟨x_50, hc_49, H⟩ := bd_e H
          refine z_callV (M := M_X1_isInsideBehindBegin) (M' := M_X5_turn) (as := [vi k_12, vi x_1, vi x_3]) (rest := []) rfl rfl dX1_isInsideBehindBegin_181 m_X5_turn t_1331 t_1261 t_1262 (c_X5_turn hl (by decide) hc_49) rfl rfl (ly_G (by decide)) rfl (Nat.le_of_ble_eq_true rfl) (Nat.le_of_ble_eq_true rfl) (Nat.le_of_ble_eq_true rfl) (Nat.le_of_ble_eq_true rfl) ?_
          refine z_st (st' := [vi x_50]) rfl ?_
          refine z_istore (M := M_X1_isInsideBehindBegin) (lv' := [some (vr 177), some (vi ring_0), some (vi i_0), some (vi x_1), some (vi x_3), some (vl ((w32 x_5) - (w32 x_1))), none, some (vl ((w32 x_7) - (w32 x_3))), none, some (zv odd_11), some (vi k_12), some (zv x_34), some (zv x_46), some (vi x_50)]) dX1_isInsideBehindBegin_184 (Nat.le_of_ble_eq_true rfl) rfl rfl ?_
          obtain ⟨v_54, he_51, hk_52⟩ := bd_e H
          have J_88 : ∀ turn_67, v_54 = turn_67 → YY l E M_X1_isInsideBehindBegin 4 0 0 (pS (some (zv r)) σ) 248 [some (vr 177), some (vi ring_0), some (vi i_0), some (vi x_1), some (vi x_3), some (vl ((w32 x_5) - (w32 x_1))), none, some (vl ((w32 x_7) - (w32 x_3))), none, some (zv odd_11), some (vi k_12), some (zv x_34), some (zv x_46), some (vi turn_67)] [] σ 0 0 := by
            intro turn_67 e
            have H := hk_52
            rw [e] at H
            obtain ⟨v_71, he_68, hk_69⟩ := bd_e H
            have J_87 : ∀ odd_85, v_71 = odd_85 → YY l E M_X1_isInsideBehindBegin 4 0 0 (pS (some (zv r)) σ) 278 [some (vr 177), some (vi ring_0), some (vi i_0), some (vi x_1), some (vi x_3), some (vl ((w32 x_5) - (w32 x_1))), none, some (vl ((w32 x_7) - (w32 x_3))), none, some (zv odd_85), some (vi k_12), some (zv x_34), some (zv x_46), some (vi turn_67)] [] σ 0 0 := by
              intro odd_85 e
              have H := hk_69
              rw [e] at H
              refine z_iinc (M := M_X1_isInsideBehindBegin) (lv' := [some (vr 177), some (vi ring_0), some (vi i_0), some (vi x_1), some (vi x_3), some (vl ((w32 x_5) - (w32 x_1))), none, some (vl ((w32 x_7) - (w32 x_3))), none, some (zv odd_85), some (vi (k_12 + 1)), some (zv x_34), some (zv x_46), some (vi turn_67)]) dX1_isInsideBehindBegin_278 rfl (Nat.le_of_ble_eq_true rfl) rfl rfl ?_
              refine z_goto (M := M_X1_isInsideBehindBegin) (tgt := 63) dX1_isInsideBehindBegin_281 (by decide) ?_
              refine z_le (lv' := [some (vr 177), some (vi ring_0), some (vi i_0), some (vi x_1), some (vi x_3), some (vl ((w32 x_5) - (w32 x_1))), none, some (vl ((w32 x_7) - (w32 x_3))), none, some (zv odd_85), some (vi (k_12 + 1)), none, none, none]) ⟨Or.inr rfl, Or.inr rfl, Or.inr rfl, Or.inr rfl, Or.inr rfl, Or.inr rfl, Or.inl rfl, Or.inr rfl, Or.inl rfl, Or.inr rfl, Or.inr rfl, Or.inl rfl, Or.inl rfl, Or.inl rfl, trivial⟩ ?_
              exact K_18 _ (Option.some.inj H).symm
            have H := he_68
            rcases if_e H with ⟨h_76, H⟩ | ⟨h_76, H⟩
            · have J_77 : YY l E M_X1_isInsideBehindBegin 4 0 0 (pS (some (zv r)) σ) 266 [some (vr 177), some (vi ring_0), some (vi i_0), some (vi x_1), some (vi x_3), some (vl ((w32 x_5) - (w32 x_1))), none, some (vl ((w32 x_7) - (w32 x_3))), none, some (zv odd_11), some (vi k_12), some (zv x_34), some (zv x_46), some (vi turn_67)] [] σ 0 0 := by
                have J_72 : YY l E M_X1_isInsideBehindBegin 4 0 0 (pS (some (zv r)) σ) 276 [some (vr 177), some (vi ring_0), some (vi i_0), some (vi x_1), some (vi x_3), some (vl ((w32 x_5) - (w32 x_1))), none, some (vl ((w32 x_7) - (w32 x_3))), none, some (zv odd_11), some (vi k_12), some (zv x_34), some (zv x_46), some (vi turn_67)] [zv (decide (¬ (odd_11 = true)))] σ 0 0 := by
                  refine z_zstore (M := M_X1_isInsideBehindBegin) (lv' := [some (vr 177), some (vi ring_0), some (vi i_0), some (vi x_1), some (vi x_3), some (vl ((w32 x_5) - (w32 x_1))), none, some (vl ((w32 x_7) - (w32 x_3))), none, some (zv (decide (¬ (odd_11 = true)))), some (vi k_12), some (zv x_34), some (zv x_46), some (vi turn_67)]) dX1_isInsideBehindBegin_276 (Nat.le_of_ble_eq_true rfl) rfl rfl ?_
                  exact J_87 _ (Option.some.inj H).symm
                refine z_zload (M := M_X1_isInsideBehindBegin) dX1_isInsideBehindBegin_266 rfl ?_
                by_cases h_74 : odd_11 = true
                · refine z_zne_t (M := M_X1_isInsideBehindBegin) (tgt := 275) dX1_isInsideBehindBegin_268 (by decide) h_74 ?_
                  refine z_iconst (M := M_X1_isInsideBehindBegin) dX1_isInsideBehindBegin_275 ?_
                  exact z_st (by rw [zv_f (p := ¬ (odd_11 = true)) (not_not_intro h_74)]) J_72
                · refine z_zne_f (M := M_X1_isInsideBehindBegin) (tgt := 275) dX1_isInsideBehindBegin_268 (by decide) h_74 ?_
                  refine z_iconst (M := M_X1_isInsideBehindBegin) dX1_isInsideBehindBegin_271 ?_
                  refine z_goto (M := M_X1_isInsideBehindBegin) (tgt := 276) dX1_isInsideBehindBegin_272 (by decide) ?_
                  exact z_st (by rw [zv_t (p := ¬ (odd_11 = true)) h_74]) J_72
              refine z_zload (M := M_X1_isInsideBehindBegin) dX1_isInsideBehindBegin_248 rfl ?_
              by_cases h_79 : x_46 = true
              · refine z_zeq_f (M := M_X1_isInsideBehindBegin) (tgt := 261) dX1_isInsideBehindBegin_250 (by decide) h_79 ?_
                refine z_iload (M := M_X1_isInsideBehindBegin) dX1_isInsideBehindBegin_253 rfl ?_
                by_cases h_80 : 0 < (w32 turn_67)
                · refine z_if_le_f (M := M_X1_isInsideBehindBegin) (tgt := 278) dX1_isInsideBehindBegin_255 (by decide) rfl h_80 ?_
                  refine z_goto (M := M_X1_isInsideBehindBegin) (tgt := 266) dX1_isInsideBehindBegin_258 (by decide) ?_
                  exact J_77
                · refine z_if_le_t (M := M_X1_isInsideBehindBegin) (tgt := 278) dX1_isInsideBehindBegin_255 (by decide) rfl (Int.not_lt.mp h_80) ?_
                  exact absurd h_76 (fun q => q.elim (fun z => h_80 z.2) (fun z => z.1 h_79))
              · refine z_zeq_t (M := M_X1_isInsideBehindBegin) (tgt := 261) dX1_isInsideBehindBegin_250 (by decide) h_79 ?_
                refine z_iload (M := M_X1_isInsideBehindBegin) dX1_isInsideBehindBegin_261 rfl ?_
                by_cases h_81 : (w32 turn_67) < 0
                · refine z_if_ge_f (M := M_X1_isInsideBehindBegin) (tgt := 278) dX1_isInsideBehindBegin_263 (by decide) rfl h_81 ?_
                  exact J_77
                · refine z_if_ge_t (M := M_X1_isInsideBehindBegin) (tgt := 278) dX1_isInsideBehindBegin_263 (by decide) rfl (Int.not_lt.mp h_81) ?_
                  exact absurd h_76 (fun q => q.elim (fun z => h_79 z.1) (fun z => h_81 z.2))
            · have J_78 : YY l E M_X1_isInsideBehindBegin 4 0 0 (pS (some (zv r)) σ) 278 [some (vr 177), some (vi ring_0), some (vi i_0), some (vi x_1), some (vi x_3), some (vl ((w32 x_5) - (w32 x_1))), none, some (vl ((w32 x_7) - (w32 x_3))), none, some (zv odd_11), some (vi k_12), some (zv x_34), some (zv x_46), some (vi turn_67)] [] σ 0 0 := by
                exact J_87 _ (Option.some.inj H).symm
              refine z_zload (M := M_X1_isInsideBehindBegin) dX1_isInsideBehindBegin_248 rfl ?_
              by_cases h_82 : x_46 = true
              · refine z_zeq_f (M := M_X1_isInsideBehindBegin) (tgt := 261) dX1_isInsideBehindBegin_250 (by decide) h_82 ?_
                refine z_iload (M := M_X1_isInsideBehindBegin) dX1_isInsideBehindBegin_253 rfl ?_
                by_cases h_83 : 0 < (w32 turn_67)
                · refine z_if_le_f (M := M_X1_isInsideBehindBegin) (tgt := 278) dX1_isInsideBehindBegin_255 (by decide) rfl h_83 ?_
                  exact absurd (Or.inl ⟨h_82, h_83⟩) h_76
                · refine z_if_le_t (M := M_X1_isInsideBehindBegin) (tgt := 278) dX1_isInsideBehindBegin_255 (by decide) rfl (Int.not_lt.mp h_83) ?_
                  exact J_78
              · refine z_zeq_t (M := M_X1_isInsideBehindBegin) (tgt := 261) dX1_isInsideBehindBegin_250 (by decide) h_82 ?_
                refine z_iload (M := M_X1_isInsideBehindBegin) dX1_isInsideBehindBegin_261 rfl ?_
                by_cases h_84 : (w32 turn_67) < 0
                · refine z_if_ge_f (M := M_X1_isInsideBehindBegin) (tgt := 278) dX1_isInsideBehindBegin_263 (by decide) rfl h_84 ?_
                  exact absurd (Or.inr ⟨h_82, h_84⟩) h_76
                · refine z_if_ge_t (M := M_X1_isInsideBehindBegin) (tgt := 278) dX1_isInsideBehindBegin_263 (by decide) rfl (Int.not_lt.mp h_84) ?_
                  exact J_78
          have H := he_51
          refine z_iload (M := M_X1_isInsideBehindBegin) dX1_isInsideBehindBegin_186 rfl ?_
          rcases if_e H with ⟨h_55, H⟩ | ⟨h_55, H⟩
          · refine z_if_ne_f (M := M_X1_isInsideBehindBegin) (tgt := 248) dX1_isInsideBehindBegin_188 (by decide) rfl h_55 ?_
            refine z_lconst (M := M_X1_isInsideBehindBegin) (m := 0) dX1_isInsideBehindBegin_191 (by decide +kernel) ?_
            refine z_lconst (M := M_X1_isInsideBehindBegin) (m := 0) dX1_isInsideBehindBegin_192 (by decide +kernel) ?_
            refine z_aload_n (M := M_X1_isInsideBehindBegin) dX1_isInsideBehindBegin_193 rfl ?_
            refine z_getR (M := M_X1_isInsideBehindBegin) (ci := 4) (C := RX1) (T := TX1) (Nf := 11) (ty := tyX1) cl4 dX1_isInsideBehindBegin_194 ly_177 1 (by decide) t_286 rfl ?_
            refine z_getR (M := M_X1_isInsideBehindBegin) (ci := 8) (C := RX5) (T := TX5) (Nf := 8) (ty := tyX5) cl8 dX1_isInsideBehindBegin_197 (ly_G (by decide)) 2 (by decide) t_245 rfl ?_
            refine z_iload (M := M_X1_isInsideBehindBegin) dX1_isInsideBehindBegin_200 rfl ?_
            obtain ⟨x_56, x_56_e, hi_57, H⟩ := rd_e H
            refine z_iald (M := M_X1_isInsideBehindBegin) dX1_isInsideBehindBegin_202 ly_182 rfl rfl rfl hi_57 x_56_e ?_
            refine z_i2l (M := M_X1_isInsideBehindBegin) dX1_isInsideBehindBegin_203 ?_
            refine z_aload_n (M := M_X1_isInsideBehindBegin) dX1_isInsideBehindBegin_204 rfl ?_
            refine z_getR (M := M_X1_isInsideBehindBegin) (ci := 4) (C := RX1) (T := TX1) (Nf := 11) (ty := tyX1) cl4 dX1_isInsideBehindBegin_205 ly_177 1 (by decide) t_286 rfl ?_
            refine z_getR (M := M_X1_isInsideBehindBegin) (ci := 8) (C := RX5) (T := TX5) (Nf := 8) (ty := tyX5) cl8 dX1_isInsideBehindBegin_208 (ly_G (by decide)) 0 (by decide) t_237 rfl ?_
            refine z_iload (M := M_X1_isInsideBehindBegin) dX1_isInsideBehindBegin_211 rfl ?_
            obtain ⟨x_58, x_58_e, hi_59, H⟩ := rd_e H
            refine z_iald (M := M_X1_isInsideBehindBegin) dX1_isInsideBehindBegin_213 ly_180 rfl rfl rfl hi_59 x_58_e ?_
            refine z_i2l (M := M_X1_isInsideBehindBegin) dX1_isInsideBehindBegin_214 ?_
            refine z_lsub (M := M_X1_isInsideBehindBegin) dX1_isInsideBehindBegin_215 ?_
            refine z_aload_n (M := M_X1_isInsideBehindBegin) dX1_isInsideBehindBegin_216 rfl ?_
            refine z_getR (M := M_X1_isInsideBehindBegin) (ci := 4) (C := RX1) (T := TX1) (Nf := 11) (ty := tyX1) cl4 dX1_isInsideBehindBegin_217 ly_177 1 (by decide) t_286 rfl ?_
            refine z_getR (M := M_X1_isInsideBehindBegin) (ci := 8) (C := RX5) (T := TX5) (Nf := 8) (ty := tyX5) cl8 dX1_isInsideBehindBegin_220 (ly_G (by decide)) 3 (by decide) t_249 rfl ?_
            refine z_iload (M := M_X1_isInsideBehindBegin) dX1_isInsideBehindBegin_223 rfl ?_
            obtain ⟨x_60, x_60_e, hi_61, H⟩ := rd_e H
            refine z_iald (M := M_X1_isInsideBehindBegin) dX1_isInsideBehindBegin_225 ly_183 rfl rfl rfl hi_61 x_60_e ?_
            refine z_i2l (M := M_X1_isInsideBehindBegin) dX1_isInsideBehindBegin_226 ?_
            refine z_aload_n (M := M_X1_isInsideBehindBegin) dX1_isInsideBehindBegin_227 rfl ?_
            refine z_getR (M := M_X1_isInsideBehindBegin) (ci := 4) (C := RX1) (T := TX1) (Nf := 11) (ty := tyX1) cl4 dX1_isInsideBehindBegin_228 ly_177 1 (by decide) t_286 rfl ?_
            refine z_getR (M := M_X1_isInsideBehindBegin) (ci := 8) (C := RX5) (T := TX5) (Nf := 8) (ty := tyX5) cl8 dX1_isInsideBehindBegin_231 (ly_G (by decide)) 1 (by decide) t_241 rfl ?_
            refine z_iload (M := M_X1_isInsideBehindBegin) dX1_isInsideBehindBegin_234 rfl ?_
            obtain ⟨x_62, x_62_e, hi_63, H⟩ := rd_e H
            refine z_iald (M := M_X1_isInsideBehindBegin) dX1_isInsideBehindBegin_236 ly_181 rfl rfl rfl hi_63 x_62_e ?_
            refine z_i2l (M := M_X1_isInsideBehindBegin) dX1_isInsideBehindBegin_237 ?_
            refine z_lsub (M := M_X1_isInsideBehindBegin) dX1_isInsideBehindBegin_238 ?_
            refine z_lload (M := M_X1_isInsideBehindBegin) dX1_isInsideBehindBegin_239 rfl ?_
            refine z_lload (M := M_X1_isInsideBehindBegin) dX1_isInsideBehindBegin_241 rfl ?_
            refine z_callSN (M := M_X1_isInsideBehindBegin) (M' := M_X11_turnOf) (as := [vl 0, vl 0, vl ((w32 x_56) - (w32 x_58)), vl ((w32 x_60) - (w32 x_62)), vl ((w32 x_5) - (w32 x_1)), vl ((w32 x_7) - (w32 x_3))]) (rest := []) rfl rfl dX1_isInsideBehindBegin_243 m_X11_turnOf n_1298 t_1265 (c_X11_turnOf hl  rfl) rfl rfl (Nat.le_of_ble_eq_true rfl) (Nat.le_of_ble_eq_true rfl) (Nat.le_of_ble_eq_true rfl) (Nat.le_of_ble_eq_true rfl) ?_
            refine z_st (st' := [vi (fQ_turnOf 0 0 ((w32 x_56) - (w32 x_58)) ((w32 x_60) - (w32 x_62)) ((w32 x_5) - (w32 x_1)) ((w32 x_7) - (w32 x_3)))]) rfl ?_
            obtain ⟨x_64, x_64_e, H⟩ := lt_e H
            refine z_st (congrArg (fun z => vi z :: []) x_64_e) ?_
            refine z_istore (M := M_X1_isInsideBehindBegin) (lv' := [some (vr 177), some (vi ring_0), some (vi i_0), some (vi x_1), some (vi x_3), some (vl ((w32 x_5) - (w32 x_1))), none, some (vl ((w32 x_7) - (w32 x_3))), none, some (zv odd_11), some (vi k_12), some (zv x_34), some (zv x_46), some (vi x_64)]) dX1_isInsideBehindBegin_246 (Nat.le_of_ble_eq_true rfl) rfl rfl ?_
            exact J_88 _ (Option.some.inj H).symm
          · refine z_if_ne_t (M := M_X1_isInsideBehindBegin) (tgt := 248) dX1_isInsideBehindBegin_188 (by decide) rfl h_55 ?_
            exact J_88 _ (Option.some.inj H).symm
      have H := he_90
      refine z_aload_n (M := M_X1_isInsideBehindBegin) dX1_isInsideBehindBegin_118 rfl ?_
      refine z_getR (M := M_X1_isInsideBehindBegin) (ci := 4) (C := RX1) (T := TX1) (Nf := 11) (ty := tyX1) cl4 dX1_isInsideBehindBegin_119 ly_177 1 (by decide) t_286 rfl ?_
      refine z_getR (M := M_X1_isInsideBehindBegin) (ci := 8) (C := RX5) (T := TX5) (Nf := 8) (ty := tyX5) cl8 dX1_isInsideBehindBegin_122 (ly_G (by decide)) 3 (by decide) t_249 rfl ?_
      refine z_iload (M := M_X1_isInsideBehindBegin) dX1_isInsideBehindBegin_125 rfl ?_
      obtain ⟨x_35, x_35_e, hi_36, H⟩ := rd_e H
      refine z_iald (M := M_X1_isInsideBehindBegin) dX1_isInsideBehindBegin_127 ly_183 rfl rfl rfl hi_36 x_35_e ?_
      refine z_iload (M := M_X1_isInsideBehindBegin) dX1_isInsideBehindBegin_128 rfl ?_
      rcases if_e H with ⟨h_37, H⟩ | ⟨h_37, H⟩
      · refine z_icmp_gt_t (M := M_X1_isInsideBehindBegin) (tgt := 155) dX1_isInsideBehindBegin_130 (by decide) rfl rfl h_37 ?_
        refine z_zconst (M := M_X1_isInsideBehindBegin) (b := true) dX1_isInsideBehindBegin_155 rfl ?_
        refine z_goto (M := M_X1_isInsideBehindBegin) (tgt := 160) dX1_isInsideBehindBegin_156 (by decide) ?_
        exact J_92 _ (Option.some.inj H).symm
      · refine z_icmp_gt_f (M := M_X1_isInsideBehindBegin) (tgt := 155) dX1_isInsideBehindBegin_130 (by decide) rfl rfl (Int.not_lt.mp h_37) ?_
        refine z_aload_n (M := M_X1_isInsideBehindBegin) dX1_isInsideBehindBegin_133 rfl ?_
        refine z_getR (M := M_X1_isInsideBehindBegin) (ci := 4) (C := RX1) (T := TX1) (Nf := 11) (ty := tyX1) cl4 dX1_isInsideBehindBegin_134 ly_177 1 (by decide) t_286 rfl ?_
        refine z_getR (M := M_X1_isInsideBehindBegin) (ci := 8) (C := RX5) (T := TX5) (Nf := 8) (ty := tyX5) cl8 dX1_isInsideBehindBegin_137 (ly_G (by decide)) 3 (by decide) t_249 rfl ?_
        refine z_iload (M := M_X1_isInsideBehindBegin) dX1_isInsideBehindBegin_140 rfl ?_
        obtain ⟨x_39, x_39_e, hi_40, H⟩ := rd_e H
        refine z_iald (M := M_X1_isInsideBehindBegin) dX1_isInsideBehindBegin_142 ly_183 rfl rfl rfl hi_40 x_39_e ?_
        refine z_iload (M := M_X1_isInsideBehindBegin) dX1_isInsideBehindBegin_143 rfl ?_
        rcases if_e H with ⟨h_41, H⟩ | ⟨h_41, H⟩
        · refine z_icmp_ne_f (M := M_X1_isInsideBehindBegin) (tgt := 159) dX1_isInsideBehindBegin_145 (by decide) rfl rfl h_41 ?_
          refine z_lload (M := M_X1_isInsideBehindBegin) dX1_isInsideBehindBegin_148 rfl ?_
          refine z_lconst (M := M_X1_isInsideBehindBegin) (m := 0) dX1_isInsideBehindBegin_150 (by decide +kernel) ?_
          refine z_lcmp (M := M_X1_isInsideBehindBegin) dX1_isInsideBehindBegin_151 ?_
          rcases if_e H with ⟨h_42, H⟩ | ⟨h_42, H⟩
          · refine z_lif_ge_f (M := M_X1_isInsideBehindBegin) (tgt := 159) dX1_isInsideBehindBegin_152 (by decide) rfl (by decide +kernel) h_42 ?_
            refine z_zconst (M := M_X1_isInsideBehindBegin) (b := true) dX1_isInsideBehindBegin_155 rfl ?_
            refine z_goto (M := M_X1_isInsideBehindBegin) (tgt := 160) dX1_isInsideBehindBegin_156 (by decide) ?_
            exact J_92 _ (Option.some.inj H).symm
          · refine z_lif_ge_t (M := M_X1_isInsideBehindBegin) (tgt := 159) dX1_isInsideBehindBegin_152 (by decide) rfl (by decide +kernel) (Int.not_lt.mp h_42) ?_
            refine z_zconst (M := M_X1_isInsideBehindBegin) (b := false) dX1_isInsideBehindBegin_159 rfl ?_
            exact J_92 _ (Option.some.inj H).symm
        · refine z_icmp_ne_t (M := M_X1_isInsideBehindBegin) (tgt := 159) dX1_isInsideBehindBegin_145 (by decide) rfl rfl h_41 ?_
          refine z_zconst (M := M_X1_isInsideBehindBegin) (b := false) dX1_isInsideBehindBegin_159 rfl ?_
          exact J_92 _ (Option.some.inj H).symm
    have H := he_94
    refine z_aload_n (M := M_X1_isInsideBehindBegin) dX1_isInsideBehindBegin_74 rfl ?_
    refine z_getR (M := M_X1_isInsideBehindBegin) (ci := 4) (C := RX1) (T := TX1) (Nf := 11) (ty := tyX1) cl4 dX1_isInsideBehindBegin_75 ly_177 1 (by decide) t_286 rfl ?_
    refine z_getR (M := M_X1_isInsideBehindBegin) (ci := 8) (C := RX5) (T := TX5) (Nf := 8) (ty := tyX5) cl8 dX1_isInsideBehindBegin_78 (ly_G (by decide)) 1 (by decide) t_241 rfl ?_
    refine z_iload (M := M_X1_isInsideBehindBegin) dX1_isInsideBehindBegin_81 rfl ?_
    obtain ⟨x_23, x_23_e, hi_24, H⟩ := rd_e H
    refine z_iald (M := M_X1_isInsideBehindBegin) dX1_isInsideBehindBegin_83 ly_181 rfl rfl rfl hi_24 x_23_e ?_
    refine z_iload (M := M_X1_isInsideBehindBegin) dX1_isInsideBehindBegin_84 rfl ?_
    rcases if_e H with ⟨h_25, H⟩ | ⟨h_25, H⟩
    · refine z_icmp_gt_t (M := M_X1_isInsideBehindBegin) (tgt := 111) dX1_isInsideBehindBegin_86 (by decide) rfl rfl h_25 ?_
      refine z_zconst (M := M_X1_isInsideBehindBegin) (b := true) dX1_isInsideBehindBegin_111 rfl ?_
      refine z_goto (M := M_X1_isInsideBehindBegin) (tgt := 116) dX1_isInsideBehindBegin_112 (by decide) ?_
      exact J_96 _ (Option.some.inj H).symm
    · refine z_icmp_gt_f (M := M_X1_isInsideBehindBegin) (tgt := 111) dX1_isInsideBehindBegin_86 (by decide) rfl rfl (Int.not_lt.mp h_25) ?_
      refine z_aload_n (M := M_X1_isInsideBehindBegin) dX1_isInsideBehindBegin_89 rfl ?_
      refine z_getR (M := M_X1_isInsideBehindBegin) (ci := 4) (C := RX1) (T := TX1) (Nf := 11) (ty := tyX1) cl4 dX1_isInsideBehindBegin_90 ly_177 1 (by decide) t_286 rfl ?_
      refine z_getR (M := M_X1_isInsideBehindBegin) (ci := 8) (C := RX5) (T := TX5) (Nf := 8) (ty := tyX5) cl8 dX1_isInsideBehindBegin_93 (ly_G (by decide)) 1 (by decide) t_241 rfl ?_
      refine z_iload (M := M_X1_isInsideBehindBegin) dX1_isInsideBehindBegin_96 rfl ?_
      obtain ⟨x_27, x_27_e, hi_28, H⟩ := rd_e H
      refine z_iald (M := M_X1_isInsideBehindBegin) dX1_isInsideBehindBegin_98 ly_181 rfl rfl rfl hi_28 x_27_e ?_
      refine z_iload (M := M_X1_isInsideBehindBegin) dX1_isInsideBehindBegin_99 rfl ?_
      rcases if_e H with ⟨h_29, H⟩ | ⟨h_29, H⟩
      · refine z_icmp_ne_f (M := M_X1_isInsideBehindBegin) (tgt := 115) dX1_isInsideBehindBegin_101 (by decide) rfl rfl h_29 ?_
        refine z_lload (M := M_X1_isInsideBehindBegin) dX1_isInsideBehindBegin_104 rfl ?_
        refine z_lconst (M := M_X1_isInsideBehindBegin) (m := 0) dX1_isInsideBehindBegin_106 (by decide +kernel) ?_
        refine z_lcmp (M := M_X1_isInsideBehindBegin) dX1_isInsideBehindBegin_107 ?_
        rcases if_e H with ⟨h_30, H⟩ | ⟨h_30, H⟩
        · refine z_lif_ge_f (M := M_X1_isInsideBehindBegin) (tgt := 115) dX1_isInsideBehindBegin_108 (by decide) rfl (by decide +kernel) h_30 ?_
          refine z_zconst (M := M_X1_isInsideBehindBegin) (b := true) dX1_isInsideBehindBegin_111 rfl ?_
          refine z_goto (M := M_X1_isInsideBehindBegin) (tgt := 116) dX1_isInsideBehindBegin_112 (by decide) ?_
          exact J_96 _ (Option.some.inj H).symm
        · refine z_lif_ge_t (M := M_X1_isInsideBehindBegin) (tgt := 115) dX1_isInsideBehindBegin_108 (by decide) rfl (by decide +kernel) (Int.not_lt.mp h_30) ?_
          refine z_zconst (M := M_X1_isInsideBehindBegin) (b := false) dX1_isInsideBehindBegin_115 rfl ?_
          exact J_96 _ (Option.some.inj H).symm
      · refine z_icmp_ne_t (M := M_X1_isInsideBehindBegin) (tgt := 115) dX1_isInsideBehindBegin_101 (by decide) rfl rfl h_29 ?_
        refine z_zconst (M := M_X1_isInsideBehindBegin) (b := false) dX1_isInsideBehindBegin_115 rfl ?_
        exact J_96 _ (Option.some.inj H).symm
  · refine z_icmp_ge_t (M := M_X1_isInsideBehindBegin) (tgt := 284) dX1_isInsideBehindBegin_71 (by decide) rfl rfl (Int.not_lt.mp h_22) ?_
    exact J_100 _ _ (K_19 _ (Option.some.inj H).symm).symm
theorem c_X11_isCrossedFrom (hl : l.stackTraces = false) {σ : SG} {ax_0 : Int} {ay_0 : Int} {bx_0 : Int} {by_0 : Int} {x_0 : Int} {y_0 : Int} {r : Bool}  (H : fQ_isCrossedFrom ax_0 ay_0 bx_0 by_0 x_0 y_0 = r) : en_S l E M_X11_isCrossedFrom 3 0 0 [vi ax_0, vi ay_0, vi bx_0, vi by_0, vi x_0, vi y_0] σ (pS (some (zv r)) σ) := by
  unfold fQ_isCrossedFrom at H
  refine z_mk (lv := [some (vi ax_0), some (vi ay_0), some (vi bx_0), some (vi by_0), some (vi x_0), some (vi y_0), none, none]) m_X11_isCrossedFrom rfl hl (Nat.le_of_ble_eq_true rfl) rfl ?_
  have J_1 : YY l E M_X11_isCrossedFrom 3 0 0 (pS (some (zv r)) σ) 11 [some (vi ax_0), some (vi ay_0), some (vi bx_0), some (vi by_0), some (vi x_0), some (vi y_0), none, none] [zv (decide ((w32 y_0) < (w32 by_0)))] σ 0 0 := by
    refine z_zstore (M := M_X11_isCrossedFrom) (lv' := [some (vi ax_0), some (vi ay_0), some (vi bx_0), some (vi by_0), some (vi x_0), some (vi y_0), some (zv (decide ((w32 y_0) < (w32 by_0)))), none]) dX11_isCrossedFrom_11 (Nat.le_of_ble_eq_true rfl) rfl rfl ?_
    have J_2 : YY l E M_X11_isCrossedFrom 3 0 0 (pS (some (zv r)) σ) 24 [some (vi ax_0), some (vi ay_0), some (vi bx_0), some (vi by_0), some (vi x_0), some (vi y_0), some (zv (decide ((w32 y_0) < (w32 by_0)))), none] [zv (decide ((w32 y_0) < (w32 ay_0)))] σ 0 0 := by
      refine z_zload (M := M_X11_isCrossedFrom) dX11_isCrossedFrom_24 rfl ?_
      rcases if_e H with ⟨h_3, H⟩ | ⟨h_3, H⟩
      · refine z_cne_f (M := M_X11_isCrossedFrom) (tgt := 31) dX11_isCrossedFrom_26 (by decide)  h_3 ?_
        refine z_zconst (M := M_X11_isCrossedFrom) (b := false) dX11_isCrossedFrom_29 rfl ?_
        cases H
        exact z_zret (M := M_X11_isCrossedFrom) dX11_isCrossedFrom_30 rfl (Nat.le_of_ble_eq_true rfl) (Nat.le_of_ble_eq_true rfl) ⟨rfl, rfl⟩
      · refine z_cne_t (M := M_X11_isCrossedFrom) (tgt := 31) dX11_isCrossedFrom_26 (by decide)  h_3 ?_
        refine z_iload_n (M := M_X11_isCrossedFrom) dX11_isCrossedFrom_31 rfl ?_
        refine z_i2l (M := M_X11_isCrossedFrom) dX11_isCrossedFrom_32 ?_
        refine z_iload_n (M := M_X11_isCrossedFrom) dX11_isCrossedFrom_33 rfl ?_
        refine z_i2l (M := M_X11_isCrossedFrom) dX11_isCrossedFrom_34 ?_
        refine z_iload_n (M := M_X11_isCrossedFrom) dX11_isCrossedFrom_35 rfl ?_
        refine z_i2l (M := M_X11_isCrossedFrom) dX11_isCrossedFrom_36 ?_
        refine z_iload_n (M := M_X11_isCrossedFrom) dX11_isCrossedFrom_37 rfl ?_
        refine z_i2l (M := M_X11_isCrossedFrom) dX11_isCrossedFrom_38 ?_
        refine z_iload (M := M_X11_isCrossedFrom) dX11_isCrossedFrom_39 rfl ?_
        refine z_i2l (M := M_X11_isCrossedFrom) dX11_isCrossedFrom_41 ?_
        refine z_iload (M := M_X11_isCrossedFrom) dX11_isCrossedFrom_42 rfl ?_
        refine z_i2l (M := M_X11_isCrossedFrom) dX11_isCrossedFrom_44 ?_
        refine z_callS (M := M_X11_isCrossedFrom) (M' := M_X11_turnOf) (as := [vl (w32 ax_0), vl (w32 ay_0), vl (w32 bx_0), vl (w32 by_0), vl (w32 x_0), vl (w32 y_0)]) (rest := []) rfl rfl dX11_isCrossedFrom_45 m_X11_turnOf t_1323 t_1265 (c_X11_turnOf hl  rfl) rfl rfl (Nat.le_of_ble_eq_true rfl) (Nat.le_of_ble_eq_true rfl) (Nat.le_of_ble_eq_true rfl) (Nat.le_of_ble_eq_true rfl) ?_
        refine z_st (st' := [vi (fQ_turnOf (w32 ax_0) (w32 ay_0) (w32 bx_0) (w32 by_0) (w32 x_0) (w32 y_0))]) rfl ?_
        refine z_istore (M := M_X11_isCrossedFrom) (lv' := [some (vi ax_0), some (vi ay_0), some (vi bx_0), some (vi by_0), some (vi x_0), some (vi y_0), some (zv (decide ((w32 y_0) < (w32 by_0)))), some (vi (fQ_turnOf (w32 ax_0) (w32 ay_0) (w32 bx_0) (w32 by_0) (w32 x_0) (w32 y_0)))]) dX11_isCrossedFrom_48 (Nat.le_of_ble_eq_true rfl) rfl rfl ?_
        have J_8 : YY l E M_X11_isCrossedFrom 3 0 0 (pS (some (zv r)) σ) 78 [some (vi ax_0), some (vi ay_0), some (vi bx_0), some (vi by_0), some (vi x_0), some (vi y_0), some (zv (decide ((w32 y_0) < (w32 by_0)))), some (vi (fQ_turnOf (w32 ax_0) (w32 ay_0) (w32 bx_0) (w32 by_0) (w32 x_0) (w32 y_0)))] [zv (if (decide ((w32 y_0) < (w32 by_0))) = true then (decide (0 < (w32 (fQ_turnOf (w32 ax_0) (w32 ay_0) (w32 bx_0) (w32 by_0) (w32 x_0) (w32 y_0))))) else (decide ((w32 (fQ_turnOf (w32 ax_0) (w32 ay_0) (w32 bx_0) (w32 by_0) (w32 x_0) (w32 y_0))) < 0)) : Bool)] σ 0 0 := by
          cases H
          exact z_zret (M := M_X11_isCrossedFrom) dX11_isCrossedFrom_78 rfl (Nat.le_of_ble_eq_true rfl) (Nat.le_of_ble_eq_true rfl) ⟨rfl, rfl⟩
        refine z_zload (M := M_X11_isCrossedFrom) dX11_isCrossedFrom_50 rfl ?_
        by_cases h_9 : (decide ((w32 y_0) < (w32 by_0))) = true
        · refine z_zeq_f (M := M_X11_isCrossedFrom) (tgt := 68) dX11_isCrossedFrom_52 (by decide) h_9 ?_
          have J_10 : YY l E M_X11_isCrossedFrom 3 0 0 (pS (some (zv r)) σ) 78 [some (vi ax_0), some (vi ay_0), some (vi bx_0), some (vi by_0), some (vi x_0), some (vi y_0), some (zv (decide ((w32 y_0) < (w32 by_0)))), some (vi (fQ_turnOf (w32 ax_0) (w32 ay_0) (w32 bx_0) (w32 by_0) (w32 x_0) (w32 y_0)))] [zv (decide (0 < (w32 (fQ_turnOf (w32 ax_0) (w32 ay_0) (w32 bx_0) (w32 by_0) (w32 x_0) (w32 y_0)))))] σ 0 0 := by
            exact z_st (by rw [if_pos (c := (decide ((w32 y_0) < (w32 by_0))) = true) h_9]) J_8
          refine z_iload (M := M_X11_isCrossedFrom) dX11_isCrossedFrom_55 rfl ?_
          by_cases h_11 : 0 < (w32 (fQ_turnOf (w32 ax_0) (w32 ay_0) (w32 bx_0) (w32 by_0) (w32 x_0) (w32 y_0)))
          · refine z_if_le_f (M := M_X11_isCrossedFrom) (tgt := 64) dX11_isCrossedFrom_57 (by decide) rfl h_11 ?_
            refine z_iconst (M := M_X11_isCrossedFrom) dX11_isCrossedFrom_60 ?_
            refine z_goto (M := M_X11_isCrossedFrom) (tgt := 78) dX11_isCrossedFrom_61 (by decide) ?_
            exact z_st (by rw [zv_t (p := 0 < (w32 (fQ_turnOf (w32 ax_0) (w32 ay_0) (w32 bx_0) (w32 by_0) (w32 x_0) (w32 y_0)))) h_11]) J_10
          · refine z_if_le_t (M := M_X11_isCrossedFrom) (tgt := 64) dX11_isCrossedFrom_57 (by decide) rfl (Int.not_lt.mp h_11) ?_
            refine z_iconst (M := M_X11_isCrossedFrom) dX11_isCrossedFrom_64 ?_
            refine z_goto (M := M_X11_isCrossedFrom) (tgt := 78) dX11_isCrossedFrom_65 (by decide) ?_
            exact z_st (by rw [zv_f (p := 0 < (w32 (fQ_turnOf (w32 ax_0) (w32 ay_0) (w32 bx_0) (w32 by_0) (w32 x_0) (w32 y_0)))) h_11]) J_10
        · refine z_zeq_t (M := M_X11_isCrossedFrom) (tgt := 68) dX11_isCrossedFrom_52 (by decide) h_9 ?_
          have J_12 : YY l E M_X11_isCrossedFrom 3 0 0 (pS (some (zv r)) σ) 78 [some (vi ax_0), some (vi ay_0), some (vi bx_0), some (vi by_0), some (vi x_0), some (vi y_0), some (zv (decide ((w32 y_0) < (w32 by_0)))), some (vi (fQ_turnOf (w32 ax_0) (w32 ay_0) (w32 bx_0) (w32 by_0) (w32 x_0) (w32 y_0)))] [zv (decide ((w32 (fQ_turnOf (w32 ax_0) (w32 ay_0) (w32 bx_0) (w32 by_0) (w32 x_0) (w32 y_0))) < 0))] σ 0 0 := by
            exact z_st (by rw [if_neg (c := (decide ((w32 y_0) < (w32 by_0))) = true) h_9]) J_8
          refine z_iload (M := M_X11_isCrossedFrom) dX11_isCrossedFrom_68 rfl ?_
          by_cases h_13 : (w32 (fQ_turnOf (w32 ax_0) (w32 ay_0) (w32 bx_0) (w32 by_0) (w32 x_0) (w32 y_0))) < 0
          · refine z_if_ge_f (M := M_X11_isCrossedFrom) (tgt := 77) dX11_isCrossedFrom_70 (by decide) rfl h_13 ?_
            refine z_iconst (M := M_X11_isCrossedFrom) dX11_isCrossedFrom_73 ?_
            refine z_goto (M := M_X11_isCrossedFrom) (tgt := 78) dX11_isCrossedFrom_74 (by decide) ?_
            exact z_st (by rw [zv_t (p := (w32 (fQ_turnOf (w32 ax_0) (w32 ay_0) (w32 bx_0) (w32 by_0) (w32 x_0) (w32 y_0))) < 0) h_13]) J_12
          · refine z_if_ge_t (M := M_X11_isCrossedFrom) (tgt := 77) dX11_isCrossedFrom_70 (by decide) rfl (Int.not_lt.mp h_13) ?_
            refine z_iconst (M := M_X11_isCrossedFrom) dX11_isCrossedFrom_77 ?_
            exact z_st (by rw [zv_f (p := (w32 (fQ_turnOf (w32 ax_0) (w32 ay_0) (w32 bx_0) (w32 by_0) (w32 x_0) (w32 y_0))) < 0) h_13]) J_12
    refine z_iload_n (M := M_X11_isCrossedFrom) dX11_isCrossedFrom_13 rfl ?_
    refine z_iload (M := M_X11_isCrossedFrom) dX11_isCrossedFrom_14 rfl ?_
    by_cases h_14 : (w32 y_0) < (w32 ay_0)
    · refine z_icmp_le_f (M := M_X11_isCrossedFrom) (tgt := 23) dX11_isCrossedFrom_16 (by decide) rfl rfl h_14 ?_
      refine z_iconst (M := M_X11_isCrossedFrom) dX11_isCrossedFrom_19 ?_
      refine z_goto (M := M_X11_isCrossedFrom) (tgt := 24) dX11_isCrossedFrom_20 (by decide) ?_
      exact z_st (by rw [zv_t (p := (w32 y_0) < (w32 ay_0)) h_14]) J_2
    · refine z_icmp_le_t (M := M_X11_isCrossedFrom) (tgt := 23) dX11_isCrossedFrom_16 (by decide) rfl rfl (Int.not_lt.mp h_14) ?_
      refine z_iconst (M := M_X11_isCrossedFrom) dX11_isCrossedFrom_23 ?_
      exact z_st (by rw [zv_f (p := (w32 y_0) < (w32 ay_0)) h_14]) J_2
  refine z_iload_n (M := M_X11_isCrossedFrom) dX11_isCrossedFrom_0 rfl ?_
  refine z_iload (M := M_X11_isCrossedFrom) dX11_isCrossedFrom_1 rfl ?_
  by_cases h_15 : (w32 y_0) < (w32 by_0)
  · refine z_icmp_le_f (M := M_X11_isCrossedFrom) (tgt := 10) dX11_isCrossedFrom_3 (by decide) rfl rfl h_15 ?_
    refine z_iconst (M := M_X11_isCrossedFrom) dX11_isCrossedFrom_6 ?_
    refine z_goto (M := M_X11_isCrossedFrom) (tgt := 11) dX11_isCrossedFrom_7 (by decide) ?_
    exact z_st (by rw [zv_t (p := (w32 y_0) < (w32 by_0)) h_15]) J_1
  · refine z_icmp_le_t (M := M_X11_isCrossedFrom) (tgt := 10) dX11_isCrossedFrom_3 (by decide) rfl rfl (Int.not_lt.mp h_15) ?_
    refine z_iconst (M := M_X11_isCrossedFrom) dX11_isCrossedFrom_10 ?_
    exact z_st (by rw [zv_f (p := (w32 y_0) < (w32 by_0)) h_15]) J_1
theorem c_X11_isOnSegment (hl : l.stackTraces = false) {σ : SG} {ax_0 : Int} {ay_0 : Int} {bx_0 : Int} {by_0 : Int} {x_0 : Int} {y_0 : Int} {r : Bool}  (H : fQ_isOnSegment ax_0 ay_0 bx_0 by_0 x_0 y_0 = r) : en_S l E M_X11_isOnSegment 3 0 0 [vi ax_0, vi ay_0, vi bx_0, vi by_0, vi x_0, vi y_0] σ (pS (some (zv r)) σ) := by
  unfold fQ_isOnSegment at H
  refine z_mk (lv := [some (vi ax_0), some (vi ay_0), some (vi bx_0), some (vi by_0), some (vi x_0), some (vi y_0)]) m_X11_isOnSegment rfl hl (Nat.le_of_ble_eq_true rfl) rfl ?_
  have J_1 : YY l E M_X11_isOnSegment 3 0 0 (pS (some (zv r)) σ) 65 [some (vi ax_0), some (vi ay_0), some (vi bx_0), some (vi by_0), some (vi x_0), some (vi y_0)] [zv (decide ((((((w32 (q_mni ax_0 bx_0)) ≤ (w32 x_0)) ∧ ((w32 x_0) ≤ (w32 (q_mxi ax_0 bx_0)))) ∧ ((w32 (q_mni ay_0 by_0)) ≤ (w32 y_0))) ∧ ((w32 y_0) ≤ (w32 (q_mxi ay_0 by_0)))) ∧ ((w32 (fQ_turnOf (w32 ax_0) (w32 ay_0) (w32 bx_0) (w32 by_0) (w32 x_0) (w32 y_0))) = 0)))] σ 0 0 := by
    cases H
    exact z_zret (M := M_X11_isOnSegment) dX11_isOnSegment_65 rfl (Nat.le_of_ble_eq_true rfl) (Nat.le_of_ble_eq_true rfl) ⟨rfl, rfl⟩
  refine z_iload (M := M_X11_isOnSegment) dX11_isOnSegment_0 rfl ?_
  refine z_iload_n (M := M_X11_isOnSegment) dX11_isOnSegment_2 rfl ?_
  refine z_iload_n (M := M_X11_isOnSegment) dX11_isOnSegment_3 rfl ?_
  refine z_mmin (M := M_X11_isOnSegment) dX11_isOnSegment_4 t_625 t_626 t_20 t_627 (Nat.le_of_ble_eq_true rfl) (Nat.le_of_ble_eq_true rfl) (Nat.le_of_ble_eq_true rfl) (Nat.le_of_ble_eq_true rfl) ?_
  by_cases h_2 : (w32 (q_mni ax_0 bx_0)) ≤ (w32 x_0)
  · refine z_icmp_lt_f (M := M_X11_isOnSegment) (tgt := 64) dX11_isOnSegment_7 (by decide) rfl rfl h_2 ?_
    refine z_iload (M := M_X11_isOnSegment) dX11_isOnSegment_10 rfl ?_
    refine z_iload_n (M := M_X11_isOnSegment) dX11_isOnSegment_12 rfl ?_
    refine z_iload_n (M := M_X11_isOnSegment) dX11_isOnSegment_13 rfl ?_
    refine z_mmax (M := M_X11_isOnSegment) dX11_isOnSegment_14 t_1322 t_1013 t_20 t_1014 (Nat.le_of_ble_eq_true rfl) (Nat.le_of_ble_eq_true rfl) (Nat.le_of_ble_eq_true rfl) (Nat.le_of_ble_eq_true rfl) ?_
    by_cases h_3 : (w32 x_0) ≤ (w32 (q_mxi ax_0 bx_0))
    · refine z_icmp_gt_f (M := M_X11_isOnSegment) (tgt := 64) dX11_isOnSegment_17 (by decide) rfl rfl h_3 ?_
      refine z_iload (M := M_X11_isOnSegment) dX11_isOnSegment_20 rfl ?_
      refine z_iload_n (M := M_X11_isOnSegment) dX11_isOnSegment_22 rfl ?_
      refine z_iload_n (M := M_X11_isOnSegment) dX11_isOnSegment_23 rfl ?_
      refine z_mmin (M := M_X11_isOnSegment) dX11_isOnSegment_24 t_625 t_626 t_20 t_627 (Nat.le_of_ble_eq_true rfl) (Nat.le_of_ble_eq_true rfl) (Nat.le_of_ble_eq_true rfl) (Nat.le_of_ble_eq_true rfl) ?_
      by_cases h_4 : (w32 (q_mni ay_0 by_0)) ≤ (w32 y_0)
      · refine z_icmp_lt_f (M := M_X11_isOnSegment) (tgt := 64) dX11_isOnSegment_27 (by decide) rfl rfl h_4 ?_
        refine z_iload (M := M_X11_isOnSegment) dX11_isOnSegment_30 rfl ?_
        refine z_iload_n (M := M_X11_isOnSegment) dX11_isOnSegment_32 rfl ?_
        refine z_iload_n (M := M_X11_isOnSegment) dX11_isOnSegment_33 rfl ?_
        refine z_mmax (M := M_X11_isOnSegment) dX11_isOnSegment_34 t_1322 t_1013 t_20 t_1014 (Nat.le_of_ble_eq_true rfl) (Nat.le_of_ble_eq_true rfl) (Nat.le_of_ble_eq_true rfl) (Nat.le_of_ble_eq_true rfl) ?_
        by_cases h_5 : (w32 y_0) ≤ (w32 (q_mxi ay_0 by_0))
        · refine z_icmp_gt_f (M := M_X11_isOnSegment) (tgt := 64) dX11_isOnSegment_37 (by decide) rfl rfl h_5 ?_
          refine z_iload_n (M := M_X11_isOnSegment) dX11_isOnSegment_40 rfl ?_
          refine z_i2l (M := M_X11_isOnSegment) dX11_isOnSegment_41 ?_
          refine z_iload_n (M := M_X11_isOnSegment) dX11_isOnSegment_42 rfl ?_
          refine z_i2l (M := M_X11_isOnSegment) dX11_isOnSegment_43 ?_
          refine z_iload_n (M := M_X11_isOnSegment) dX11_isOnSegment_44 rfl ?_
          refine z_i2l (M := M_X11_isOnSegment) dX11_isOnSegment_45 ?_
          refine z_iload_n (M := M_X11_isOnSegment) dX11_isOnSegment_46 rfl ?_
          refine z_i2l (M := M_X11_isOnSegment) dX11_isOnSegment_47 ?_
          refine z_iload (M := M_X11_isOnSegment) dX11_isOnSegment_48 rfl ?_
          refine z_i2l (M := M_X11_isOnSegment) dX11_isOnSegment_50 ?_
          refine z_iload (M := M_X11_isOnSegment) dX11_isOnSegment_51 rfl ?_
          refine z_i2l (M := M_X11_isOnSegment) dX11_isOnSegment_53 ?_
          refine z_callS (M := M_X11_isOnSegment) (M' := M_X11_turnOf) (as := [vl (w32 ax_0), vl (w32 ay_0), vl (w32 bx_0), vl (w32 by_0), vl (w32 x_0), vl (w32 y_0)]) (rest := []) rfl rfl dX11_isOnSegment_54 m_X11_turnOf t_1323 t_1265 (c_X11_turnOf hl  rfl) rfl rfl (Nat.le_of_ble_eq_true rfl) (Nat.le_of_ble_eq_true rfl) (Nat.le_of_ble_eq_true rfl) (Nat.le_of_ble_eq_true rfl) ?_
          refine z_st (st' := [vi (fQ_turnOf (w32 ax_0) (w32 ay_0) (w32 bx_0) (w32 by_0) (w32 x_0) (w32 y_0))]) rfl ?_
          by_cases h_6 : (w32 (fQ_turnOf (w32 ax_0) (w32 ay_0) (w32 bx_0) (w32 by_0) (w32 x_0) (w32 y_0))) = 0
          · refine z_if_ne_f (M := M_X11_isOnSegment) (tgt := 64) dX11_isOnSegment_57 (by decide) rfl h_6 ?_
            refine z_iconst (M := M_X11_isOnSegment) dX11_isOnSegment_60 ?_
            refine z_goto (M := M_X11_isOnSegment) (tgt := 65) dX11_isOnSegment_61 (by decide) ?_
            exact z_st (by rw [zv_t (p := (((((w32 (q_mni ax_0 bx_0)) ≤ (w32 x_0)) ∧ ((w32 x_0) ≤ (w32 (q_mxi ax_0 bx_0)))) ∧ ((w32 (q_mni ay_0 by_0)) ≤ (w32 y_0))) ∧ ((w32 y_0) ≤ (w32 (q_mxi ay_0 by_0)))) ∧ ((w32 (fQ_turnOf (w32 ax_0) (w32 ay_0) (w32 bx_0) (w32 by_0) (w32 x_0) (w32 y_0))) = 0)) ⟨⟨⟨⟨h_2, h_3⟩, h_4⟩, h_5⟩, h_6⟩]) J_1
          · refine z_if_ne_t (M := M_X11_isOnSegment) (tgt := 64) dX11_isOnSegment_57 (by decide) rfl h_6 ?_
            refine z_iconst (M := M_X11_isOnSegment) dX11_isOnSegment_64 ?_
            exact z_st (by rw [zv_f (p := (((((w32 (q_mni ax_0 bx_0)) ≤ (w32 x_0)) ∧ ((w32 x_0) ≤ (w32 (q_mxi ax_0 bx_0)))) ∧ ((w32 (q_mni ay_0 by_0)) ≤ (w32 y_0))) ∧ ((w32 y_0) ≤ (w32 (q_mxi ay_0 by_0)))) ∧ ((w32 (fQ_turnOf (w32 ax_0) (w32 ay_0) (w32 bx_0) (w32 by_0) (w32 x_0) (w32 y_0))) = 0)) (fun q => h_6 q.2)]) J_1
        · refine z_icmp_gt_t (M := M_X11_isOnSegment) (tgt := 64) dX11_isOnSegment_37 (by decide) rfl rfl (Int.not_le.mp h_5) ?_
          refine z_iconst (M := M_X11_isOnSegment) dX11_isOnSegment_64 ?_
          exact z_st (by rw [zv_f (p := (((((w32 (q_mni ax_0 bx_0)) ≤ (w32 x_0)) ∧ ((w32 x_0) ≤ (w32 (q_mxi ax_0 bx_0)))) ∧ ((w32 (q_mni ay_0 by_0)) ≤ (w32 y_0))) ∧ ((w32 y_0) ≤ (w32 (q_mxi ay_0 by_0)))) ∧ ((w32 (fQ_turnOf (w32 ax_0) (w32 ay_0) (w32 bx_0) (w32 by_0) (w32 x_0) (w32 y_0))) = 0)) (fun q => (fun q => h_5 q.2) q.1)]) J_1
      · refine z_icmp_lt_t (M := M_X11_isOnSegment) (tgt := 64) dX11_isOnSegment_27 (by decide) rfl rfl (Int.not_le.mp h_4) ?_
        refine z_iconst (M := M_X11_isOnSegment) dX11_isOnSegment_64 ?_
        exact z_st (by rw [zv_f (p := (((((w32 (q_mni ax_0 bx_0)) ≤ (w32 x_0)) ∧ ((w32 x_0) ≤ (w32 (q_mxi ax_0 bx_0)))) ∧ ((w32 (q_mni ay_0 by_0)) ≤ (w32 y_0))) ∧ ((w32 y_0) ≤ (w32 (q_mxi ay_0 by_0)))) ∧ ((w32 (fQ_turnOf (w32 ax_0) (w32 ay_0) (w32 bx_0) (w32 by_0) (w32 x_0) (w32 y_0))) = 0)) (fun q => (fun q => (fun q => h_4 q.2) q.1) q.1)]) J_1
    · refine z_icmp_gt_t (M := M_X11_isOnSegment) (tgt := 64) dX11_isOnSegment_17 (by decide) rfl rfl (Int.not_le.mp h_3) ?_
      refine z_iconst (M := M_X11_isOnSegment) dX11_isOnSegment_64 ?_
      exact z_st (by rw [zv_f (p := (((((w32 (q_mni ax_0 bx_0)) ≤ (w32 x_0)) ∧ ((w32 x_0) ≤ (w32 (q_mxi ax_0 bx_0)))) ∧ ((w32 (q_mni ay_0 by_0)) ≤ (w32 y_0))) ∧ ((w32 y_0) ≤ (w32 (q_mxi ay_0 by_0)))) ∧ ((w32 (fQ_turnOf (w32 ax_0) (w32 ay_0) (w32 bx_0) (w32 by_0) (w32 x_0) (w32 y_0))) = 0)) (fun q => (fun q => (fun q => (fun q => h_3 q.2) q.1) q.1) q.1)]) J_1
  · refine z_icmp_lt_t (M := M_X11_isOnSegment) (tgt := 64) dX11_isOnSegment_7 (by decide) rfl rfl (Int.not_le.mp h_2) ?_
    refine z_iconst (M := M_X11_isOnSegment) dX11_isOnSegment_64 ?_
    exact z_st (by rw [zv_f (p := (((((w32 (q_mni ax_0 bx_0)) ≤ (w32 x_0)) ∧ ((w32 x_0) ≤ (w32 (q_mxi ax_0 bx_0)))) ∧ ((w32 (q_mni ay_0 by_0)) ≤ (w32 y_0))) ∧ ((w32 y_0) ≤ (w32 (q_mxi ay_0 by_0)))) ∧ ((w32 (fQ_turnOf (w32 ax_0) (w32 ay_0) (w32 bx_0) (w32 by_0) (w32 x_0) (w32 y_0))) = 0)) (fun q => (fun q => (fun q => (fun q => h_2 q.1) q.1) q.1) q.1)]) J_1
theorem c_X1_whereIs (hl : l.stackTraces = false) {σ : SG} {ring_0 : Int} {x_0 : Int} {y_0 : Int} {r : Int}  (H : fJ_whereIs σ ring_0 x_0 y_0 = some r) : en_S l E M_X1_whereIs 4 0 0 [vr 177, vi ring_0, vi x_0, vi y_0] σ (pS (some (vi r)) σ) := by
  unfold fJ_whereIs at H
  refine z_mk (lv := [some (vr 177), some (vi ring_0), some (vi x_0), some (vi y_0), none, none, none, none, none, none]) m_X1_whereIs rfl hl (Nat.le_of_ble_eq_true rfl) rfl ?_
  refine z_zconst (M := M_X1_whereIs) (b := false) dX1_whereIs_0 rfl ?_
  refine z_zstore (M := M_X1_whereIs) (lv' := [some (vr 177), some (vi ring_0), some (vi x_0), some (vi y_0), some (zv false), none, none, none, none, none]) dX1_whereIs_1 (Nat.le_of_ble_eq_true rfl) rfl rfl ?_
  refine z_aload_n (M := M_X1_whereIs) dX1_whereIs_3 rfl ?_
  refine z_getR (M := M_X1_whereIs) (ci := 4) (C := RX1) (T := TX1) (Nf := 11) (ty := tyX1) cl4 dX1_whereIs_4 ly_177 5 (by decide) t_290 rfl ?_
  refine z_iload_n (M := M_X1_whereIs) dX1_whereIs_7 rfl ?_
  obtain ⟨x_1, x_1_e, hi_2, H⟩ := rd_e H
  refine z_iald (M := M_X1_whereIs) dX1_whereIs_8 ly_188 rfl rfl rfl hi_2 x_1_e ?_
  refine z_istore (M := M_X1_whereIs) (lv' := [some (vr 177), some (vi ring_0), some (vi x_0), some (vi y_0), some (zv false), some (vi x_1), none, none, none, none]) dX1_whereIs_9 (Nat.le_of_ble_eq_true rfl) rfl rfl ?_
  obtain ⟨rl_8, hw_5, hk_6, hk_7⟩ := bx_e H
  have J_41 : ∀ odd_37 k_38, rl_8 = (.inl (odd_37, k_38)) → YY l E M_X1_whereIs 4 0 0 (pS (some (vi r)) σ) 122 [some (vr 177), some (vi ring_0), some (vi x_0), some (vi y_0), some (zv odd_37), some (vi k_38), none, none, none, none] [] σ 0 0 := by
    intro odd_37 k_38 e
    have H := hk_6 _ e
    have J_39 : YY l E M_X1_whereIs 4 0 0 (pS (some (vi r)) σ) 132 [some (vr 177), some (vi ring_0), some (vi x_0), some (vi y_0), some (zv odd_37), some (vi k_38), none, none, none, none] [vi (if odd_37 = true then 0 else 2)] σ 0 0 := by
      cases H
      exact z_iret (M := M_X1_whereIs) dX1_whereIs_132 rfl (Nat.le_of_ble_eq_true rfl) (Nat.le_of_ble_eq_true rfl) ⟨rfl, rfl⟩
    refine z_zload (M := M_X1_whereIs) dX1_whereIs_122 rfl ?_
    by_cases h_40 : odd_37 = true
    · refine z_zeq_f (M := M_X1_whereIs) (tgt := 131) dX1_whereIs_124 (by decide) h_40 ?_
      refine z_iconst (M := M_X1_whereIs) dX1_whereIs_127 ?_
      refine z_goto (M := M_X1_whereIs) (tgt := 132) dX1_whereIs_128 (by decide) ?_
      exact z_st (by rw [if_pos (c := odd_37 = true) h_40]) J_39
    · refine z_zeq_t (M := M_X1_whereIs) (tgt := 131) dX1_whereIs_124 (by decide) h_40 ?_
      refine z_iconst (M := M_X1_whereIs) dX1_whereIs_131 ?_
      exact z_st (by rw [if_neg (c := odd_37 = true) h_40]) J_39
  refine whl_go hw_5 (fun (odd_3, k_4) => YY l E M_X1_whereIs 4 0 0 (pS (some (vi r)) σ) 11 [some (vr 177), some (vi ring_0), some (vi x_0), some (vi y_0), some (zv odd_3), some (vi k_4), none, none, none, none] [] σ 0 0) ?_
  rintro ⟨odd_3, k_4⟩ o_9 H K_10 K_11
  refine z_iload (M := M_X1_whereIs) dX1_whereIs_11 rfl ?_
  refine z_aload_n (M := M_X1_whereIs) dX1_whereIs_13 rfl ?_
  refine z_getR (M := M_X1_whereIs) (ci := 4) (C := RX1) (T := TX1) (Nf := 11) (ty := tyX1) cl4 dX1_whereIs_14 ly_177 6 (by decide) t_291 rfl ?_
  refine z_iload_n (M := M_X1_whereIs) dX1_whereIs_17 rfl ?_
  obtain ⟨x_12, x_12_e, hi_13, H⟩ := rd_e H
  refine z_iald (M := M_X1_whereIs) dX1_whereIs_18 ly_189 rfl rfl rfl hi_13 x_12_e ?_
  rcases if_e H with ⟨h_14, H⟩ | ⟨h_14, H⟩
  · refine z_icmp_ge_f (M := M_X1_whereIs) (tgt := 122) dX1_whereIs_19 (by decide) rfl rfl h_14 ?_
    refine z_aload_n (M := M_X1_whereIs) dX1_whereIs_22 rfl ?_
    refine z_getR (M := M_X1_whereIs) (ci := 4) (C := RX1) (T := TX1) (Nf := 11) (ty := tyX1) cl4 dX1_whereIs_23 ly_177 1 (by decide) t_286 rfl ?_
    refine z_getR (M := M_X1_whereIs) (ci := 8) (C := RX5) (T := TX5) (Nf := 8) (ty := tyX5) cl8 dX1_whereIs_26 (ly_G (by decide)) 0 (by decide) t_237 rfl ?_
    refine z_iload (M := M_X1_whereIs) dX1_whereIs_29 rfl ?_
    obtain ⟨x_15, x_15_e, hi_16, H⟩ := rd_e H
    refine z_iald (M := M_X1_whereIs) dX1_whereIs_31 ly_180 rfl rfl rfl hi_16 x_15_e ?_
    refine z_istore (M := M_X1_whereIs) (lv' := [some (vr 177), some (vi ring_0), some (vi x_0), some (vi y_0), some (zv odd_3), some (vi k_4), some (vi x_15), none, none, none]) dX1_whereIs_32 (Nat.le_of_ble_eq_true rfl) rfl rfl ?_
    refine z_aload_n (M := M_X1_whereIs) dX1_whereIs_34 rfl ?_
    refine z_getR (M := M_X1_whereIs) (ci := 4) (C := RX1) (T := TX1) (Nf := 11) (ty := tyX1) cl4 dX1_whereIs_35 ly_177 1 (by decide) t_286 rfl ?_
    refine z_getR (M := M_X1_whereIs) (ci := 8) (C := RX5) (T := TX5) (Nf := 8) (ty := tyX5) cl8 dX1_whereIs_38 (ly_G (by decide)) 1 (by decide) t_241 rfl ?_
    refine z_iload (M := M_X1_whereIs) dX1_whereIs_41 rfl ?_
    obtain ⟨x_17, x_17_e, hi_18, H⟩ := rd_e H
    refine z_iald (M := M_X1_whereIs) dX1_whereIs_43 ly_181 rfl rfl rfl hi_18 x_17_e ?_
    refine z_istore (M := M_X1_whereIs) (lv' := [some (vr 177), some (vi ring_0), some (vi x_0), some (vi y_0), some (zv odd_3), some (vi k_4), some (vi x_15), some (vi x_17), none, none]) dX1_whereIs_44 (Nat.le_of_ble_eq_true rfl) rfl rfl ?_
    refine z_aload_n (M := M_X1_whereIs) dX1_whereIs_46 rfl ?_
    refine z_getR (M := M_X1_whereIs) (ci := 4) (C := RX1) (T := TX1) (Nf := 11) (ty := tyX1) cl4 dX1_whereIs_47 ly_177 1 (by decide) t_286 rfl ?_
    refine z_getR (M := M_X1_whereIs) (ci := 8) (C := RX5) (T := TX5) (Nf := 8) (ty := tyX5) cl8 dX1_whereIs_50 (ly_G (by decide)) 2 (by decide) t_245 rfl ?_
    refine z_iload (M := M_X1_whereIs) dX1_whereIs_53 rfl ?_
    obtain ⟨x_19, x_19_e, hi_20, H⟩ := rd_e H
    refine z_iald (M := M_X1_whereIs) dX1_whereIs_55 ly_182 rfl rfl rfl hi_20 x_19_e ?_
    refine z_istore (M := M_X1_whereIs) (lv' := [some (vr 177), some (vi ring_0), some (vi x_0), some (vi y_0), some (zv odd_3), some (vi k_4), some (vi x_15), some (vi x_17), some (vi x_19), none]) dX1_whereIs_56 (Nat.le_of_ble_eq_true rfl) rfl rfl ?_
    refine z_aload_n (M := M_X1_whereIs) dX1_whereIs_58 rfl ?_
    refine z_getR (M := M_X1_whereIs) (ci := 4) (C := RX1) (T := TX1) (Nf := 11) (ty := tyX1) cl4 dX1_whereIs_59 ly_177 1 (by decide) t_286 rfl ?_
    refine z_getR (M := M_X1_whereIs) (ci := 8) (C := RX5) (T := TX5) (Nf := 8) (ty := tyX5) cl8 dX1_whereIs_62 (ly_G (by decide)) 3 (by decide) t_249 rfl ?_
    refine z_iload (M := M_X1_whereIs) dX1_whereIs_65 rfl ?_
    obtain ⟨x_21, x_21_e, hi_22, H⟩ := rd_e H
    refine z_iald (M := M_X1_whereIs) dX1_whereIs_67 ly_183 rfl rfl rfl hi_22 x_21_e ?_
    refine z_istore (M := M_X1_whereIs) (lv' := [some (vr 177), some (vi ring_0), some (vi x_0), some (vi y_0), some (zv odd_3), some (vi k_4), some (vi x_15), some (vi x_17), some (vi x_19), some (vi x_21)]) dX1_whereIs_68 (Nat.le_of_ble_eq_true rfl) rfl rfl ?_
    refine z_iload (M := M_X1_whereIs) dX1_whereIs_70 rfl ?_
    refine z_iload (M := M_X1_whereIs) dX1_whereIs_72 rfl ?_
    refine z_iload (M := M_X1_whereIs) dX1_whereIs_74 rfl ?_
    refine z_iload (M := M_X1_whereIs) dX1_whereIs_76 rfl ?_
    refine z_iload_n (M := M_X1_whereIs) dX1_whereIs_78 rfl ?_
    refine z_iload_n (M := M_X1_whereIs) dX1_whereIs_79 rfl ?_
    refine z_callSN (M := M_X1_whereIs) (M' := M_X11_isOnSegment) (as := [vi x_15, vi x_17, vi x_19, vi x_21, vi x_0, vi y_0]) (rest := []) rfl rfl dX1_whereIs_80 m_X11_isOnSegment n_1319 t_1320 (c_X11_isOnSegment hl  rfl) rfl rfl (Nat.le_of_ble_eq_true rfl) (Nat.le_of_ble_eq_true rfl) (Nat.le_of_ble_eq_true rfl) (Nat.le_of_ble_eq_true rfl) ?_
    refine z_st (st' := [zv (fQ_isOnSegment x_15 x_17 x_19 x_21 x_0 y_0)]) rfl ?_
    rcases if_e H with ⟨h_23, H⟩ | ⟨h_23, H⟩
    · refine z_zeq_f (M := M_X1_whereIs) (tgt := 88) dX1_whereIs_83 (by decide) h_23 ?_
      refine z_iconst (M := M_X1_whereIs) dX1_whereIs_86 ?_
      have H := congrArg some (hk_7 _ ((K_11 _ (Option.some.inj H).symm).symm))
      cases H
      exact z_iret (M := M_X1_whereIs) dX1_whereIs_87 rfl (Nat.le_of_ble_eq_true rfl) (Nat.le_of_ble_eq_true rfl) ⟨rfl, rfl⟩
    · refine z_zeq_t (M := M_X1_whereIs) (tgt := 88) dX1_whereIs_83 (by decide) h_23 ?_
      obtain ⟨v_27, he_24, hk_25⟩ := bd_e H
      have J_35 : ∀ odd_33, v_27 = odd_33 → YY l E M_X1_whereIs 4 0 0 (pS (some (vi r)) σ) 116 [some (vr 177), some (vi ring_0), some (vi x_0), some (vi y_0), some (zv odd_33), some (vi k_4), some (vi x_15), some (vi x_17), some (vi x_19), some (vi x_21)] [] σ 0 0 := by
        intro odd_33 e
        have H := hk_25
        rw [e] at H
        refine z_iinc (M := M_X1_whereIs) (lv' := [some (vr 177), some (vi ring_0), some (vi x_0), some (vi y_0), some (zv odd_33), some (vi (k_4 + 1)), some (vi x_15), some (vi x_17), some (vi x_19), some (vi x_21)]) dX1_whereIs_116 rfl (Nat.le_of_ble_eq_true rfl) rfl rfl ?_
        refine z_goto (M := M_X1_whereIs) (tgt := 11) dX1_whereIs_119 (by decide) ?_
        refine z_le (lv' := [some (vr 177), some (vi ring_0), some (vi x_0), some (vi y_0), some (zv odd_33), some (vi (k_4 + 1)), none, none, none, none]) ⟨Or.inr rfl, Or.inr rfl, Or.inr rfl, Or.inr rfl, Or.inr rfl, Or.inr rfl, Or.inl rfl, Or.inl rfl, Or.inl rfl, Or.inl rfl, trivial⟩ ?_
        exact K_10 _ (Option.some.inj H).symm
      have H := he_24
      refine z_iload (M := M_X1_whereIs) dX1_whereIs_88 rfl ?_
      refine z_iload (M := M_X1_whereIs) dX1_whereIs_90 rfl ?_
      refine z_iload (M := M_X1_whereIs) dX1_whereIs_92 rfl ?_
      refine z_iload (M := M_X1_whereIs) dX1_whereIs_94 rfl ?_
      refine z_iload_n (M := M_X1_whereIs) dX1_whereIs_96 rfl ?_
      refine z_iload_n (M := M_X1_whereIs) dX1_whereIs_97 rfl ?_
      refine z_callSN (M := M_X1_whereIs) (M' := M_X11_isCrossedFrom) (as := [vi x_15, vi x_17, vi x_19, vi x_21, vi x_0, vi y_0]) (rest := []) rfl rfl dX1_whereIs_98 m_X11_isCrossedFrom n_1324 t_1325 (c_X11_isCrossedFrom hl  rfl) rfl rfl (Nat.le_of_ble_eq_true rfl) (Nat.le_of_ble_eq_true rfl) (Nat.le_of_ble_eq_true rfl) (Nat.le_of_ble_eq_true rfl) ?_
      refine z_st (st' := [zv (fQ_isCrossedFrom x_15 x_17 x_19 x_21 x_0 y_0)]) rfl ?_
      rcases if_e H with ⟨h_28, H⟩ | ⟨h_28, H⟩
      · refine z_zeq_f (M := M_X1_whereIs) (tgt := 116) dX1_whereIs_101 (by decide) h_28 ?_
        have J_29 : YY l E M_X1_whereIs 4 0 0 (pS (some (vi r)) σ) 114 [some (vr 177), some (vi ring_0), some (vi x_0), some (vi y_0), some (zv odd_3), some (vi k_4), some (vi x_15), some (vi x_17), some (vi x_19), some (vi x_21)] [zv (decide (¬ (odd_3 = true)))] σ 0 0 := by
          refine z_zstore (M := M_X1_whereIs) (lv' := [some (vr 177), some (vi ring_0), some (vi x_0), some (vi y_0), some (zv (decide (¬ (odd_3 = true)))), some (vi k_4), some (vi x_15), some (vi x_17), some (vi x_19), some (vi x_21)]) dX1_whereIs_114 (Nat.le_of_ble_eq_true rfl) rfl rfl ?_
          exact J_35 _ (Option.some.inj H).symm
        refine z_zload (M := M_X1_whereIs) dX1_whereIs_104 rfl ?_
        by_cases h_31 : odd_3 = true
        · refine z_zne_t (M := M_X1_whereIs) (tgt := 113) dX1_whereIs_106 (by decide) h_31 ?_
          refine z_iconst (M := M_X1_whereIs) dX1_whereIs_113 ?_
          exact z_st (by rw [zv_f (p := ¬ (odd_3 = true)) (not_not_intro h_31)]) J_29
        · refine z_zne_f (M := M_X1_whereIs) (tgt := 113) dX1_whereIs_106 (by decide) h_31 ?_
          refine z_iconst (M := M_X1_whereIs) dX1_whereIs_109 ?_
          refine z_goto (M := M_X1_whereIs) (tgt := 114) dX1_whereIs_110 (by decide) ?_
          exact z_st (by rw [zv_t (p := ¬ (odd_3 = true)) h_31]) J_29
      · refine z_zeq_t (M := M_X1_whereIs) (tgt := 116) dX1_whereIs_101 (by decide) h_28 ?_
        exact J_35 _ (Option.some.inj H).symm
  · refine z_icmp_ge_t (M := M_X1_whereIs) (tgt := 122) dX1_whereIs_19 (by decide) rfl rfl (Int.not_lt.mp h_14) ?_
    exact J_41 _ _ (K_11 _ (Option.some.inj H).symm).symm
theorem c_X1_liesIn (hl : l.stackTraces = false) {σ : SG} {ring_0 : Int} {other_0 : Int} {r : Bool}  (H : fJ_liesIn σ ring_0 other_0 = some r) : en_S l E M_X1_liesIn 5 0 0 [vr 177, vi ring_0, vi other_0] σ (pS (some (zv r)) σ) := by
  unfold fJ_liesIn at H
  refine z_mk (lv := [some (vr 177), some (vi ring_0), some (vi other_0), none, none]) m_X1_liesIn rfl hl (Nat.le_of_ble_eq_true rfl) rfl ?_
  refine z_aload_n (M := M_X1_liesIn) dX1_liesIn_0 rfl ?_
  refine z_getR (M := M_X1_liesIn) (ci := 4) (C := RX1) (T := TX1) (Nf := 11) (ty := tyX1) cl4 dX1_liesIn_1 ly_177 5 (by decide) t_290 rfl ?_
  refine z_iload_n (M := M_X1_liesIn) dX1_liesIn_4 rfl ?_
  obtain ⟨x_1, x_1_e, hi_2, H⟩ := rd_e H
  refine z_iald (M := M_X1_liesIn) dX1_liesIn_5 ly_188 rfl rfl rfl hi_2 x_1_e ?_
  refine z_istore_n (M := M_X1_liesIn) (lv' := [some (vr 177), some (vi ring_0), some (vi other_0), some (vi x_1), none]) dX1_liesIn_6 (Nat.le_of_ble_eq_true rfl) rfl rfl ?_
  obtain ⟨rl_7, hw_4, hk_5, hk_6⟩ := bx_e H
  have J_44 : ∀ i_25, rl_7 = (.inl i_25) → YY l E M_X1_liesIn 5 0 0 (pS (some (zv r)) σ) 65 [some (vr 177), some (vi ring_0), some (vi other_0), some (vi i_25), none] [] σ 0 0 := by
    intro i_25 e
    have H := hk_5 _ e
    obtain ⟨v_40, he_41, hk_42⟩ := bd_e H
    have J_43 : ∀ x_39, v_40 = x_39 → YY l E M_X1_liesIn 5 0 0 (pS (some (zv r)) σ) 99 [some (vr 177), some (vi ring_0), some (vi other_0), some (vi i_25), none] [zv x_39] σ 0 0 := by
      intro x_39 e
      have H := hk_42
      rw [e] at H
      cases H
      exact z_zret (M := M_X1_liesIn) dX1_liesIn_99 rfl (Nat.le_of_ble_eq_true rfl) (Nat.le_of_ble_eq_true rfl) ⟨rfl, rfl⟩
    have H := he_41
    refine z_aload_n (M := M_X1_liesIn) dX1_liesIn_65 rfl ?_
    refine z_getR (M := M_X1_liesIn) (ci := 4) (C := RX1) (T := TX1) (Nf := 11) (ty := tyX1) cl4 dX1_liesIn_66 ly_177 5 (by decide) t_290 rfl ?_
    refine z_iload_n (M := M_X1_liesIn) dX1_liesIn_69 rfl ?_
    obtain ⟨x_26, x_26_e, hi_27, H⟩ := rd_e H
    refine z_iald (M := M_X1_liesIn) dX1_liesIn_70 ly_188 rfl rfl rfl hi_27 x_26_e ?_
    refine z_aload_n (M := M_X1_liesIn) dX1_liesIn_71 rfl ?_
    refine z_getR (M := M_X1_liesIn) (ci := 4) (C := RX1) (T := TX1) (Nf := 11) (ty := tyX1) cl4 dX1_liesIn_72 ly_177 6 (by decide) t_291 rfl ?_
    refine z_iload_n (M := M_X1_liesIn) dX1_liesIn_75 rfl ?_
    obtain ⟨x_28, x_28_e, hi_29, H⟩ := rd_e H
    refine z_iald (M := M_X1_liesIn) dX1_liesIn_76 ly_189 rfl rfl rfl hi_29 x_28_e ?_
    rcases if_e H with ⟨h_30, H⟩ | ⟨h_30, H⟩
    · refine z_icmp_ge_f (M := M_X1_liesIn) (tgt := 98) dX1_liesIn_77 (by decide) rfl rfl h_30 ?_
      refine z_aload_n (M := M_X1_liesIn) dX1_liesIn_80 rfl ?_
      refine z_iload_n (M := M_X1_liesIn) dX1_liesIn_81 rfl ?_
      refine z_aload_n (M := M_X1_liesIn) dX1_liesIn_82 rfl ?_
      refine z_getR (M := M_X1_liesIn) (ci := 4) (C := RX1) (T := TX1) (Nf := 11) (ty := tyX1) cl4 dX1_liesIn_83 ly_177 5 (by decide) t_290 rfl ?_
      refine z_iload_n (M := M_X1_liesIn) dX1_liesIn_86 rfl ?_
      obtain ⟨x_31, x_31_e, hi_32, H⟩ := rd_e H
      refine z_iald (M := M_X1_liesIn) dX1_liesIn_87 ly_188 rfl rfl rfl hi_32 x_31_e ?_
      obtain ⟨x_34, hc_33, H⟩ := bd_e H
      refine z_callV (M := M_X1_liesIn) (M' := M_X1_isInsideBehindBegin) (as := [vi other_0, vi x_31]) (rest := []) rfl rfl dX1_liesIn_88 m_X1_isInsideBehindBegin t_1327 t_1329 s_60 (c_X1_isInsideBehindBegin hl  hc_33) rfl rfl ly_177 rfl (Nat.le_of_ble_eq_true rfl) (Nat.le_of_ble_eq_true rfl) (Nat.le_of_ble_eq_true rfl) (Nat.le_of_ble_eq_true rfl) ?_
      refine z_st (st' := [zv x_34]) rfl ?_
      rcases if_e H with ⟨h_35, H⟩ | ⟨h_35, H⟩
      · refine z_zeq_f (M := M_X1_liesIn) (tgt := 98) dX1_liesIn_91 (by decide) h_35 ?_
        refine z_zconst (M := M_X1_liesIn) (b := true) dX1_liesIn_94 rfl ?_
        refine z_goto (M := M_X1_liesIn) (tgt := 99) dX1_liesIn_95 (by decide) ?_
        exact J_43 _ (Option.some.inj H).symm
      · refine z_zeq_t (M := M_X1_liesIn) (tgt := 98) dX1_liesIn_91 (by decide) h_35 ?_
        refine z_zconst (M := M_X1_liesIn) (b := false) dX1_liesIn_98 rfl ?_
        exact J_43 _ (Option.some.inj H).symm
    · refine z_icmp_ge_t (M := M_X1_liesIn) (tgt := 98) dX1_liesIn_77 (by decide) rfl rfl (Int.not_lt.mp h_30) ?_
      refine z_zconst (M := M_X1_liesIn) (b := false) dX1_liesIn_98 rfl ?_
      exact J_43 _ (Option.some.inj H).symm
  refine whl_go hw_4 (fun i_3 => YY l E M_X1_liesIn 5 0 0 (pS (some (zv r)) σ) 7 [some (vr 177), some (vi ring_0), some (vi other_0), some (vi i_3), none] [] σ 0 0) ?_
  rintro i_3 o_8 H K_9 K_10
  refine z_iload_n (M := M_X1_liesIn) dX1_liesIn_7 rfl ?_
  refine z_aload_n (M := M_X1_liesIn) dX1_liesIn_8 rfl ?_
  refine z_getR (M := M_X1_liesIn) (ci := 4) (C := RX1) (T := TX1) (Nf := 11) (ty := tyX1) cl4 dX1_liesIn_9 ly_177 6 (by decide) t_291 rfl ?_
  refine z_iload_n (M := M_X1_liesIn) dX1_liesIn_12 rfl ?_
  obtain ⟨x_11, x_11_e, hi_12, H⟩ := rd_e H
  refine z_iald (M := M_X1_liesIn) dX1_liesIn_13 ly_189 rfl rfl rfl hi_12 x_11_e ?_
  rcases if_e H with ⟨h_13, H⟩ | ⟨h_13, H⟩
  · refine z_icmp_ge_f (M := M_X1_liesIn) (tgt := 65) dX1_liesIn_14 (by decide) rfl rfl h_13 ?_
    refine z_aload_n (M := M_X1_liesIn) dX1_liesIn_17 rfl ?_
    refine z_iload_n (M := M_X1_liesIn) dX1_liesIn_18 rfl ?_
    refine z_aload_n (M := M_X1_liesIn) dX1_liesIn_19 rfl ?_
    refine z_getR (M := M_X1_liesIn) (ci := 4) (C := RX1) (T := TX1) (Nf := 11) (ty := tyX1) cl4 dX1_liesIn_20 ly_177 1 (by decide) t_286 rfl ?_
    refine z_getR (M := M_X1_liesIn) (ci := 8) (C := RX5) (T := TX5) (Nf := 8) (ty := tyX5) cl8 dX1_liesIn_23 (ly_G (by decide)) 0 (by decide) t_237 rfl ?_
    refine z_iload_n (M := M_X1_liesIn) dX1_liesIn_26 rfl ?_
    obtain ⟨x_14, x_14_e, hi_15, H⟩ := rd_e H
    refine z_iald (M := M_X1_liesIn) dX1_liesIn_27 ly_180 rfl rfl rfl hi_15 x_14_e ?_
    refine z_aload_n (M := M_X1_liesIn) dX1_liesIn_28 rfl ?_
    refine z_getR (M := M_X1_liesIn) (ci := 4) (C := RX1) (T := TX1) (Nf := 11) (ty := tyX1) cl4 dX1_liesIn_29 ly_177 1 (by decide) t_286 rfl ?_
    refine z_getR (M := M_X1_liesIn) (ci := 8) (C := RX5) (T := TX5) (Nf := 8) (ty := tyX5) cl8 dX1_liesIn_32 (ly_G (by decide)) 1 (by decide) t_241 rfl ?_
    refine z_iload_n (M := M_X1_liesIn) dX1_liesIn_35 rfl ?_
    obtain ⟨x_16, x_16_e, hi_17, H⟩ := rd_e H
    refine z_iald (M := M_X1_liesIn) dX1_liesIn_36 ly_181 rfl rfl rfl hi_17 x_16_e ?_
    obtain ⟨x_19, hc_18, H⟩ := bd_e H
    refine z_callV (M := M_X1_liesIn) (M' := M_X1_whereIs) (as := [vi other_0, vi x_14, vi x_16]) (rest := []) rfl rfl dX1_liesIn_37 m_X1_whereIs t_1315 t_1317 s_59 (c_X1_whereIs hl  hc_18) rfl rfl ly_177 rfl (Nat.le_of_ble_eq_true rfl) (Nat.le_of_ble_eq_true rfl) (Nat.le_of_ble_eq_true rfl) (Nat.le_of_ble_eq_true rfl) ?_
    refine z_st (st' := [vi x_19]) rfl ?_
    refine z_istore (M := M_X1_liesIn) (lv' := [some (vr 177), some (vi ring_0), some (vi other_0), some (vi i_3), some (vi x_19)]) dX1_liesIn_40 (Nat.le_of_ble_eq_true rfl) rfl rfl ?_
    refine z_iload (M := M_X1_liesIn) dX1_liesIn_42 rfl ?_
    refine z_iconst (M := M_X1_liesIn) dX1_liesIn_44 ?_
    rcases if_e H with ⟨h_20, H⟩ | ⟨h_20, H⟩
    · refine z_icmp_eq_f (M := M_X1_liesIn) (tgt := 59) dX1_liesIn_45 (by decide) rfl (by decide +kernel) h_20 ?_
      have J_21 : YY l E M_X1_liesIn 5 0 0 (pS (some (zv r)) σ) 58 [some (vr 177), some (vi ring_0), some (vi other_0), some (vi i_3), some (vi x_19)] [zv (decide ((w32 x_19) = 0))] σ 0 0 := by
        have H := congrArg some (hk_6 _ ((K_10 _ (Option.some.inj H).symm).symm))
        cases H
        exact z_zret (M := M_X1_liesIn) dX1_liesIn_58 rfl (Nat.le_of_ble_eq_true rfl) (Nat.le_of_ble_eq_true rfl) ⟨rfl, rfl⟩
      refine z_iload (M := M_X1_liesIn) dX1_liesIn_48 rfl ?_
      by_cases h_22 : (w32 x_19) = 0
      · refine z_if_ne_f (M := M_X1_liesIn) (tgt := 57) dX1_liesIn_50 (by decide) rfl h_22 ?_
        refine z_iconst (M := M_X1_liesIn) dX1_liesIn_53 ?_
        refine z_goto (M := M_X1_liesIn) (tgt := 58) dX1_liesIn_54 (by decide) ?_
        exact z_st (by rw [zv_t (p := (w32 x_19) = 0) h_22]) J_21
      · refine z_if_ne_t (M := M_X1_liesIn) (tgt := 57) dX1_liesIn_50 (by decide) rfl h_22 ?_
        refine z_iconst (M := M_X1_liesIn) dX1_liesIn_57 ?_
        exact z_st (by rw [zv_f (p := (w32 x_19) = 0) h_22]) J_21
    · refine z_icmp_eq_t (M := M_X1_liesIn) (tgt := 59) dX1_liesIn_45 (by decide) rfl (by decide +kernel) (Decidable.not_not.mp h_20) ?_
      refine z_iinc (M := M_X1_liesIn) (lv' := [some (vr 177), some (vi ring_0), some (vi other_0), some (vi (i_3 + 1)), some (vi x_19)]) dX1_liesIn_59 rfl (Nat.le_of_ble_eq_true rfl) rfl rfl ?_
      refine z_goto (M := M_X1_liesIn) (tgt := 7) dX1_liesIn_62 (by decide) ?_
      refine z_le (lv' := [some (vr 177), some (vi ring_0), some (vi other_0), some (vi (i_3 + 1)), none]) ⟨Or.inr rfl, Or.inr rfl, Or.inr rfl, Or.inr rfl, Or.inl rfl, trivial⟩ ?_
      exact K_9 _ (Option.some.inj H).symm
  · refine z_icmp_ge_t (M := M_X1_liesIn) (tgt := 65) dX1_liesIn_14 (by decide) rfl rfl (Int.not_lt.mp h_13) ?_
    exact J_44 _ (K_10 _ (Option.some.inj H).symm).symm
theorem c_X1_liesInPart (hl : l.stackTraces = false) {σ : SG} {part_0 : Int} {other_0 : Int} {r : Bool}  (H : fJ_liesInPart σ part_0 other_0 = some r) : en_S l E M_X1_liesInPart 6 0 0 [vr 177, vi part_0, vi other_0] σ (pS (some (zv r)) σ) := by
  unfold fJ_liesInPart at H
  refine z_mk (lv := [some (vr 177), some (vi part_0), some (vi other_0), none, none]) m_X1_liesInPart rfl hl (Nat.le_of_ble_eq_true rfl) rfl ?_
  refine z_aload_n (M := M_X1_liesInPart) dX1_liesInPart_0 rfl ?_
  refine z_iload_n (M := M_X1_liesInPart) dX1_liesInPart_1 rfl ?_
  obtain ⟨x_11, hc_10, H⟩ := bd_e H
  refine z_callV (M := M_X1_liesInPart) (M' := M_X1_isEmpty) (as := [vi part_0]) (rest := []) rfl rfl dX1_liesInPart_2 m_X1_isEmpty t_1225 t_1227 s_48 (c_X1_isEmpty hl  hc_10) rfl rfl ly_177 rfl (Nat.le_of_ble_eq_true rfl) (Nat.le_of_ble_eq_true rfl) (Nat.le_of_ble_eq_true rfl) (Nat.le_of_ble_eq_true rfl) ?_
  refine z_st (st' := [zv x_11]) rfl ?_
  rcases if_e H with ⟨h_12, H⟩ | ⟨h_12, H⟩
  · refine z_zne_t (M := M_X1_liesInPart) (tgt := 16) dX1_liesInPart_5 (by decide) h_12 ?_
    refine z_zconst (M := M_X1_liesInPart) (b := false) dX1_liesInPart_16 rfl ?_
    cases H
    exact z_zret (M := M_X1_liesInPart) dX1_liesInPart_17 rfl (Nat.le_of_ble_eq_true rfl) (Nat.le_of_ble_eq_true rfl) ⟨rfl, rfl⟩
  · refine z_zne_f (M := M_X1_liesInPart) (tgt := 16) dX1_liesInPart_5 (by decide) h_12 ?_
    refine z_aload_n (M := M_X1_liesInPart) dX1_liesInPart_8 rfl ?_
    refine z_iload_n (M := M_X1_liesInPart) dX1_liesInPart_9 rfl ?_
    obtain ⟨x_14, hc_13, H⟩ := bd_e H
    refine z_callV (M := M_X1_liesInPart) (M' := M_X1_isEmpty) (as := [vi other_0]) (rest := []) rfl rfl dX1_liesInPart_10 m_X1_isEmpty t_1225 t_1227 s_48 (c_X1_isEmpty hl  hc_13) rfl rfl ly_177 rfl (Nat.le_of_ble_eq_true rfl) (Nat.le_of_ble_eq_true rfl) (Nat.le_of_ble_eq_true rfl) (Nat.le_of_ble_eq_true rfl) ?_
    refine z_st (st' := [zv x_14]) rfl ?_
    rcases if_e H with ⟨h_15, H⟩ | ⟨h_15, H⟩
    · refine z_zeq_f (M := M_X1_liesInPart) (tgt := 18) dX1_liesInPart_13 (by decide) h_15 ?_
      refine z_zconst (M := M_X1_liesInPart) (b := false) dX1_liesInPart_16 rfl ?_
      cases H
      exact z_zret (M := M_X1_liesInPart) dX1_liesInPart_17 rfl (Nat.le_of_ble_eq_true rfl) (Nat.le_of_ble_eq_true rfl) ⟨rfl, rfl⟩
    · refine z_zeq_t (M := M_X1_liesInPart) (tgt := 18) dX1_liesInPart_13 (by decide) h_15 ?_
      refine z_aload_n (M := M_X1_liesInPart) dX1_liesInPart_18 rfl ?_
      refine z_getR (M := M_X1_liesInPart) (ci := 4) (C := RX1) (T := TX1) (Nf := 11) (ty := tyX1) cl4 dX1_liesInPart_19 ly_177 8 (by decide) t_293 rfl ?_
      refine z_iload_n (M := M_X1_liesInPart) dX1_liesInPart_22 rfl ?_
      obtain ⟨x_16, x_16_e, hi_17, H⟩ := rd_e H
      refine z_iald (M := M_X1_liesInPart) dX1_liesInPart_23 ly_190 rfl rfl rfl hi_17 x_16_e ?_
      refine z_istore_n (M := M_X1_liesInPart) (lv' := [some (vr 177), some (vi part_0), some (vi other_0), some (vi x_16), none]) dX1_liesInPart_24 (Nat.le_of_ble_eq_true rfl) rfl rfl ?_
      refine z_aload_n (M := M_X1_liesInPart) dX1_liesInPart_25 rfl ?_
      refine z_iload_n (M := M_X1_liesInPart) dX1_liesInPart_26 rfl ?_
      refine z_aload_n (M := M_X1_liesInPart) dX1_liesInPart_27 rfl ?_
      refine z_getR (M := M_X1_liesInPart) (ci := 4) (C := RX1) (T := TX1) (Nf := 11) (ty := tyX1) cl4 dX1_liesInPart_28 ly_177 8 (by decide) t_293 rfl ?_
      refine z_iload_n (M := M_X1_liesInPart) dX1_liesInPart_31 rfl ?_
      obtain ⟨x_18, x_18_e, hi_19, H⟩ := rd_e H
      refine z_iald (M := M_X1_liesInPart) dX1_liesInPart_32 ly_190 rfl rfl rfl hi_19 x_18_e ?_
      obtain ⟨x_21, hc_20, H⟩ := bd_e H
      refine z_callV (M := M_X1_liesInPart) (M' := M_X1_liesIn) (as := [vi x_16, vi x_18]) (rest := []) rfl rfl dX1_liesInPart_33 m_X1_liesIn t_1311 t_1313 s_58 (c_X1_liesIn hl  hc_20) rfl rfl ly_177 rfl (Nat.le_of_ble_eq_true rfl) (Nat.le_of_ble_eq_true rfl) (Nat.le_of_ble_eq_true rfl) (Nat.le_of_ble_eq_true rfl) ?_
      refine z_st (st' := [zv x_21]) rfl ?_
      rcases if_e H with ⟨h_22, H⟩ | ⟨h_22, H⟩
      · refine z_zne_t (M := M_X1_liesInPart) (tgt := 41) dX1_liesInPart_36 (by decide) h_22 ?_
        refine z_aload_n (M := M_X1_liesInPart) dX1_liesInPart_41 rfl ?_
        refine z_getR (M := M_X1_liesInPart) (ci := 4) (C := RX1) (T := TX1) (Nf := 11) (ty := tyX1) cl4 dX1_liesInPart_42 ly_177 8 (by decide) t_293 rfl ?_
        refine z_iload_n (M := M_X1_liesInPart) dX1_liesInPart_45 rfl ?_
        obtain ⟨x_23, x_23_e, hi_24, H⟩ := rd_e H
        refine z_iald (M := M_X1_liesInPart) dX1_liesInPart_46 ly_190 rfl rfl rfl hi_24 x_23_e ?_
        refine z_iconst (M := M_X1_liesInPart) dX1_liesInPart_47 ?_
        refine z_iadd (M := M_X1_liesInPart) dX1_liesInPart_48 ?_
        refine z_istore (M := M_X1_liesInPart) (lv' := [some (vr 177), some (vi part_0), some (vi other_0), some (vi x_16), some (vi (x_23 + 1))]) dX1_liesInPart_49 (Nat.le_of_ble_eq_true rfl) rfl rfl ?_
        obtain ⟨rl_29, hw_26, hk_27, hk_28⟩ := bx_e H
        have J_42 : ∀ hole_41, rl_29 = (.inl hole_41) → YY l E M_X1_liesInPart 6 0 0 (pS (some (zv r)) σ) 80 [some (vr 177), some (vi part_0), some (vi other_0), some (vi x_16), some (vi hole_41)] [] σ 0 0 := by
          intro hole_41 e
          have H := hk_27 _ e
          refine z_zconst (M := M_X1_liesInPart) (b := true) dX1_liesInPart_80 rfl ?_
          cases H
          exact z_zret (M := M_X1_liesInPart) dX1_liesInPart_81 rfl (Nat.le_of_ble_eq_true rfl) (Nat.le_of_ble_eq_true rfl) ⟨rfl, rfl⟩
        refine whl_go hw_26 (fun hole_25 => YY l E M_X1_liesInPart 6 0 0 (pS (some (zv r)) σ) 51 [some (vr 177), some (vi part_0), some (vi other_0), some (vi x_16), some (vi hole_25)] [] σ 0 0) ?_
        rintro hole_25 o_30 H K_31 K_32
        refine z_iload (M := M_X1_liesInPart) dX1_liesInPart_51 rfl ?_
        refine z_aload_n (M := M_X1_liesInPart) dX1_liesInPart_53 rfl ?_
        refine z_getR (M := M_X1_liesInPart) (ci := 4) (C := RX1) (T := TX1) (Nf := 11) (ty := tyX1) cl4 dX1_liesInPart_54 ly_177 9 (by decide) t_294 rfl ?_
        refine z_iload_n (M := M_X1_liesInPart) dX1_liesInPart_57 rfl ?_
        obtain ⟨x_33, x_33_e, hi_34, H⟩ := rd_e H
        refine z_iald (M := M_X1_liesInPart) dX1_liesInPart_58 ly_191 rfl rfl rfl hi_34 x_33_e ?_
        rcases if_e H with ⟨h_35, H⟩ | ⟨h_35, H⟩
        · refine z_icmp_ge_f (M := M_X1_liesInPart) (tgt := 80) dX1_liesInPart_59 (by decide) rfl rfl h_35 ?_
          refine z_aload_n (M := M_X1_liesInPart) dX1_liesInPart_62 rfl ?_
          refine z_iload_n (M := M_X1_liesInPart) dX1_liesInPart_63 rfl ?_
          refine z_iload (M := M_X1_liesInPart) dX1_liesInPart_64 rfl ?_
          obtain ⟨x_37, hc_36, H⟩ := bd_e H
          refine z_callV (M := M_X1_liesInPart) (M' := M_X1_liesIn) (as := [vi x_16, vi hole_25]) (rest := []) rfl rfl dX1_liesInPart_66 m_X1_liesIn t_1311 t_1313 s_58 (c_X1_liesIn hl  hc_36) rfl rfl ly_177 rfl (Nat.le_of_ble_eq_true rfl) (Nat.le_of_ble_eq_true rfl) (Nat.le_of_ble_eq_true rfl) (Nat.le_of_ble_eq_true rfl) ?_
          refine z_st (st' := [zv x_37]) rfl ?_
          rcases if_e H with ⟨h_38, H⟩ | ⟨h_38, H⟩
          · refine z_zeq_f (M := M_X1_liesInPart) (tgt := 74) dX1_liesInPart_69 (by decide) h_38 ?_
            refine z_zconst (M := M_X1_liesInPart) (b := false) dX1_liesInPart_72 rfl ?_
            have H := congrArg some (hk_28 _ ((K_32 _ (Option.some.inj H).symm).symm))
            cases H
            exact z_zret (M := M_X1_liesInPart) dX1_liesInPart_73 rfl (Nat.le_of_ble_eq_true rfl) (Nat.le_of_ble_eq_true rfl) ⟨rfl, rfl⟩
          · refine z_zeq_t (M := M_X1_liesInPart) (tgt := 74) dX1_liesInPart_69 (by decide) h_38 ?_
            refine z_iinc (M := M_X1_liesInPart) (lv' := [some (vr 177), some (vi part_0), some (vi other_0), some (vi x_16), some (vi (hole_25 + 1))]) dX1_liesInPart_74 rfl (Nat.le_of_ble_eq_true rfl) rfl rfl ?_
            refine z_goto (M := M_X1_liesInPart) (tgt := 51) dX1_liesInPart_77 (by decide) ?_
            exact K_31 _ (Option.some.inj H).symm
        · refine z_icmp_ge_t (M := M_X1_liesInPart) (tgt := 80) dX1_liesInPart_59 (by decide) rfl rfl (Int.not_lt.mp h_35) ?_
          exact J_42 _ (K_32 _ (Option.some.inj H).symm).symm
      · refine z_zne_f (M := M_X1_liesInPart) (tgt := 41) dX1_liesInPart_36 (by decide) h_22 ?_
        refine z_zconst (M := M_X1_liesInPart) (b := false) dX1_liesInPart_39 rfl ?_
        cases H
        exact z_zret (M := M_X1_liesInPart) dX1_liesInPart_40 rfl (Nat.le_of_ble_eq_true rfl) (Nat.le_of_ble_eq_true rfl) ⟨rfl, rfl⟩
theorem c_X1_tell (hl : l.stackTraces = false) {σ : SG} {fault_0 : Int} {part_0 : Int} {ring_0 : Int} {r : Int} {σ' : SG}  (H : fJ_tell σ fault_0 part_0 ring_0 = some (r, σ')) : en_S l E M_X1_tell 1 0 0 [vr 177, vi fault_0, vi part_0, vi ring_0] σ (pS (some (vi r)) σ') := by
  unfold fJ_tell at H
  refine z_mk (lv := [some (vr 177), some (vi fault_0), some (vi part_0), some (vi ring_0)]) m_X1_tell rfl hl (Nat.le_of_ble_eq_true rfl) rfl ?_
  refine z_aload_n (M := M_X1_tell) dX1_tell_0 rfl ?_
  refine z_getR (M := M_X1_tell) (ci := 4) (C := RX1) (T := TX1) (Nf := 11) (ty := tyX1) cl4 dX1_tell_1 ly_177 0 (by decide) t_284 rfl ?_
  refine z_iconst (M := M_X1_tell) dX1_tell_4 ?_
  refine z_iload_n (M := M_X1_tell) dX1_tell_5 rfl ?_
  obtain ⟨σ_1, σ_1_e, hi_2, H⟩ := wa_e H
  refine z_iast (M := M_X1_tell) dX1_tell_6 ly_178 rfl (by decide +kernel) rfl hi_2 σ_1_e ?_
  refine z_aload_n (M := M_X1_tell) dX1_tell_7 rfl ?_
  refine z_getR (M := M_X1_tell) (ci := 4) (C := RX1) (T := TX1) (Nf := 11) (ty := tyX1) cl4 dX1_tell_8 ly_177 0 (by decide) t_284 rfl ?_
  refine z_iconst (M := M_X1_tell) dX1_tell_11 ?_
  refine z_iload_n (M := M_X1_tell) dX1_tell_12 rfl ?_
  obtain ⟨σ_3, σ_3_e, hi_4, H⟩ := wa_e H
  refine z_iast (M := M_X1_tell) dX1_tell_13 ly_178 rfl (by decide +kernel) rfl hi_4 σ_3_e ?_
  refine z_iload_n (M := M_X1_tell) dX1_tell_14 rfl ?_
  cases H
  exact z_iret (M := M_X1_tell) dX1_tell_15 rfl (Nat.le_of_ble_eq_true rfl) (Nat.le_of_ble_eq_true rfl) ⟨rfl, rfl⟩
end LFAD
