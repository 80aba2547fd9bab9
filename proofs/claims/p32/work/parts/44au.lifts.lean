section LFAU
variable {l : Launch} {E : EE}
theorem c_X12_along (hl : l.stackTraces = false) {σ : SG} {i_0 : Int} {j_0 : Int} {r : Int} {σ' : SG}  (H : fR_along σ i_0 j_0 = some (r, σ')) : en_S l E M_X12_along 2 0 0 [vr 277, vi i_0, vi j_0] σ (pS (some (vi r)) σ') := by
  unfold fR_along at H
  refine z_mk (lv := [some (vr 277), some (vi i_0), some (vi j_0), none, none, none, none, none, none, none, none, none, none, none, none, none, none, none, none, none, none, none, none]) m_X12_along rfl hl (Nat.le_of_ble_eq_true rfl) rfl ?_
  refine z_aload_n (M := M_X12_along) dX12_along_0 rfl ?_
  refine z_getR (M := M_X12_along) (ci := 15) (C := RX12) (T := TX12) (Nf := 135) (ty := tyX12) cl15 dX12_along_1 ly_277 43 (by decide) t_2434 rfl ?_
  refine z_iload_n (M := M_X12_along) dX12_along_4 rfl ?_
  obtain ⟨x_1, x_1_e, hi_2, H⟩ := rd_e H
  refine z_lald (M := M_X12_along) dX12_along_5 ly_301 rfl rfl rfl hi_2 x_1_e ?_
  refine z_aload_n (M := M_X12_along) dX12_along_6 rfl ?_
  refine z_getR (M := M_X12_along) (ci := 15) (C := RX12) (T := TX12) (Nf := 135) (ty := tyX12) cl15 dX12_along_7 ly_277 44 (by decide) t_2435 rfl ?_
  refine z_iload_n (M := M_X12_along) dX12_along_10 rfl ?_
  obtain ⟨x_3, x_3_e, hi_4, H⟩ := rd_e H
  refine z_lald (M := M_X12_along) dX12_along_11 ly_302 rfl rfl rfl hi_4 x_3_e ?_
  refine z_aload_n (M := M_X12_along) dX12_along_12 rfl ?_
  refine z_getR (M := M_X12_along) (ci := 15) (C := RX12) (T := TX12) (Nf := 135) (ty := tyX12) cl15 dX12_along_13 ly_277 41 (by decide) t_2432 rfl ?_
  refine z_iload_n (M := M_X12_along) dX12_along_16 rfl ?_
  obtain ⟨x_5, x_5_e, hi_6, H⟩ := rd_e H
  refine z_lald (M := M_X12_along) dX12_along_17 ly_299 rfl rfl rfl hi_6 x_5_e ?_
  refine z_aload_n (M := M_X12_along) dX12_along_18 rfl ?_
  refine z_getR (M := M_X12_along) (ci := 15) (C := RX12) (T := TX12) (Nf := 135) (ty := tyX12) cl15 dX12_along_19 ly_277 42 (by decide) t_2433 rfl ?_
  refine z_iload_n (M := M_X12_along) dX12_along_22 rfl ?_
  obtain ⟨x_7, x_7_e, hi_8, H⟩ := rd_e H
  refine z_lald (M := M_X12_along) dX12_along_23 ly_300 rfl rfl rfl hi_8 x_7_e ?_
  refine z_callS (M := M_X12_along) (M' := M_X12_isBefore) (as := [vl x_1, vl x_3, vl x_5, vl x_7]) (rest := []) rfl rfl dX12_along_24 m_X12_isBefore t_3275 t_3276 (c_X12_isBefore hl  rfl) rfl rfl (Nat.le_of_ble_eq_true rfl) (Nat.le_of_ble_eq_true rfl) (Nat.le_of_ble_eq_true rfl) (Nat.le_of_ble_eq_true rfl) ?_
  refine z_st (st' := [zv (fR_isBefore x_1 x_3 x_5 x_7)]) rfl ?_
  refine z_zstore_n (M := M_X12_along) (lv' := [some (vr 277), some (vi i_0), some (vi j_0), some (zv (fR_isBefore x_1 x_3 x_5 x_7)), none, none, none, none, none, none, none, none, none, none, none, none, none, none, none, none, none, none, none]) dX12_along_27 (Nat.le_of_ble_eq_true rfl) rfl rfl ?_
  obtain ⟨v_158, he_159, hk_160⟩ := bd_e H
  have J_161 : ∀ x_20, v_158 = x_20 → YY l E M_X12_along 2 0 0 (pS (some (vi r)) σ') 47 [some (vr 277), some (vi i_0), some (vi j_0), some (zv (fR_isBefore x_1 x_3 x_5 x_7)), none, none, none, none, none, none, none, none, none, none, none, none, none, none, none, none, none, none, none] [vl x_20] σ 0 0 := by
    intro x_20 e
    have H := hk_160
    rw [e] at H
    refine z_lstore (M := M_X12_along) (lv' := [some (vr 277), some (vi i_0), some (vi j_0), some (zv (fR_isBefore x_1 x_3 x_5 x_7)), some (vl x_20), none, none, none, none, none, none, none, none, none, none, none, none, none, none, none, none, none, none]) dX12_along_47 (Nat.le_of_ble_eq_true rfl) rfl rfl ?_
    obtain ⟨v_154, he_155, hk_156⟩ := bd_e H
    have J_157 : ∀ x_32, v_154 = x_32 → YY l E M_X12_along 2 0 0 (pS (some (vi r)) σ') 68 [some (vr 277), some (vi i_0), some (vi j_0), some (zv (fR_isBefore x_1 x_3 x_5 x_7)), some (vl x_20), none, none, none, none, none, none, none, none, none, none, none, none, none, none, none, none, none, none] [vl x_32] σ 0 0 := by
      intro x_32 e
      have H := hk_156
      rw [e] at H
      refine z_lstore (M := M_X12_along) (lv' := [some (vr 277), some (vi i_0), some (vi j_0), some (zv (fR_isBefore x_1 x_3 x_5 x_7)), some (vl x_20), none, some (vl x_32), none, none, none, none, none, none, none, none, none, none, none, none, none, none, none, none]) dX12_along_68 (Nat.le_of_ble_eq_true rfl) rfl rfl ?_
      obtain ⟨v_150, he_151, hk_152⟩ := bd_e H
      have J_153 : ∀ x_44, v_150 = x_44 → YY l E M_X12_along 2 0 0 (pS (some (vi r)) σ') 89 [some (vr 277), some (vi i_0), some (vi j_0), some (zv (fR_isBefore x_1 x_3 x_5 x_7)), some (vl x_20), none, some (vl x_32), none, none, none, none, none, none, none, none, none, none, none, none, none, none, none, none] [vl x_44] σ 0 0 := by
        intro x_44 e
        have H := hk_152
        rw [e] at H
        refine z_lstore (M := M_X12_along) (lv' := [some (vr 277), some (vi i_0), some (vi j_0), some (zv (fR_isBefore x_1 x_3 x_5 x_7)), some (vl x_20), none, some (vl x_32), none, some (vl x_44), none, none, none, none, none, none, none, none, none, none, none, none, none, none]) dX12_along_89 (Nat.le_of_ble_eq_true rfl) rfl rfl ?_
        obtain ⟨v_146, he_147, hk_148⟩ := bd_e H
        have J_149 : ∀ x_56, v_146 = x_56 → YY l E M_X12_along 2 0 0 (pS (some (vi r)) σ') 110 [some (vr 277), some (vi i_0), some (vi j_0), some (zv (fR_isBefore x_1 x_3 x_5 x_7)), some (vl x_20), none, some (vl x_32), none, some (vl x_44), none, none, none, none, none, none, none, none, none, none, none, none, none, none] [vl x_56] σ 0 0 := by
          intro x_56 e
          have H := hk_148
          rw [e] at H
          refine z_lstore (M := M_X12_along) (lv' := [some (vr 277), some (vi i_0), some (vi j_0), some (zv (fR_isBefore x_1 x_3 x_5 x_7)), some (vl x_20), none, some (vl x_32), none, some (vl x_44), none, some (vl x_56), none, none, none, none, none, none, none, none, none, none, none, none]) dX12_along_110 (Nat.le_of_ble_eq_true rfl) rfl rfl ?_
          refine z_aload_n (M := M_X12_along) dX12_along_112 rfl ?_
          refine z_getR (M := M_X12_along) (ci := 15) (C := RX12) (T := TX12) (Nf := 135) (ty := tyX12) cl15 dX12_along_113 ly_277 43 (by decide) t_2434 rfl ?_
          refine z_iload_n (M := M_X12_along) dX12_along_116 rfl ?_
          obtain ⟨x_57, x_57_e, hi_58, H⟩ := rd_e H
          refine z_lald (M := M_X12_along) dX12_along_117 ly_301 rfl rfl rfl hi_58 x_57_e ?_
          refine z_aload_n (M := M_X12_along) dX12_along_118 rfl ?_
          refine z_getR (M := M_X12_along) (ci := 15) (C := RX12) (T := TX12) (Nf := 135) (ty := tyX12) cl15 dX12_along_119 ly_277 44 (by decide) t_2435 rfl ?_
          refine z_iload_n (M := M_X12_along) dX12_along_122 rfl ?_
          obtain ⟨x_59, x_59_e, hi_60, H⟩ := rd_e H
          refine z_lald (M := M_X12_along) dX12_along_123 ly_302 rfl rfl rfl hi_60 x_59_e ?_
          refine z_aload_n (M := M_X12_along) dX12_along_124 rfl ?_
          refine z_getR (M := M_X12_along) (ci := 15) (C := RX12) (T := TX12) (Nf := 135) (ty := tyX12) cl15 dX12_along_125 ly_277 41 (by decide) t_2432 rfl ?_
          refine z_iload_n (M := M_X12_along) dX12_along_128 rfl ?_
          obtain ⟨x_61, x_61_e, hi_62, H⟩ := rd_e H
          refine z_lald (M := M_X12_along) dX12_along_129 ly_299 rfl rfl rfl hi_62 x_61_e ?_
          refine z_aload_n (M := M_X12_along) dX12_along_130 rfl ?_
          refine z_getR (M := M_X12_along) (ci := 15) (C := RX12) (T := TX12) (Nf := 135) (ty := tyX12) cl15 dX12_along_131 ly_277 42 (by decide) t_2433 rfl ?_
          refine z_iload_n (M := M_X12_along) dX12_along_134 rfl ?_
          obtain ⟨x_63, x_63_e, hi_64, H⟩ := rd_e H
          refine z_lald (M := M_X12_along) dX12_along_135 ly_300 rfl rfl rfl hi_64 x_63_e ?_
          refine z_callS (M := M_X12_along) (M' := M_X12_isBefore) (as := [vl x_57, vl x_59, vl x_61, vl x_63]) (rest := []) rfl rfl dX12_along_136 m_X12_isBefore t_3275 t_3276 (c_X12_isBefore hl  rfl) rfl rfl (Nat.le_of_ble_eq_true rfl) (Nat.le_of_ble_eq_true rfl) (Nat.le_of_ble_eq_true rfl) (Nat.le_of_ble_eq_true rfl) ?_
          refine z_st (st' := [zv (fR_isBefore x_57 x_59 x_61 x_63)]) rfl ?_
          refine z_zstore (M := M_X12_along) (lv' := [some (vr 277), some (vi i_0), some (vi j_0), some (zv (fR_isBefore x_1 x_3 x_5 x_7)), some (vl x_20), none, some (vl x_32), none, some (vl x_44), none, some (vl x_56), none, some (zv (fR_isBefore x_57 x_59 x_61 x_63)), none, none, none, none, none, none, none, none, none, none]) dX12_along_139 (Nat.le_of_ble_eq_true rfl) rfl rfl ?_
          obtain ⟨v_142, he_143, hk_144⟩ := bd_e H
          have J_145 : ∀ x_76, v_142 = x_76 → YY l E M_X12_along 2 0 0 (pS (some (vi r)) σ') 161 [some (vr 277), some (vi i_0), some (vi j_0), some (zv (fR_isBefore x_1 x_3 x_5 x_7)), some (vl x_20), none, some (vl x_32), none, some (vl x_44), none, some (vl x_56), none, some (zv (fR_isBefore x_57 x_59 x_61 x_63)), none, none, none, none, none, none, none, none, none, none] [vl x_76] σ 0 0 := by
            intro x_76 e
            have H := hk_144
            rw [e] at H
            refine z_lstore (M := M_X12_along) (lv' := [some (vr 277), some (vi i_0), some (vi j_0), some (zv (fR_isBefore x_1 x_3 x_5 x_7)), some (vl x_20), none, some (vl x_32), none, some (vl x_44), none, some (vl x_56), none, some (zv (fR_isBefore x_57 x_59 x_61 x_63)), some (vl x_76), none, none, none, none, none, none, none, none, none]) dX12_along_161 (Nat.le_of_ble_eq_true rfl) rfl rfl ?_
            obtain ⟨v_138, he_139, hk_140⟩ := bd_e H
            have J_141 : ∀ x_88, v_138 = x_88 → YY l E M_X12_along 2 0 0 (pS (some (vi r)) σ') 183 [some (vr 277), some (vi i_0), some (vi j_0), some (zv (fR_isBefore x_1 x_3 x_5 x_7)), some (vl x_20), none, some (vl x_32), none, some (vl x_44), none, some (vl x_56), none, some (zv (fR_isBefore x_57 x_59 x_61 x_63)), some (vl x_76), none, none, none, none, none, none, none, none, none] [vl x_88] σ 0 0 := by
              intro x_88 e
              have H := hk_140
              rw [e] at H
              refine z_lstore (M := M_X12_along) (lv' := [some (vr 277), some (vi i_0), some (vi j_0), some (zv (fR_isBefore x_1 x_3 x_5 x_7)), some (vl x_20), none, some (vl x_32), none, some (vl x_44), none, some (vl x_56), none, some (zv (fR_isBefore x_57 x_59 x_61 x_63)), some (vl x_76), none, some (vl x_88), none, none, none, none, none, none, none]) dX12_along_183 (Nat.le_of_ble_eq_true rfl) rfl rfl ?_
              obtain ⟨v_134, he_135, hk_136⟩ := bd_e H
              have J_137 : ∀ x_100, v_134 = x_100 → YY l E M_X12_along 2 0 0 (pS (some (vi r)) σ') 205 [some (vr 277), some (vi i_0), some (vi j_0), some (zv (fR_isBefore x_1 x_3 x_5 x_7)), some (vl x_20), none, some (vl x_32), none, some (vl x_44), none, some (vl x_56), none, some (zv (fR_isBefore x_57 x_59 x_61 x_63)), some (vl x_76), none, some (vl x_88), none, none, none, none, none, none, none] [vl x_100] σ 0 0 := by
                intro x_100 e
                have H := hk_136
                rw [e] at H
                refine z_lstore (M := M_X12_along) (lv' := [some (vr 277), some (vi i_0), some (vi j_0), some (zv (fR_isBefore x_1 x_3 x_5 x_7)), some (vl x_20), none, some (vl x_32), none, some (vl x_44), none, some (vl x_56), none, some (zv (fR_isBefore x_57 x_59 x_61 x_63)), some (vl x_76), none, some (vl x_88), none, some (vl x_100), none, none, none, none, none]) dX12_along_205 (Nat.le_of_ble_eq_true rfl) rfl rfl ?_
                obtain ⟨v_130, he_131, hk_132⟩ := bd_e H
                have J_133 : ∀ x_112, v_130 = x_112 → YY l E M_X12_along 2 0 0 (pS (some (vi r)) σ') 227 [some (vr 277), some (vi i_0), some (vi j_0), some (zv (fR_isBefore x_1 x_3 x_5 x_7)), some (vl x_20), none, some (vl x_32), none, some (vl x_44), none, some (vl x_56), none, some (zv (fR_isBefore x_57 x_59 x_61 x_63)), some (vl x_76), none, some (vl x_88), none, some (vl x_100), none, none, none, none, none] [vl x_112] σ 0 0 := by
                  intro x_112 e
                  have H := hk_132
                  rw [e] at H
                  refine z_lstore (M := M_X12_along) (lv' := [some (vr 277), some (vi i_0), some (vi j_0), some (zv (fR_isBefore x_1 x_3 x_5 x_7)), some (vl x_20), none, some (vl x_32), none, some (vl x_44), none, some (vl x_56), none, some (zv (fR_isBefore x_57 x_59 x_61 x_63)), some (vl x_76), none, some (vl x_88), none, some (vl x_100), none, some (vl x_112), none, none, none]) dX12_along_227 (Nat.le_of_ble_eq_true rfl) rfl rfl ?_
                  refine z_lload (M := M_X12_along) dX12_along_229 rfl ?_
                  refine z_lload (M := M_X12_along) dX12_along_231 rfl ?_
                  refine z_lload (M := M_X12_along) dX12_along_233 rfl ?_
                  refine z_lload (M := M_X12_along) dX12_along_235 rfl ?_
                  refine z_callS (M := M_X12_along) (M' := M_X12_isBefore) (as := [vl x_20, vl x_32, vl x_76, vl x_88]) (rest := []) rfl rfl dX12_along_237 m_X12_isBefore t_3275 t_3276 (c_X12_isBefore hl  rfl) rfl rfl (Nat.le_of_ble_eq_true rfl) (Nat.le_of_ble_eq_true rfl) (Nat.le_of_ble_eq_true rfl) (Nat.le_of_ble_eq_true rfl) ?_
                  refine z_st (st' := [zv (fR_isBefore x_20 x_32 x_76 x_88)]) rfl ?_
                  refine z_zstore (M := M_X12_along) (lv' := [some (vr 277), some (vi i_0), some (vi j_0), some (zv (fR_isBefore x_1 x_3 x_5 x_7)), some (vl x_20), none, some (vl x_32), none, some (vl x_44), none, some (vl x_56), none, some (zv (fR_isBefore x_57 x_59 x_61 x_63)), some (vl x_76), none, some (vl x_88), none, some (vl x_100), none, some (vl x_112), none, some (zv (fR_isBefore x_20 x_32 x_76 x_88)), none]) dX12_along_240 (Nat.le_of_ble_eq_true rfl) rfl rfl ?_
                  have J_113 : YY l E M_X12_along 2 0 0 (pS (some (vi r)) σ') 254 [some (vr 277), some (vi i_0), some (vi j_0), some (zv (fR_isBefore x_1 x_3 x_5 x_7)), some (vl x_20), none, some (vl x_32), none, some (vl x_44), none, some (vl x_56), none, some (zv (fR_isBefore x_57 x_59 x_61 x_63)), some (vl x_76), none, some (vl x_88), none, some (vl x_100), none, some (vl x_112), none, some (zv (fR_isBefore x_20 x_32 x_76 x_88)), none] [vl (if (fR_isBefore x_20 x_32 x_76 x_88) = true then x_76 else x_20)] σ 0 0 := by
                    obtain ⟨x_114, x_114_e, H⟩ := lt_e H
                    refine z_st (congrArg (fun z => vl z :: []) x_114_e) ?_
                    refine z_lstore (M := M_X12_along) (lv' := [some (vr 277), some (vi i_0), some (vi j_0), some (zv (fR_isBefore x_1 x_3 x_5 x_7)), some (vl x_114), none, some (vl x_32), none, some (vl x_44), none, some (vl x_56), none, some (zv (fR_isBefore x_57 x_59 x_61 x_63)), some (vl x_76), none, some (vl x_88), none, some (vl x_100), none, some (vl x_112), none, some (zv (fR_isBefore x_20 x_32 x_76 x_88)), none]) dX12_along_254 (Nat.le_of_ble_eq_true rfl) rfl rfl ?_
                    have J_115 : YY l E M_X12_along 2 0 0 (pS (some (vi r)) σ') 268 [some (vr 277), some (vi i_0), some (vi j_0), some (zv (fR_isBefore x_1 x_3 x_5 x_7)), some (vl x_114), none, some (vl x_32), none, some (vl x_44), none, some (vl x_56), none, some (zv (fR_isBefore x_57 x_59 x_61 x_63)), some (vl x_76), none, some (vl x_88), none, some (vl x_100), none, some (vl x_112), none, some (zv (fR_isBefore x_20 x_32 x_76 x_88)), none] [vl (if (fR_isBefore x_20 x_32 x_76 x_88) = true then x_88 else x_32)] σ 0 0 := by
                      obtain ⟨x_116, x_116_e, H⟩ := lt_e H
                      refine z_st (congrArg (fun z => vl z :: []) x_116_e) ?_
                      refine z_lstore (M := M_X12_along) (lv' := [some (vr 277), some (vi i_0), some (vi j_0), some (zv (fR_isBefore x_1 x_3 x_5 x_7)), some (vl x_114), none, some (vl x_116), none, some (vl x_44), none, some (vl x_56), none, some (zv (fR_isBefore x_57 x_59 x_61 x_63)), some (vl x_76), none, some (vl x_88), none, some (vl x_100), none, some (vl x_112), none, some (zv (fR_isBefore x_20 x_32 x_76 x_88)), none]) dX12_along_268 (Nat.le_of_ble_eq_true rfl) rfl rfl ?_
                      refine z_lload (M := M_X12_along) dX12_along_270 rfl ?_
                      refine z_lload (M := M_X12_along) dX12_along_272 rfl ?_
                      refine z_lload (M := M_X12_along) dX12_along_274 rfl ?_
                      refine z_lload (M := M_X12_along) dX12_along_276 rfl ?_
                      refine z_callS (M := M_X12_along) (M' := M_X12_isBefore) (as := [vl x_100, vl x_112, vl x_44, vl x_56]) (rest := []) rfl rfl dX12_along_278 m_X12_isBefore t_3275 t_3276 (c_X12_isBefore hl  rfl) rfl rfl (Nat.le_of_ble_eq_true rfl) (Nat.le_of_ble_eq_true rfl) (Nat.le_of_ble_eq_true rfl) (Nat.le_of_ble_eq_true rfl) ?_
                      refine z_st (st' := [zv (fR_isBefore x_100 x_112 x_44 x_56)]) rfl ?_
                      refine z_zstore (M := M_X12_along) (lv' := [some (vr 277), some (vi i_0), some (vi j_0), some (zv (fR_isBefore x_1 x_3 x_5 x_7)), some (vl x_114), none, some (vl x_116), none, some (vl x_44), none, some (vl x_56), none, some (zv (fR_isBefore x_57 x_59 x_61 x_63)), some (vl x_76), none, some (vl x_88), none, some (vl x_100), none, some (vl x_112), none, some (zv (fR_isBefore x_20 x_32 x_76 x_88)), some (zv (fR_isBefore x_100 x_112 x_44 x_56))]) dX12_along_281 (Nat.le_of_ble_eq_true rfl) rfl rfl ?_
                      have J_117 : YY l E M_X12_along 2 0 0 (pS (some (vi r)) σ') 295 [some (vr 277), some (vi i_0), some (vi j_0), some (zv (fR_isBefore x_1 x_3 x_5 x_7)), some (vl x_114), none, some (vl x_116), none, some (vl x_44), none, some (vl x_56), none, some (zv (fR_isBefore x_57 x_59 x_61 x_63)), some (vl x_76), none, some (vl x_88), none, some (vl x_100), none, some (vl x_112), none, some (zv (fR_isBefore x_20 x_32 x_76 x_88)), some (zv (fR_isBefore x_100 x_112 x_44 x_56))] [vl (if (fR_isBefore x_100 x_112 x_44 x_56) = true then x_100 else x_44)] σ 0 0 := by
                        obtain ⟨x_118, x_118_e, H⟩ := lt_e H
                        refine z_st (congrArg (fun z => vl z :: []) x_118_e) ?_
                        refine z_lstore (M := M_X12_along) (lv' := [some (vr 277), some (vi i_0), some (vi j_0), some (zv (fR_isBefore x_1 x_3 x_5 x_7)), some (vl x_114), none, some (vl x_116), none, some (vl x_118), none, some (vl x_56), none, some (zv (fR_isBefore x_57 x_59 x_61 x_63)), some (vl x_76), none, some (vl x_88), none, some (vl x_100), none, some (vl x_112), none, some (zv (fR_isBefore x_20 x_32 x_76 x_88)), some (zv (fR_isBefore x_100 x_112 x_44 x_56))]) dX12_along_295 (Nat.le_of_ble_eq_true rfl) rfl rfl ?_
                        have J_119 : YY l E M_X12_along 2 0 0 (pS (some (vi r)) σ') 309 [some (vr 277), some (vi i_0), some (vi j_0), some (zv (fR_isBefore x_1 x_3 x_5 x_7)), some (vl x_114), none, some (vl x_116), none, some (vl x_118), none, some (vl x_56), none, some (zv (fR_isBefore x_57 x_59 x_61 x_63)), some (vl x_76), none, some (vl x_88), none, some (vl x_100), none, some (vl x_112), none, some (zv (fR_isBefore x_20 x_32 x_76 x_88)), some (zv (fR_isBefore x_100 x_112 x_44 x_56))] [vl (if (fR_isBefore x_100 x_112 x_44 x_56) = true then x_112 else x_56)] σ 0 0 := by
                          obtain ⟨x_120, x_120_e, H⟩ := lt_e H
                          refine z_st (congrArg (fun z => vl z :: []) x_120_e) ?_
                          refine z_lstore (M := M_X12_along) (lv' := [some (vr 277), some (vi i_0), some (vi j_0), some (zv (fR_isBefore x_1 x_3 x_5 x_7)), some (vl x_114), none, some (vl x_116), none, some (vl x_118), none, some (vl x_120), none, some (zv (fR_isBefore x_57 x_59 x_61 x_63)), some (vl x_76), none, some (vl x_88), none, some (vl x_100), none, some (vl x_112), none, some (zv (fR_isBefore x_20 x_32 x_76 x_88)), some (zv (fR_isBefore x_100 x_112 x_44 x_56))]) dX12_along_309 (Nat.le_of_ble_eq_true rfl) rfl rfl ?_
                          refine z_lload (M := M_X12_along) dX12_along_311 rfl ?_
                          refine z_lload (M := M_X12_along) dX12_along_313 rfl ?_
                          refine z_lload (M := M_X12_along) dX12_along_315 rfl ?_
                          refine z_lload (M := M_X12_along) dX12_along_317 rfl ?_
                          refine z_callS (M := M_X12_along) (M' := M_X12_isBefore) (as := [vl x_118, vl x_120, vl x_114, vl x_116]) (rest := []) rfl rfl dX12_along_319 m_X12_isBefore t_3275 t_3276 (c_X12_isBefore hl  rfl) rfl rfl (Nat.le_of_ble_eq_true rfl) (Nat.le_of_ble_eq_true rfl) (Nat.le_of_ble_eq_true rfl) (Nat.le_of_ble_eq_true rfl) ?_
                          refine z_st (st' := [zv (fR_isBefore x_118 x_120 x_114 x_116)]) rfl ?_
                          rcases if_e H with ⟨h_121, H⟩ | ⟨h_121, H⟩
                          · refine z_zeq_f (M := M_X12_along) (tgt := 327) dX12_along_322 (by decide) h_121 ?_
                            refine z_iconst (M := M_X12_along) dX12_along_325 ?_
                            cases H
                            exact z_iret (M := M_X12_along) dX12_along_326 rfl (Nat.le_of_ble_eq_true rfl) (Nat.le_of_ble_eq_true rfl) ⟨rfl, rfl⟩
                          · refine z_zeq_t (M := M_X12_along) (tgt := 327) dX12_along_322 (by decide) h_121 ?_
                            refine z_aload_n (M := M_X12_along) dX12_along_327 rfl ?_
                            refine z_lload (M := M_X12_along) dX12_along_328 rfl ?_
                            refine z_lload (M := M_X12_along) dX12_along_330 rfl ?_
                            obtain ⟨σ_123, hc_122, H⟩ := bd_e H
                            refine z_callV (M := M_X12_along) (M' := M_X12_meetsAt) (as := [vl x_114, vl x_116]) (rest := []) rfl rfl dX12_along_332 m_X12_meetsAt t_3278 t_3280 s_235 (c_X12_meetsAt hl  hc_122) rfl rfl ly_277 rfl (Nat.le_of_ble_eq_true rfl) (Nat.le_of_ble_eq_true rfl) (Nat.le_of_ble_eq_true rfl) (Nat.le_of_ble_eq_true rfl) ?_
                            refine z_st (st' := []) rfl ?_
                            have J_124 : YY l E M_X12_along 2 0 0 (pS (some (vi r)) σ') 354 [some (vr 277), some (vi i_0), some (vi j_0), some (zv (fR_isBefore x_1 x_3 x_5 x_7)), some (vl x_114), none, some (vl x_116), none, some (vl x_118), none, some (vl x_120), none, some (zv (fR_isBefore x_57 x_59 x_61 x_63)), some (vl x_76), none, some (vl x_88), none, some (vl x_100), none, some (vl x_112), none, some (zv (fR_isBefore x_20 x_32 x_76 x_88)), some (zv (fR_isBefore x_100 x_112 x_44 x_56))] [vi (if (fR_isBefore x_114 x_116 x_118 x_120) = true then 2 else 1)] σ_123 0 0 := by
                              cases H
                              exact z_iret (M := M_X12_along) dX12_along_354 rfl (Nat.le_of_ble_eq_true rfl) (Nat.le_of_ble_eq_true rfl) ⟨rfl, rfl⟩
                            refine z_lload (M := M_X12_along) dX12_along_335 rfl ?_
                            refine z_lload (M := M_X12_along) dX12_along_337 rfl ?_
                            refine z_lload (M := M_X12_along) dX12_along_339 rfl ?_
                            refine z_lload (M := M_X12_along) dX12_along_341 rfl ?_
                            refine z_callS (M := M_X12_along) (M' := M_X12_isBefore) (as := [vl x_114, vl x_116, vl x_118, vl x_120]) (rest := []) rfl rfl dX12_along_343 m_X12_isBefore t_3275 t_3276 (c_X12_isBefore hl  rfl) rfl rfl (Nat.le_of_ble_eq_true rfl) (Nat.le_of_ble_eq_true rfl) (Nat.le_of_ble_eq_true rfl) (Nat.le_of_ble_eq_true rfl) ?_
                            refine z_st (st' := [zv (fR_isBefore x_114 x_116 x_118 x_120)]) rfl ?_
                            by_cases h_125 : (fR_isBefore x_114 x_116 x_118 x_120) = true
                            · refine z_zeq_f (M := M_X12_along) (tgt := 353) dX12_along_346 (by decide) h_125 ?_
                              refine z_iconst (M := M_X12_along) dX12_along_349 ?_
                              refine z_goto (M := M_X12_along) (tgt := 354) dX12_along_350 (by decide) ?_
                              exact z_st (by rw [if_pos (c := (fR_isBefore x_114 x_116 x_118 x_120) = true) h_125]) J_124
                            · refine z_zeq_t (M := M_X12_along) (tgt := 353) dX12_along_346 (by decide) h_125 ?_
                              refine z_iconst (M := M_X12_along) dX12_along_353 ?_
                              exact z_st (by rw [if_neg (c := (fR_isBefore x_114 x_116 x_118 x_120) = true) h_125]) J_124
                        refine z_zload (M := M_X12_along) dX12_along_297 rfl ?_
                        by_cases h_126 : (fR_isBefore x_100 x_112 x_44 x_56) = true
                        · refine z_zeq_f (M := M_X12_along) (tgt := 307) dX12_along_299 (by decide) h_126 ?_
                          refine z_lload (M := M_X12_along) dX12_along_302 rfl ?_
                          refine z_goto (M := M_X12_along) (tgt := 309) dX12_along_304 (by decide) ?_
                          exact z_st (by rw [if_pos (c := (fR_isBefore x_100 x_112 x_44 x_56) = true) h_126]) J_119
                        · refine z_zeq_t (M := M_X12_along) (tgt := 307) dX12_along_299 (by decide) h_126 ?_
                          refine z_lload (M := M_X12_along) dX12_along_307 rfl ?_
                          exact z_st (by rw [if_neg (c := (fR_isBefore x_100 x_112 x_44 x_56) = true) h_126]) J_119
                      refine z_zload (M := M_X12_along) dX12_along_283 rfl ?_
                      by_cases h_127 : (fR_isBefore x_100 x_112 x_44 x_56) = true
                      · refine z_zeq_f (M := M_X12_along) (tgt := 293) dX12_along_285 (by decide) h_127 ?_
                        refine z_lload (M := M_X12_along) dX12_along_288 rfl ?_
                        refine z_goto (M := M_X12_along) (tgt := 295) dX12_along_290 (by decide) ?_
                        exact z_st (by rw [if_pos (c := (fR_isBefore x_100 x_112 x_44 x_56) = true) h_127]) J_117
                      · refine z_zeq_t (M := M_X12_along) (tgt := 293) dX12_along_285 (by decide) h_127 ?_
                        refine z_lload (M := M_X12_along) dX12_along_293 rfl ?_
                        exact z_st (by rw [if_neg (c := (fR_isBefore x_100 x_112 x_44 x_56) = true) h_127]) J_117
                    refine z_zload (M := M_X12_along) dX12_along_256 rfl ?_
                    by_cases h_128 : (fR_isBefore x_20 x_32 x_76 x_88) = true
                    · refine z_zeq_f (M := M_X12_along) (tgt := 266) dX12_along_258 (by decide) h_128 ?_
                      refine z_lload (M := M_X12_along) dX12_along_261 rfl ?_
                      refine z_goto (M := M_X12_along) (tgt := 268) dX12_along_263 (by decide) ?_
                      exact z_st (by rw [if_pos (c := (fR_isBefore x_20 x_32 x_76 x_88) = true) h_128]) J_115
                    · refine z_zeq_t (M := M_X12_along) (tgt := 266) dX12_along_258 (by decide) h_128 ?_
                      refine z_lload (M := M_X12_along) dX12_along_266 rfl ?_
                      exact z_st (by rw [if_neg (c := (fR_isBefore x_20 x_32 x_76 x_88) = true) h_128]) J_115
                  refine z_zload (M := M_X12_along) dX12_along_242 rfl ?_
                  by_cases h_129 : (fR_isBefore x_20 x_32 x_76 x_88) = true
                  · refine z_zeq_f (M := M_X12_along) (tgt := 252) dX12_along_244 (by decide) h_129 ?_
                    refine z_lload (M := M_X12_along) dX12_along_247 rfl ?_
                    refine z_goto (M := M_X12_along) (tgt := 254) dX12_along_249 (by decide) ?_
                    exact z_st (by rw [if_pos (c := (fR_isBefore x_20 x_32 x_76 x_88) = true) h_129]) J_113
                  · refine z_zeq_t (M := M_X12_along) (tgt := 252) dX12_along_244 (by decide) h_129 ?_
                    refine z_lload (M := M_X12_along) dX12_along_252 rfl ?_
                    exact z_st (by rw [if_neg (c := (fR_isBefore x_20 x_32 x_76 x_88) = true) h_129]) J_113
                have H := he_131
                refine z_zload (M := M_X12_along) dX12_along_207 rfl ?_
                rcases if_e H with ⟨h_105, H⟩ | ⟨h_105, H⟩
                · refine z_zeq_f (M := M_X12_along) (tgt := 221) dX12_along_209 (by decide) h_105 ?_
                  refine z_aload_n (M := M_X12_along) dX12_along_212 rfl ?_
                  refine z_getR (M := M_X12_along) (ci := 15) (C := RX12) (T := TX12) (Nf := 135) (ty := tyX12) cl15 dX12_along_213 ly_277 42 (by decide) t_2433 rfl ?_
                  refine z_iload_n (M := M_X12_along) dX12_along_216 rfl ?_
                  obtain ⟨x_106, x_106_e, hi_107, H⟩ := rd_e H
                  refine z_lald (M := M_X12_along) dX12_along_217 ly_300 rfl rfl rfl hi_107 x_106_e ?_
                  refine z_goto (M := M_X12_along) (tgt := 227) dX12_along_218 (by decide) ?_
                  exact J_133 _ (Option.some.inj H).symm
                · refine z_zeq_t (M := M_X12_along) (tgt := 221) dX12_along_209 (by decide) h_105 ?_
                  refine z_aload_n (M := M_X12_along) dX12_along_221 rfl ?_
                  refine z_getR (M := M_X12_along) (ci := 15) (C := RX12) (T := TX12) (Nf := 135) (ty := tyX12) cl15 dX12_along_222 ly_277 44 (by decide) t_2435 rfl ?_
                  refine z_iload_n (M := M_X12_along) dX12_along_225 rfl ?_
                  obtain ⟨x_109, x_109_e, hi_110, H⟩ := rd_e H
                  refine z_lald (M := M_X12_along) dX12_along_226 ly_302 rfl rfl rfl hi_110 x_109_e ?_
                  exact J_133 _ (Option.some.inj H).symm
              have H := he_135
              refine z_zload (M := M_X12_along) dX12_along_185 rfl ?_
              rcases if_e H with ⟨h_93, H⟩ | ⟨h_93, H⟩
              · refine z_zeq_f (M := M_X12_along) (tgt := 199) dX12_along_187 (by decide) h_93 ?_
                refine z_aload_n (M := M_X12_along) dX12_along_190 rfl ?_
                refine z_getR (M := M_X12_along) (ci := 15) (C := RX12) (T := TX12) (Nf := 135) (ty := tyX12) cl15 dX12_along_191 ly_277 41 (by decide) t_2432 rfl ?_
                refine z_iload_n (M := M_X12_along) dX12_along_194 rfl ?_
                obtain ⟨x_94, x_94_e, hi_95, H⟩ := rd_e H
                refine z_lald (M := M_X12_along) dX12_along_195 ly_299 rfl rfl rfl hi_95 x_94_e ?_
                refine z_goto (M := M_X12_along) (tgt := 205) dX12_along_196 (by decide) ?_
                exact J_137 _ (Option.some.inj H).symm
              · refine z_zeq_t (M := M_X12_along) (tgt := 199) dX12_along_187 (by decide) h_93 ?_
                refine z_aload_n (M := M_X12_along) dX12_along_199 rfl ?_
                refine z_getR (M := M_X12_along) (ci := 15) (C := RX12) (T := TX12) (Nf := 135) (ty := tyX12) cl15 dX12_along_200 ly_277 43 (by decide) t_2434 rfl ?_
                refine z_iload_n (M := M_X12_along) dX12_along_203 rfl ?_
                obtain ⟨x_97, x_97_e, hi_98, H⟩ := rd_e H
                refine z_lald (M := M_X12_along) dX12_along_204 ly_301 rfl rfl rfl hi_98 x_97_e ?_
                exact J_137 _ (Option.some.inj H).symm
            have H := he_139
            refine z_zload (M := M_X12_along) dX12_along_163 rfl ?_
            rcases if_e H with ⟨h_81, H⟩ | ⟨h_81, H⟩
            · refine z_zeq_f (M := M_X12_along) (tgt := 177) dX12_along_165 (by decide) h_81 ?_
              refine z_aload_n (M := M_X12_along) dX12_along_168 rfl ?_
              refine z_getR (M := M_X12_along) (ci := 15) (C := RX12) (T := TX12) (Nf := 135) (ty := tyX12) cl15 dX12_along_169 ly_277 44 (by decide) t_2435 rfl ?_
              refine z_iload_n (M := M_X12_along) dX12_along_172 rfl ?_
              obtain ⟨x_82, x_82_e, hi_83, H⟩ := rd_e H
              refine z_lald (M := M_X12_along) dX12_along_173 ly_302 rfl rfl rfl hi_83 x_82_e ?_
              refine z_goto (M := M_X12_along) (tgt := 183) dX12_along_174 (by decide) ?_
              exact J_141 _ (Option.some.inj H).symm
            · refine z_zeq_t (M := M_X12_along) (tgt := 177) dX12_along_165 (by decide) h_81 ?_
              refine z_aload_n (M := M_X12_along) dX12_along_177 rfl ?_
              refine z_getR (M := M_X12_along) (ci := 15) (C := RX12) (T := TX12) (Nf := 135) (ty := tyX12) cl15 dX12_along_178 ly_277 42 (by decide) t_2433 rfl ?_
              refine z_iload_n (M := M_X12_along) dX12_along_181 rfl ?_
              obtain ⟨x_85, x_85_e, hi_86, H⟩ := rd_e H
              refine z_lald (M := M_X12_along) dX12_along_182 ly_300 rfl rfl rfl hi_86 x_85_e ?_
              exact J_141 _ (Option.some.inj H).symm
          have H := he_143
          refine z_zload (M := M_X12_along) dX12_along_141 rfl ?_
          rcases if_e H with ⟨h_69, H⟩ | ⟨h_69, H⟩
          · refine z_zeq_f (M := M_X12_along) (tgt := 155) dX12_along_143 (by decide) h_69 ?_
            refine z_aload_n (M := M_X12_along) dX12_along_146 rfl ?_
            refine z_getR (M := M_X12_along) (ci := 15) (C := RX12) (T := TX12) (Nf := 135) (ty := tyX12) cl15 dX12_along_147 ly_277 43 (by decide) t_2434 rfl ?_
            refine z_iload_n (M := M_X12_along) dX12_along_150 rfl ?_
            obtain ⟨x_70, x_70_e, hi_71, H⟩ := rd_e H
            refine z_lald (M := M_X12_along) dX12_along_151 ly_301 rfl rfl rfl hi_71 x_70_e ?_
            refine z_goto (M := M_X12_along) (tgt := 161) dX12_along_152 (by decide) ?_
            exact J_145 _ (Option.some.inj H).symm
          · refine z_zeq_t (M := M_X12_along) (tgt := 155) dX12_along_143 (by decide) h_69 ?_
            refine z_aload_n (M := M_X12_along) dX12_along_155 rfl ?_
            refine z_getR (M := M_X12_along) (ci := 15) (C := RX12) (T := TX12) (Nf := 135) (ty := tyX12) cl15 dX12_along_156 ly_277 41 (by decide) t_2432 rfl ?_
            refine z_iload_n (M := M_X12_along) dX12_along_159 rfl ?_
            obtain ⟨x_73, x_73_e, hi_74, H⟩ := rd_e H
            refine z_lald (M := M_X12_along) dX12_along_160 ly_299 rfl rfl rfl hi_74 x_73_e ?_
            exact J_145 _ (Option.some.inj H).symm
        have H := he_147
        refine z_zload_n (M := M_X12_along) dX12_along_91 rfl ?_
        rcases if_e H with ⟨h_49, H⟩ | ⟨h_49, H⟩
        · refine z_zeq_f (M := M_X12_along) (tgt := 104) dX12_along_92 (by decide) h_49 ?_
          refine z_aload_n (M := M_X12_along) dX12_along_95 rfl ?_
          refine z_getR (M := M_X12_along) (ci := 15) (C := RX12) (T := TX12) (Nf := 135) (ty := tyX12) cl15 dX12_along_96 ly_277 42 (by decide) t_2433 rfl ?_
          refine z_iload_n (M := M_X12_along) dX12_along_99 rfl ?_
          obtain ⟨x_50, x_50_e, hi_51, H⟩ := rd_e H
          refine z_lald (M := M_X12_along) dX12_along_100 ly_300 rfl rfl rfl hi_51 x_50_e ?_
          refine z_goto (M := M_X12_along) (tgt := 110) dX12_along_101 (by decide) ?_
          exact J_149 _ (Option.some.inj H).symm
        · refine z_zeq_t (M := M_X12_along) (tgt := 104) dX12_along_92 (by decide) h_49 ?_
          refine z_aload_n (M := M_X12_along) dX12_along_104 rfl ?_
          refine z_getR (M := M_X12_along) (ci := 15) (C := RX12) (T := TX12) (Nf := 135) (ty := tyX12) cl15 dX12_along_105 ly_277 44 (by decide) t_2435 rfl ?_
          refine z_iload_n (M := M_X12_along) dX12_along_108 rfl ?_
          obtain ⟨x_53, x_53_e, hi_54, H⟩ := rd_e H
          refine z_lald (M := M_X12_along) dX12_along_109 ly_302 rfl rfl rfl hi_54 x_53_e ?_
          exact J_149 _ (Option.some.inj H).symm
      have H := he_151
      refine z_zload_n (M := M_X12_along) dX12_along_70 rfl ?_
      rcases if_e H with ⟨h_37, H⟩ | ⟨h_37, H⟩
      · refine z_zeq_f (M := M_X12_along) (tgt := 83) dX12_along_71 (by decide) h_37 ?_
        refine z_aload_n (M := M_X12_along) dX12_along_74 rfl ?_
        refine z_getR (M := M_X12_along) (ci := 15) (C := RX12) (T := TX12) (Nf := 135) (ty := tyX12) cl15 dX12_along_75 ly_277 41 (by decide) t_2432 rfl ?_
        refine z_iload_n (M := M_X12_along) dX12_along_78 rfl ?_
        obtain ⟨x_38, x_38_e, hi_39, H⟩ := rd_e H
        refine z_lald (M := M_X12_along) dX12_along_79 ly_299 rfl rfl rfl hi_39 x_38_e ?_
        refine z_goto (M := M_X12_along) (tgt := 89) dX12_along_80 (by decide) ?_
        exact J_153 _ (Option.some.inj H).symm
      · refine z_zeq_t (M := M_X12_along) (tgt := 83) dX12_along_71 (by decide) h_37 ?_
        refine z_aload_n (M := M_X12_along) dX12_along_83 rfl ?_
        refine z_getR (M := M_X12_along) (ci := 15) (C := RX12) (T := TX12) (Nf := 135) (ty := tyX12) cl15 dX12_along_84 ly_277 43 (by decide) t_2434 rfl ?_
        refine z_iload_n (M := M_X12_along) dX12_along_87 rfl ?_
        obtain ⟨x_41, x_41_e, hi_42, H⟩ := rd_e H
        refine z_lald (M := M_X12_along) dX12_along_88 ly_301 rfl rfl rfl hi_42 x_41_e ?_
        exact J_153 _ (Option.some.inj H).symm
    have H := he_155
    refine z_zload_n (M := M_X12_along) dX12_along_49 rfl ?_
    rcases if_e H with ⟨h_25, H⟩ | ⟨h_25, H⟩
    · refine z_zeq_f (M := M_X12_along) (tgt := 62) dX12_along_50 (by decide) h_25 ?_
      refine z_aload_n (M := M_X12_along) dX12_along_53 rfl ?_
      refine z_getR (M := M_X12_along) (ci := 15) (C := RX12) (T := TX12) (Nf := 135) (ty := tyX12) cl15 dX12_along_54 ly_277 44 (by decide) t_2435 rfl ?_
      refine z_iload_n (M := M_X12_along) dX12_along_57 rfl ?_
      obtain ⟨x_26, x_26_e, hi_27, H⟩ := rd_e H
      refine z_lald (M := M_X12_along) dX12_along_58 ly_302 rfl rfl rfl hi_27 x_26_e ?_
      refine z_goto (M := M_X12_along) (tgt := 68) dX12_along_59 (by decide) ?_
      exact J_157 _ (Option.some.inj H).symm
    · refine z_zeq_t (M := M_X12_along) (tgt := 62) dX12_along_50 (by decide) h_25 ?_
      refine z_aload_n (M := M_X12_along) dX12_along_62 rfl ?_
      refine z_getR (M := M_X12_along) (ci := 15) (C := RX12) (T := TX12) (Nf := 135) (ty := tyX12) cl15 dX12_along_63 ly_277 42 (by decide) t_2433 rfl ?_
      refine z_iload_n (M := M_X12_along) dX12_along_66 rfl ?_
      obtain ⟨x_29, x_29_e, hi_30, H⟩ := rd_e H
      refine z_lald (M := M_X12_along) dX12_along_67 ly_300 rfl rfl rfl hi_30 x_29_e ?_
      exact J_157 _ (Option.some.inj H).symm
  have H := he_159
  refine z_zload_n (M := M_X12_along) dX12_along_28 rfl ?_
  rcases if_e H with ⟨h_13, H⟩ | ⟨h_13, H⟩
  · refine z_zeq_f (M := M_X12_along) (tgt := 41) dX12_along_29 (by decide) h_13 ?_
    refine z_aload_n (M := M_X12_along) dX12_along_32 rfl ?_
    refine z_getR (M := M_X12_along) (ci := 15) (C := RX12) (T := TX12) (Nf := 135) (ty := tyX12) cl15 dX12_along_33 ly_277 43 (by decide) t_2434 rfl ?_
    refine z_iload_n (M := M_X12_along) dX12_along_36 rfl ?_
    obtain ⟨x_14, x_14_e, hi_15, H⟩ := rd_e H
    refine z_lald (M := M_X12_along) dX12_along_37 ly_301 rfl rfl rfl hi_15 x_14_e ?_
    refine z_goto (M := M_X12_along) (tgt := 47) dX12_along_38 (by decide) ?_
    exact J_161 _ (Option.some.inj H).symm
  · refine z_zeq_t (M := M_X12_along) (tgt := 41) dX12_along_29 (by decide) h_13 ?_
    refine z_aload_n (M := M_X12_along) dX12_along_41 rfl ?_
    refine z_getR (M := M_X12_along) (ci := 15) (C := RX12) (T := TX12) (Nf := 135) (ty := tyX12) cl15 dX12_along_42 ly_277 41 (by decide) t_2432 rfl ?_
    refine z_iload_n (M := M_X12_along) dX12_along_45 rfl ?_
    obtain ⟨x_17, x_17_e, hi_18, H⟩ := rd_e H
    refine z_lald (M := M_X12_along) dX12_along_46 ly_299 rfl rfl rfl hi_18 x_17_e ?_
    exact J_161 _ (Option.some.inj H).symm
theorem c_X12_meet (hl : l.stackTraces = false) {σ : SG} {i_0 : Int} {j_0 : Int} {r : Int} {σ' : SG}  (H : fR_meet σ i_0 j_0 = some (r, σ')) : en_S l E M_X12_meet 3 0 0 [vr 277, vi i_0, vi j_0] σ (pS (some (vi r)) σ') := by
  unfold fR_meet at H
  refine z_mk (lv := [some (vr 277), some (vi i_0), some (vi j_0), none, none, none, none]) m_X12_meet rfl hl (Nat.le_of_ble_eq_true rfl) rfl ?_
  refine z_aload_n (M := M_X12_meet) dX12_meet_0 rfl ?_
  refine z_getR (M := M_X12_meet) (ci := 15) (C := RX12) (T := TX12) (Nf := 135) (ty := tyX12) cl15 dX12_meet_1 ly_277 41 (by decide) t_2432 rfl ?_
  refine z_iload_n (M := M_X12_meet) dX12_meet_4 rfl ?_
  obtain ⟨x_1, x_1_e, hi_2, H⟩ := rd_e H
  refine z_lald (M := M_X12_meet) dX12_meet_5 ly_299 rfl rfl rfl hi_2 x_1_e ?_
  refine z_aload_n (M := M_X12_meet) dX12_meet_6 rfl ?_
  refine z_getR (M := M_X12_meet) (ci := 15) (C := RX12) (T := TX12) (Nf := 135) (ty := tyX12) cl15 dX12_meet_7 ly_277 42 (by decide) t_2433 rfl ?_
  refine z_iload_n (M := M_X12_meet) dX12_meet_10 rfl ?_
  obtain ⟨x_3, x_3_e, hi_4, H⟩ := rd_e H
  refine z_lald (M := M_X12_meet) dX12_meet_11 ly_300 rfl rfl rfl hi_4 x_3_e ?_
  refine z_aload_n (M := M_X12_meet) dX12_meet_12 rfl ?_
  refine z_getR (M := M_X12_meet) (ci := 15) (C := RX12) (T := TX12) (Nf := 135) (ty := tyX12) cl15 dX12_meet_13 ly_277 43 (by decide) t_2434 rfl ?_
  refine z_iload_n (M := M_X12_meet) dX12_meet_16 rfl ?_
  obtain ⟨x_5, x_5_e, hi_6, H⟩ := rd_e H
  refine z_lald (M := M_X12_meet) dX12_meet_17 ly_301 rfl rfl rfl hi_6 x_5_e ?_
  refine z_aload_n (M := M_X12_meet) dX12_meet_18 rfl ?_
  refine z_getR (M := M_X12_meet) (ci := 15) (C := RX12) (T := TX12) (Nf := 135) (ty := tyX12) cl15 dX12_meet_19 ly_277 44 (by decide) t_2435 rfl ?_
  refine z_iload_n (M := M_X12_meet) dX12_meet_22 rfl ?_
  obtain ⟨x_7, x_7_e, hi_8, H⟩ := rd_e H
  refine z_lald (M := M_X12_meet) dX12_meet_23 ly_302 rfl rfl rfl hi_8 x_7_e ?_
  refine z_aload_n (M := M_X12_meet) dX12_meet_24 rfl ?_
  refine z_getR (M := M_X12_meet) (ci := 15) (C := RX12) (T := TX12) (Nf := 135) (ty := tyX12) cl15 dX12_meet_25 ly_277 41 (by decide) t_2432 rfl ?_
  refine z_iload_n (M := M_X12_meet) dX12_meet_28 rfl ?_
  obtain ⟨x_9, x_9_e, hi_10, H⟩ := rd_e H
  refine z_lald (M := M_X12_meet) dX12_meet_29 ly_299 rfl rfl rfl hi_10 x_9_e ?_
  refine z_aload_n (M := M_X12_meet) dX12_meet_30 rfl ?_
  refine z_getR (M := M_X12_meet) (ci := 15) (C := RX12) (T := TX12) (Nf := 135) (ty := tyX12) cl15 dX12_meet_31 ly_277 42 (by decide) t_2433 rfl ?_
  refine z_iload_n (M := M_X12_meet) dX12_meet_34 rfl ?_
  obtain ⟨x_11, x_11_e, hi_12, H⟩ := rd_e H
  refine z_lald (M := M_X12_meet) dX12_meet_35 ly_300 rfl rfl rfl hi_12 x_11_e ?_
  refine z_callS (M := M_X12_meet) (M' := M_X12_turn) (as := [vl x_1, vl x_3, vl x_5, vl x_7, vl x_9, vl x_11]) (rest := []) rfl rfl dX12_meet_36 m_X12_turn t_3262 t_3263 (c_X12_turn hl  rfl) rfl rfl (Nat.le_of_ble_eq_true rfl) (Nat.le_of_ble_eq_true rfl) (Nat.le_of_ble_eq_true rfl) (Nat.le_of_ble_eq_true rfl) ?_
  refine z_st (st' := [vi (fR_turn x_1 x_3 x_5 x_7 x_9 x_11)]) rfl ?_
  refine z_istore_n (M := M_X12_meet) (lv' := [some (vr 277), some (vi i_0), some (vi j_0), some (vi (fR_turn x_1 x_3 x_5 x_7 x_9 x_11)), none, none, none]) dX12_meet_39 (Nat.le_of_ble_eq_true rfl) rfl rfl ?_
  refine z_aload_n (M := M_X12_meet) dX12_meet_40 rfl ?_
  refine z_getR (M := M_X12_meet) (ci := 15) (C := RX12) (T := TX12) (Nf := 135) (ty := tyX12) cl15 dX12_meet_41 ly_277 41 (by decide) t_2432 rfl ?_
  refine z_iload_n (M := M_X12_meet) dX12_meet_44 rfl ?_
  obtain ⟨x_13, x_13_e, hi_14, H⟩ := rd_e H
  refine z_lald (M := M_X12_meet) dX12_meet_45 ly_299 rfl rfl rfl hi_14 x_13_e ?_
  refine z_aload_n (M := M_X12_meet) dX12_meet_46 rfl ?_
  refine z_getR (M := M_X12_meet) (ci := 15) (C := RX12) (T := TX12) (Nf := 135) (ty := tyX12) cl15 dX12_meet_47 ly_277 42 (by decide) t_2433 rfl ?_
  refine z_iload_n (M := M_X12_meet) dX12_meet_50 rfl ?_
  obtain ⟨x_15, x_15_e, hi_16, H⟩ := rd_e H
  refine z_lald (M := M_X12_meet) dX12_meet_51 ly_300 rfl rfl rfl hi_16 x_15_e ?_
  refine z_aload_n (M := M_X12_meet) dX12_meet_52 rfl ?_
  refine z_getR (M := M_X12_meet) (ci := 15) (C := RX12) (T := TX12) (Nf := 135) (ty := tyX12) cl15 dX12_meet_53 ly_277 43 (by decide) t_2434 rfl ?_
  refine z_iload_n (M := M_X12_meet) dX12_meet_56 rfl ?_
  obtain ⟨x_17, x_17_e, hi_18, H⟩ := rd_e H
  refine z_lald (M := M_X12_meet) dX12_meet_57 ly_301 rfl rfl rfl hi_18 x_17_e ?_
  refine z_aload_n (M := M_X12_meet) dX12_meet_58 rfl ?_
  refine z_getR (M := M_X12_meet) (ci := 15) (C := RX12) (T := TX12) (Nf := 135) (ty := tyX12) cl15 dX12_meet_59 ly_277 44 (by decide) t_2435 rfl ?_
  refine z_iload_n (M := M_X12_meet) dX12_meet_62 rfl ?_
  obtain ⟨x_19, x_19_e, hi_20, H⟩ := rd_e H
  refine z_lald (M := M_X12_meet) dX12_meet_63 ly_302 rfl rfl rfl hi_20 x_19_e ?_
  refine z_aload_n (M := M_X12_meet) dX12_meet_64 rfl ?_
  refine z_getR (M := M_X12_meet) (ci := 15) (C := RX12) (T := TX12) (Nf := 135) (ty := tyX12) cl15 dX12_meet_65 ly_277 43 (by decide) t_2434 rfl ?_
  refine z_iload_n (M := M_X12_meet) dX12_meet_68 rfl ?_
  obtain ⟨x_21, x_21_e, hi_22, H⟩ := rd_e H
  refine z_lald (M := M_X12_meet) dX12_meet_69 ly_301 rfl rfl rfl hi_22 x_21_e ?_
  refine z_aload_n (M := M_X12_meet) dX12_meet_70 rfl ?_
  refine z_getR (M := M_X12_meet) (ci := 15) (C := RX12) (T := TX12) (Nf := 135) (ty := tyX12) cl15 dX12_meet_71 ly_277 44 (by decide) t_2435 rfl ?_
  refine z_iload_n (M := M_X12_meet) dX12_meet_74 rfl ?_
  obtain ⟨x_23, x_23_e, hi_24, H⟩ := rd_e H
  refine z_lald (M := M_X12_meet) dX12_meet_75 ly_302 rfl rfl rfl hi_24 x_23_e ?_
  refine z_callS (M := M_X12_meet) (M' := M_X12_turn) (as := [vl x_13, vl x_15, vl x_17, vl x_19, vl x_21, vl x_23]) (rest := []) rfl rfl dX12_meet_76 m_X12_turn t_3262 t_3263 (c_X12_turn hl  rfl) rfl rfl (Nat.le_of_ble_eq_true rfl) (Nat.le_of_ble_eq_true rfl) (Nat.le_of_ble_eq_true rfl) (Nat.le_of_ble_eq_true rfl) ?_
  refine z_st (st' := [vi (fR_turn x_13 x_15 x_17 x_19 x_21 x_23)]) rfl ?_
  refine z_istore (M := M_X12_meet) (lv' := [some (vr 277), some (vi i_0), some (vi j_0), some (vi (fR_turn x_1 x_3 x_5 x_7 x_9 x_11)), some (vi (fR_turn x_13 x_15 x_17 x_19 x_21 x_23)), none, none]) dX12_meet_79 (Nat.le_of_ble_eq_true rfl) rfl rfl ?_
  refine z_aload_n (M := M_X12_meet) dX12_meet_81 rfl ?_
  refine z_getR (M := M_X12_meet) (ci := 15) (C := RX12) (T := TX12) (Nf := 135) (ty := tyX12) cl15 dX12_meet_82 ly_277 41 (by decide) t_2432 rfl ?_
  refine z_iload_n (M := M_X12_meet) dX12_meet_85 rfl ?_
  obtain ⟨x_25, x_25_e, hi_26, H⟩ := rd_e H
  refine z_lald (M := M_X12_meet) dX12_meet_86 ly_299 rfl rfl rfl hi_26 x_25_e ?_
  refine z_aload_n (M := M_X12_meet) dX12_meet_87 rfl ?_
  refine z_getR (M := M_X12_meet) (ci := 15) (C := RX12) (T := TX12) (Nf := 135) (ty := tyX12) cl15 dX12_meet_88 ly_277 42 (by decide) t_2433 rfl ?_
  refine z_iload_n (M := M_X12_meet) dX12_meet_91 rfl ?_
  obtain ⟨x_27, x_27_e, hi_28, H⟩ := rd_e H
  refine z_lald (M := M_X12_meet) dX12_meet_92 ly_300 rfl rfl rfl hi_28 x_27_e ?_
  refine z_aload_n (M := M_X12_meet) dX12_meet_93 rfl ?_
  refine z_getR (M := M_X12_meet) (ci := 15) (C := RX12) (T := TX12) (Nf := 135) (ty := tyX12) cl15 dX12_meet_94 ly_277 43 (by decide) t_2434 rfl ?_
  refine z_iload_n (M := M_X12_meet) dX12_meet_97 rfl ?_
  obtain ⟨x_29, x_29_e, hi_30, H⟩ := rd_e H
  refine z_lald (M := M_X12_meet) dX12_meet_98 ly_301 rfl rfl rfl hi_30 x_29_e ?_
  refine z_aload_n (M := M_X12_meet) dX12_meet_99 rfl ?_
  refine z_getR (M := M_X12_meet) (ci := 15) (C := RX12) (T := TX12) (Nf := 135) (ty := tyX12) cl15 dX12_meet_100 ly_277 44 (by decide) t_2435 rfl ?_
  refine z_iload_n (M := M_X12_meet) dX12_meet_103 rfl ?_
  obtain ⟨x_31, x_31_e, hi_32, H⟩ := rd_e H
  refine z_lald (M := M_X12_meet) dX12_meet_104 ly_302 rfl rfl rfl hi_32 x_31_e ?_
  refine z_aload_n (M := M_X12_meet) dX12_meet_105 rfl ?_
  refine z_getR (M := M_X12_meet) (ci := 15) (C := RX12) (T := TX12) (Nf := 135) (ty := tyX12) cl15 dX12_meet_106 ly_277 41 (by decide) t_2432 rfl ?_
  refine z_iload_n (M := M_X12_meet) dX12_meet_109 rfl ?_
  obtain ⟨x_33, x_33_e, hi_34, H⟩ := rd_e H
  refine z_lald (M := M_X12_meet) dX12_meet_110 ly_299 rfl rfl rfl hi_34 x_33_e ?_
  refine z_aload_n (M := M_X12_meet) dX12_meet_111 rfl ?_
  refine z_getR (M := M_X12_meet) (ci := 15) (C := RX12) (T := TX12) (Nf := 135) (ty := tyX12) cl15 dX12_meet_112 ly_277 42 (by decide) t_2433 rfl ?_
  refine z_iload_n (M := M_X12_meet) dX12_meet_115 rfl ?_
  obtain ⟨x_35, x_35_e, hi_36, H⟩ := rd_e H
  refine z_lald (M := M_X12_meet) dX12_meet_116 ly_300 rfl rfl rfl hi_36 x_35_e ?_
  refine z_callS (M := M_X12_meet) (M' := M_X12_turn) (as := [vl x_25, vl x_27, vl x_29, vl x_31, vl x_33, vl x_35]) (rest := []) rfl rfl dX12_meet_117 m_X12_turn t_3262 t_3263 (c_X12_turn hl  rfl) rfl rfl (Nat.le_of_ble_eq_true rfl) (Nat.le_of_ble_eq_true rfl) (Nat.le_of_ble_eq_true rfl) (Nat.le_of_ble_eq_true rfl) ?_
  refine z_st (st' := [vi (fR_turn x_25 x_27 x_29 x_31 x_33 x_35)]) rfl ?_
  refine z_istore (M := M_X12_meet) (lv' := [some (vr 277), some (vi i_0), some (vi j_0), some (vi (fR_turn x_1 x_3 x_5 x_7 x_9 x_11)), some (vi (fR_turn x_13 x_15 x_17 x_19 x_21 x_23)), some (vi (fR_turn x_25 x_27 x_29 x_31 x_33 x_35)), none]) dX12_meet_120 (Nat.le_of_ble_eq_true rfl) rfl rfl ?_
  refine z_aload_n (M := M_X12_meet) dX12_meet_122 rfl ?_
  refine z_getR (M := M_X12_meet) (ci := 15) (C := RX12) (T := TX12) (Nf := 135) (ty := tyX12) cl15 dX12_meet_123 ly_277 41 (by decide) t_2432 rfl ?_
  refine z_iload_n (M := M_X12_meet) dX12_meet_126 rfl ?_
  obtain ⟨x_37, x_37_e, hi_38, H⟩ := rd_e H
  refine z_lald (M := M_X12_meet) dX12_meet_127 ly_299 rfl rfl rfl hi_38 x_37_e ?_
  refine z_aload_n (M := M_X12_meet) dX12_meet_128 rfl ?_
  refine z_getR (M := M_X12_meet) (ci := 15) (C := RX12) (T := TX12) (Nf := 135) (ty := tyX12) cl15 dX12_meet_129 ly_277 42 (by decide) t_2433 rfl ?_
  refine z_iload_n (M := M_X12_meet) dX12_meet_132 rfl ?_
  obtain ⟨x_39, x_39_e, hi_40, H⟩ := rd_e H
  refine z_lald (M := M_X12_meet) dX12_meet_133 ly_300 rfl rfl rfl hi_40 x_39_e ?_
  refine z_aload_n (M := M_X12_meet) dX12_meet_134 rfl ?_
  refine z_getR (M := M_X12_meet) (ci := 15) (C := RX12) (T := TX12) (Nf := 135) (ty := tyX12) cl15 dX12_meet_135 ly_277 43 (by decide) t_2434 rfl ?_
  refine z_iload_n (M := M_X12_meet) dX12_meet_138 rfl ?_
  obtain ⟨x_41, x_41_e, hi_42, H⟩ := rd_e H
  refine z_lald (M := M_X12_meet) dX12_meet_139 ly_301 rfl rfl rfl hi_42 x_41_e ?_
  refine z_aload_n (M := M_X12_meet) dX12_meet_140 rfl ?_
  refine z_getR (M := M_X12_meet) (ci := 15) (C := RX12) (T := TX12) (Nf := 135) (ty := tyX12) cl15 dX12_meet_141 ly_277 44 (by decide) t_2435 rfl ?_
  refine z_iload_n (M := M_X12_meet) dX12_meet_144 rfl ?_
  obtain ⟨x_43, x_43_e, hi_44, H⟩ := rd_e H
  refine z_lald (M := M_X12_meet) dX12_meet_145 ly_302 rfl rfl rfl hi_44 x_43_e ?_
  refine z_aload_n (M := M_X12_meet) dX12_meet_146 rfl ?_
  refine z_getR (M := M_X12_meet) (ci := 15) (C := RX12) (T := TX12) (Nf := 135) (ty := tyX12) cl15 dX12_meet_147 ly_277 43 (by decide) t_2434 rfl ?_
  refine z_iload_n (M := M_X12_meet) dX12_meet_150 rfl ?_
  obtain ⟨x_45, x_45_e, hi_46, H⟩ := rd_e H
  refine z_lald (M := M_X12_meet) dX12_meet_151 ly_301 rfl rfl rfl hi_46 x_45_e ?_
  refine z_aload_n (M := M_X12_meet) dX12_meet_152 rfl ?_
  refine z_getR (M := M_X12_meet) (ci := 15) (C := RX12) (T := TX12) (Nf := 135) (ty := tyX12) cl15 dX12_meet_153 ly_277 44 (by decide) t_2435 rfl ?_
  refine z_iload_n (M := M_X12_meet) dX12_meet_156 rfl ?_
  obtain ⟨x_47, x_47_e, hi_48, H⟩ := rd_e H
  refine z_lald (M := M_X12_meet) dX12_meet_157 ly_302 rfl rfl rfl hi_48 x_47_e ?_
  refine z_callS (M := M_X12_meet) (M' := M_X12_turn) (as := [vl x_37, vl x_39, vl x_41, vl x_43, vl x_45, vl x_47]) (rest := []) rfl rfl dX12_meet_158 m_X12_turn t_3262 t_3263 (c_X12_turn hl  rfl) rfl rfl (Nat.le_of_ble_eq_true rfl) (Nat.le_of_ble_eq_true rfl) (Nat.le_of_ble_eq_true rfl) (Nat.le_of_ble_eq_true rfl) ?_
  refine z_st (st' := [vi (fR_turn x_37 x_39 x_41 x_43 x_45 x_47)]) rfl ?_
  refine z_istore (M := M_X12_meet) (lv' := [some (vr 277), some (vi i_0), some (vi j_0), some (vi (fR_turn x_1 x_3 x_5 x_7 x_9 x_11)), some (vi (fR_turn x_13 x_15 x_17 x_19 x_21 x_23)), some (vi (fR_turn x_25 x_27 x_29 x_31 x_33 x_35)), some (vi (fR_turn x_37 x_39 x_41 x_43 x_45 x_47))]) dX12_meet_161 (Nat.le_of_ble_eq_true rfl) rfl rfl ?_
  rcases if_e H with ⟨h_120, H⟩ | ⟨h_120, H⟩
  · have J_121 : YY l E M_X12_meet 3 0 0 (pS (some (vi r)) σ') 172 [some (vr 277), some (vi i_0), some (vi j_0), some (vi (fR_turn x_1 x_3 x_5 x_7 x_9 x_11)), some (vi (fR_turn x_13 x_15 x_17 x_19 x_21 x_23)), some (vi (fR_turn x_25 x_27 x_29 x_31 x_33 x_35)), some (vi (fR_turn x_37 x_39 x_41 x_43 x_45 x_47))] [] σ 0 0 := by
      refine z_aload_n (M := M_X12_meet) dX12_meet_172 rfl ?_
      refine z_iload_n (M := M_X12_meet) dX12_meet_173 rfl ?_
      refine z_iload_n (M := M_X12_meet) dX12_meet_174 rfl ?_
      obtain ⟨⟨x_51, σ_50⟩, hc_49, H⟩ := bd_e H
      refine z_callV (M := M_X12_meet) (M' := M_X12_along) (as := [vi i_0, vi j_0]) (rest := []) rfl rfl dX12_meet_175 m_X12_along t_3271 t_3273 s_234 (c_X12_along hl  hc_49) rfl rfl ly_277 rfl (Nat.le_of_ble_eq_true rfl) (Nat.le_of_ble_eq_true rfl) (Nat.le_of_ble_eq_true rfl) (Nat.le_of_ble_eq_true rfl) ?_
      refine z_st (st' := [vi x_51]) rfl ?_
      cases H
      exact z_iret (M := M_X12_meet) dX12_meet_178 rfl (Nat.le_of_ble_eq_true rfl) (Nat.le_of_ble_eq_true rfl) ⟨rfl, rfl⟩
    refine z_iload_n (M := M_X12_meet) dX12_meet_163 rfl ?_
    by_cases h_123 : (w32 (fR_turn x_1 x_3 x_5 x_7 x_9 x_11)) = 0
    · refine z_if_ne_f (M := M_X12_meet) (tgt := 179) dX12_meet_164 (by decide) rfl h_123 ?_
      refine z_iload (M := M_X12_meet) dX12_meet_167 rfl ?_
      by_cases h_124 : (w32 (fR_turn x_13 x_15 x_17 x_19 x_21 x_23)) = 0
      · refine z_if_ne_f (M := M_X12_meet) (tgt := 179) dX12_meet_169 (by decide) rfl h_124 ?_
        exact J_121
      · refine z_if_ne_t (M := M_X12_meet) (tgt := 179) dX12_meet_169 (by decide) rfl h_124 ?_
        exact absurd h_120 (fun q => h_124 q.2)
    · refine z_if_ne_t (M := M_X12_meet) (tgt := 179) dX12_meet_164 (by decide) rfl h_123 ?_
      exact absurd h_120 (fun q => h_123 q.1)
  · have J_122 : YY l E M_X12_meet 3 0 0 (pS (some (vi r)) σ') 179 [some (vr 277), some (vi i_0), some (vi j_0), some (vi (fR_turn x_1 x_3 x_5 x_7 x_9 x_11)), some (vi (fR_turn x_13 x_15 x_17 x_19 x_21 x_23)), some (vi (fR_turn x_25 x_27 x_29 x_31 x_33 x_35)), some (vi (fR_turn x_37 x_39 x_41 x_43 x_45 x_47))] [] σ 0 0 := by
      rcases if_e H with ⟨h_113, H⟩ | ⟨h_113, H⟩
      · have J_114 : YY l E M_X12_meet 3 0 0 (pS (some (vi r)) σ') 194 [some (vr 277), some (vi i_0), some (vi j_0), some (vi (fR_turn x_1 x_3 x_5 x_7 x_9 x_11)), some (vi (fR_turn x_13 x_15 x_17 x_19 x_21 x_23)), some (vi (fR_turn x_25 x_27 x_29 x_31 x_33 x_35)), some (vi (fR_turn x_37 x_39 x_41 x_43 x_45 x_47))] [] σ 0 0 := by
          refine z_iconst (M := M_X12_meet) dX12_meet_194 ?_
          cases H
          exact z_iret (M := M_X12_meet) dX12_meet_195 rfl (Nat.le_of_ble_eq_true rfl) (Nat.le_of_ble_eq_true rfl) ⟨rfl, rfl⟩
        refine z_iload_n (M := M_X12_meet) dX12_meet_179 rfl ?_
        refine z_iload (M := M_X12_meet) dX12_meet_180 rfl ?_
        refine z_imul (M := M_X12_meet) dX12_meet_182 ?_
        by_cases h_116 : 0 < (w32 ((fR_turn x_1 x_3 x_5 x_7 x_9 x_11) * (fR_turn x_13 x_15 x_17 x_19 x_21 x_23)))
        · refine z_if_gt_t (M := M_X12_meet) (tgt := 194) dX12_meet_183 (by decide) rfl h_116 ?_
          exact J_114
        · refine z_if_gt_f (M := M_X12_meet) (tgt := 194) dX12_meet_183 (by decide) rfl (Int.not_lt.mp h_116) ?_
          refine z_iload (M := M_X12_meet) dX12_meet_186 rfl ?_
          refine z_iload (M := M_X12_meet) dX12_meet_188 rfl ?_
          refine z_imul (M := M_X12_meet) dX12_meet_190 ?_
          by_cases h_117 : 0 < (w32 ((fR_turn x_25 x_27 x_29 x_31 x_33 x_35) * (fR_turn x_37 x_39 x_41 x_43 x_45 x_47)))
          · refine z_if_le_f (M := M_X12_meet) (tgt := 196) dX12_meet_191 (by decide) rfl h_117 ?_
            exact J_114
          · refine z_if_le_t (M := M_X12_meet) (tgt := 196) dX12_meet_191 (by decide) rfl (Int.not_lt.mp h_117) ?_
            exact absurd h_113 (fun q => q.elim h_116 h_117)
      · have J_115 : YY l E M_X12_meet 3 0 0 (pS (some (vi r)) σ') 196 [some (vr 277), some (vi i_0), some (vi j_0), some (vi (fR_turn x_1 x_3 x_5 x_7 x_9 x_11)), some (vi (fR_turn x_13 x_15 x_17 x_19 x_21 x_23)), some (vi (fR_turn x_25 x_27 x_29 x_31 x_33 x_35)), some (vi (fR_turn x_37 x_39 x_41 x_43 x_45 x_47))] [] σ 0 0 := by
          refine z_aload_n (M := M_X12_meet) dX12_meet_196 rfl ?_
          refine z_zconst (M := M_X12_meet) (b := true) dX12_meet_197 rfl ?_
          obtain ⟨σ_52, σ_52_e, H⟩ := wf_e H
          refine z_putZ (M := M_X12_meet) (ci := 15) (C := RX12) (T := TX12) (Nf := 135) (ty := tyX12) cl15 dX12_meet_198 ly_277 49 (by decide) t_2440 rfl rfl rfl rfl σ_52_e ?_
          obtain ⟨v_56, he_53, hk_54⟩ := bd_e H
          have J_112 : ∀ σ_111, v_56 = σ_111 → YY l E M_X12_meet 3 0 0 (pS (some (vi r)) σ') 293 [some (vr 277), some (vi i_0), some (vi j_0), some (vi (fR_turn x_1 x_3 x_5 x_7 x_9 x_11)), some (vi (fR_turn x_13 x_15 x_17 x_19 x_21 x_23)), some (vi (fR_turn x_25 x_27 x_29 x_31 x_33 x_35)), some (vi (fR_turn x_37 x_39 x_41 x_43 x_45 x_47))] [] σ_111 0 0 := by
            intro σ_111 e
            have H := hk_54
            rw [e] at H
            refine z_iconst (M := M_X12_meet) dX12_meet_293 ?_
            cases H
            exact z_iret (M := M_X12_meet) dX12_meet_294 rfl (Nat.le_of_ble_eq_true rfl) (Nat.le_of_ble_eq_true rfl) ⟨rfl, rfl⟩
          have H := he_53
          refine z_iload_n (M := M_X12_meet) dX12_meet_201 rfl ?_
          rcases if_e H with ⟨h_57, H⟩ | ⟨h_57, H⟩
          · refine z_if_ne_f (M := M_X12_meet) (tgt := 224) dX12_meet_202 (by decide) rfl h_57 ?_
            refine z_aload_n (M := M_X12_meet) dX12_meet_205 rfl ?_
            refine z_aload_n (M := M_X12_meet) dX12_meet_206 rfl ?_
            refine z_getR (M := M_X12_meet) (ci := 15) (C := RX12) (T := TX12) (Nf := 135) (ty := tyX12) cl15 dX12_meet_207 ly_277 41 (by decide) t_2432 rfl ?_
            refine z_iload_n (M := M_X12_meet) dX12_meet_210 rfl ?_
            obtain ⟨x_58, x_58_e, hi_59, H⟩ := rd_e H
            refine z_lald (M := M_X12_meet) dX12_meet_211 ly_299 rfl rfl rfl hi_59 x_58_e ?_
            refine z_aload_n (M := M_X12_meet) dX12_meet_212 rfl ?_
            refine z_getR (M := M_X12_meet) (ci := 15) (C := RX12) (T := TX12) (Nf := 135) (ty := tyX12) cl15 dX12_meet_213 ly_277 42 (by decide) t_2433 rfl ?_
            refine z_iload_n (M := M_X12_meet) dX12_meet_216 rfl ?_
            obtain ⟨x_60, x_60_e, hi_61, H⟩ := rd_e H
            refine z_lald (M := M_X12_meet) dX12_meet_217 ly_300 rfl rfl rfl hi_61 x_60_e ?_
            obtain ⟨σ_63, hc_62, H⟩ := bd_e H
            refine z_callV (M := M_X12_meet) (M' := M_X12_meetsAt) (as := [vl x_58, vl x_60]) (rest := []) rfl rfl dX12_meet_218 m_X12_meetsAt t_3278 t_3280 s_235 (c_X12_meetsAt hl  hc_62) rfl rfl ly_277 rfl (Nat.le_of_ble_eq_true rfl) (Nat.le_of_ble_eq_true rfl) (Nat.le_of_ble_eq_true rfl) (Nat.le_of_ble_eq_true rfl) ?_
            refine z_st (st' := []) rfl ?_
            refine z_goto (M := M_X12_meet) (tgt := 293) dX12_meet_221 (by decide) ?_
            exact J_112 _ (Option.some.inj H).symm
          · refine z_if_ne_t (M := M_X12_meet) (tgt := 224) dX12_meet_202 (by decide) rfl h_57 ?_
            obtain ⟨v_68, he_65, hk_66⟩ := bd_e H
            have J_110 : ∀ σ_108, v_68 = σ_108 → YY l E M_X12_meet 3 0 0 (pS (some (vi r)) σ') 293 [some (vr 277), some (vi i_0), some (vi j_0), some (vi (fR_turn x_1 x_3 x_5 x_7 x_9 x_11)), some (vi (fR_turn x_13 x_15 x_17 x_19 x_21 x_23)), some (vi (fR_turn x_25 x_27 x_29 x_31 x_33 x_35)), some (vi (fR_turn x_37 x_39 x_41 x_43 x_45 x_47))] [] σ_108 0 0 := by
              intro σ_108 e
              have H := hk_66
              rw [e] at H
              exact J_112 _ (Option.some.inj H).symm
            have H := he_65
            refine z_iload (M := M_X12_meet) dX12_meet_224 rfl ?_
            rcases if_e H with ⟨h_69, H⟩ | ⟨h_69, H⟩
            · refine z_if_ne_f (M := M_X12_meet) (tgt := 248) dX12_meet_226 (by decide) rfl h_69 ?_
              refine z_aload_n (M := M_X12_meet) dX12_meet_229 rfl ?_
              refine z_aload_n (M := M_X12_meet) dX12_meet_230 rfl ?_
              refine z_getR (M := M_X12_meet) (ci := 15) (C := RX12) (T := TX12) (Nf := 135) (ty := tyX12) cl15 dX12_meet_231 ly_277 43 (by decide) t_2434 rfl ?_
              refine z_iload_n (M := M_X12_meet) dX12_meet_234 rfl ?_
              obtain ⟨x_70, x_70_e, hi_71, H⟩ := rd_e H
              refine z_lald (M := M_X12_meet) dX12_meet_235 ly_301 rfl rfl rfl hi_71 x_70_e ?_
              refine z_aload_n (M := M_X12_meet) dX12_meet_236 rfl ?_
              refine z_getR (M := M_X12_meet) (ci := 15) (C := RX12) (T := TX12) (Nf := 135) (ty := tyX12) cl15 dX12_meet_237 ly_277 44 (by decide) t_2435 rfl ?_
              refine z_iload_n (M := M_X12_meet) dX12_meet_240 rfl ?_
              obtain ⟨x_72, x_72_e, hi_73, H⟩ := rd_e H
              refine z_lald (M := M_X12_meet) dX12_meet_241 ly_302 rfl rfl rfl hi_73 x_72_e ?_
              obtain ⟨σ_75, hc_74, H⟩ := bd_e H
              refine z_callV (M := M_X12_meet) (M' := M_X12_meetsAt) (as := [vl x_70, vl x_72]) (rest := []) rfl rfl dX12_meet_242 m_X12_meetsAt t_3278 t_3280 s_235 (c_X12_meetsAt hl  hc_74) rfl rfl ly_277 rfl (Nat.le_of_ble_eq_true rfl) (Nat.le_of_ble_eq_true rfl) (Nat.le_of_ble_eq_true rfl) (Nat.le_of_ble_eq_true rfl) ?_
              refine z_st (st' := []) rfl ?_
              refine z_goto (M := M_X12_meet) (tgt := 293) dX12_meet_245 (by decide) ?_
              exact J_110 _ (Option.some.inj H).symm
            · refine z_if_ne_t (M := M_X12_meet) (tgt := 248) dX12_meet_226 (by decide) rfl h_69 ?_
              obtain ⟨v_80, he_77, hk_78⟩ := bd_e H
              have J_107 : ∀ σ_105, v_80 = σ_105 → YY l E M_X12_meet 3 0 0 (pS (some (vi r)) σ') 293 [some (vr 277), some (vi i_0), some (vi j_0), some (vi (fR_turn x_1 x_3 x_5 x_7 x_9 x_11)), some (vi (fR_turn x_13 x_15 x_17 x_19 x_21 x_23)), some (vi (fR_turn x_25 x_27 x_29 x_31 x_33 x_35)), some (vi (fR_turn x_37 x_39 x_41 x_43 x_45 x_47))] [] σ_105 0 0 := by
                intro σ_105 e
                have H := hk_78
                rw [e] at H
                exact J_110 _ (Option.some.inj H).symm
              have H := he_77
              refine z_iload (M := M_X12_meet) dX12_meet_248 rfl ?_
              rcases if_e H with ⟨h_81, H⟩ | ⟨h_81, H⟩
              · refine z_if_ne_f (M := M_X12_meet) (tgt := 272) dX12_meet_250 (by decide) rfl h_81 ?_
                refine z_aload_n (M := M_X12_meet) dX12_meet_253 rfl ?_
                refine z_aload_n (M := M_X12_meet) dX12_meet_254 rfl ?_
                refine z_getR (M := M_X12_meet) (ci := 15) (C := RX12) (T := TX12) (Nf := 135) (ty := tyX12) cl15 dX12_meet_255 ly_277 41 (by decide) t_2432 rfl ?_
                refine z_iload_n (M := M_X12_meet) dX12_meet_258 rfl ?_
                obtain ⟨x_82, x_82_e, hi_83, H⟩ := rd_e H
                refine z_lald (M := M_X12_meet) dX12_meet_259 ly_299 rfl rfl rfl hi_83 x_82_e ?_
                refine z_aload_n (M := M_X12_meet) dX12_meet_260 rfl ?_
                refine z_getR (M := M_X12_meet) (ci := 15) (C := RX12) (T := TX12) (Nf := 135) (ty := tyX12) cl15 dX12_meet_261 ly_277 42 (by decide) t_2433 rfl ?_
                refine z_iload_n (M := M_X12_meet) dX12_meet_264 rfl ?_
                obtain ⟨x_84, x_84_e, hi_85, H⟩ := rd_e H
                refine z_lald (M := M_X12_meet) dX12_meet_265 ly_300 rfl rfl rfl hi_85 x_84_e ?_
                obtain ⟨σ_87, hc_86, H⟩ := bd_e H
                refine z_callV (M := M_X12_meet) (M' := M_X12_meetsAt) (as := [vl x_82, vl x_84]) (rest := []) rfl rfl dX12_meet_266 m_X12_meetsAt t_3278 t_3280 s_235 (c_X12_meetsAt hl  hc_86) rfl rfl ly_277 rfl (Nat.le_of_ble_eq_true rfl) (Nat.le_of_ble_eq_true rfl) (Nat.le_of_ble_eq_true rfl) (Nat.le_of_ble_eq_true rfl) ?_
                refine z_st (st' := []) rfl ?_
                refine z_goto (M := M_X12_meet) (tgt := 293) dX12_meet_269 (by decide) ?_
                exact J_107 _ (Option.some.inj H).symm
              · refine z_if_ne_t (M := M_X12_meet) (tgt := 272) dX12_meet_250 (by decide) rfl h_81 ?_
                obtain ⟨v_92, he_89, hk_90⟩ := bd_e H
                have J_104 : ∀ σ_102, v_92 = σ_102 → YY l E M_X12_meet 3 0 0 (pS (some (vi r)) σ') 293 [some (vr 277), some (vi i_0), some (vi j_0), some (vi (fR_turn x_1 x_3 x_5 x_7 x_9 x_11)), some (vi (fR_turn x_13 x_15 x_17 x_19 x_21 x_23)), some (vi (fR_turn x_25 x_27 x_29 x_31 x_33 x_35)), some (vi (fR_turn x_37 x_39 x_41 x_43 x_45 x_47))] [] σ_102 0 0 := by
                  intro σ_102 e
                  have H := hk_90
                  rw [e] at H
                  exact J_107 _ (Option.some.inj H).symm
                have H := he_89
                refine z_iload (M := M_X12_meet) dX12_meet_272 rfl ?_
                rcases if_e H with ⟨h_93, H⟩ | ⟨h_93, H⟩
                · refine z_if_ne_f (M := M_X12_meet) (tgt := 293) dX12_meet_274 (by decide) rfl h_93 ?_
                  refine z_aload_n (M := M_X12_meet) dX12_meet_277 rfl ?_
                  refine z_aload_n (M := M_X12_meet) dX12_meet_278 rfl ?_
                  refine z_getR (M := M_X12_meet) (ci := 15) (C := RX12) (T := TX12) (Nf := 135) (ty := tyX12) cl15 dX12_meet_279 ly_277 43 (by decide) t_2434 rfl ?_
                  refine z_iload_n (M := M_X12_meet) dX12_meet_282 rfl ?_
                  obtain ⟨x_94, x_94_e, hi_95, H⟩ := rd_e H
                  refine z_lald (M := M_X12_meet) dX12_meet_283 ly_301 rfl rfl rfl hi_95 x_94_e ?_
                  refine z_aload_n (M := M_X12_meet) dX12_meet_284 rfl ?_
                  refine z_getR (M := M_X12_meet) (ci := 15) (C := RX12) (T := TX12) (Nf := 135) (ty := tyX12) cl15 dX12_meet_285 ly_277 44 (by decide) t_2435 rfl ?_
                  refine z_iload_n (M := M_X12_meet) dX12_meet_288 rfl ?_
                  obtain ⟨x_96, x_96_e, hi_97, H⟩ := rd_e H
                  refine z_lald (M := M_X12_meet) dX12_meet_289 ly_302 rfl rfl rfl hi_97 x_96_e ?_
                  obtain ⟨σ_99, hc_98, H⟩ := bd_e H
                  refine z_callV (M := M_X12_meet) (M' := M_X12_meetsAt) (as := [vl x_94, vl x_96]) (rest := []) rfl rfl dX12_meet_290 m_X12_meetsAt t_3278 t_3280 s_235 (c_X12_meetsAt hl  hc_98) rfl rfl ly_277 rfl (Nat.le_of_ble_eq_true rfl) (Nat.le_of_ble_eq_true rfl) (Nat.le_of_ble_eq_true rfl) (Nat.le_of_ble_eq_true rfl) ?_
                  refine z_st (st' := []) rfl ?_
                  exact J_104 _ (Option.some.inj H).symm
                · refine z_if_ne_t (M := M_X12_meet) (tgt := 293) dX12_meet_274 (by decide) rfl h_93 ?_
                  exact J_104 _ (Option.some.inj H).symm
        refine z_iload_n (M := M_X12_meet) dX12_meet_179 rfl ?_
        refine z_iload (M := M_X12_meet) dX12_meet_180 rfl ?_
        refine z_imul (M := M_X12_meet) dX12_meet_182 ?_
        by_cases h_118 : 0 < (w32 ((fR_turn x_1 x_3 x_5 x_7 x_9 x_11) * (fR_turn x_13 x_15 x_17 x_19 x_21 x_23)))
        · refine z_if_gt_t (M := M_X12_meet) (tgt := 194) dX12_meet_183 (by decide) rfl h_118 ?_
          exact absurd (Or.inl h_118) h_113
        · refine z_if_gt_f (M := M_X12_meet) (tgt := 194) dX12_meet_183 (by decide) rfl (Int.not_lt.mp h_118) ?_
          refine z_iload (M := M_X12_meet) dX12_meet_186 rfl ?_
          refine z_iload (M := M_X12_meet) dX12_meet_188 rfl ?_
          refine z_imul (M := M_X12_meet) dX12_meet_190 ?_
          by_cases h_119 : 0 < (w32 ((fR_turn x_25 x_27 x_29 x_31 x_33 x_35) * (fR_turn x_37 x_39 x_41 x_43 x_45 x_47)))
          · refine z_if_le_f (M := M_X12_meet) (tgt := 196) dX12_meet_191 (by decide) rfl h_119 ?_
            exact absurd (Or.inr h_119) h_113
          · refine z_if_le_t (M := M_X12_meet) (tgt := 196) dX12_meet_191 (by decide) rfl (Int.not_lt.mp h_119) ?_
            exact J_115
    refine z_iload_n (M := M_X12_meet) dX12_meet_163 rfl ?_
    by_cases h_125 : (w32 (fR_turn x_1 x_3 x_5 x_7 x_9 x_11)) = 0
    · refine z_if_ne_f (M := M_X12_meet) (tgt := 179) dX12_meet_164 (by decide) rfl h_125 ?_
      refine z_iload (M := M_X12_meet) dX12_meet_167 rfl ?_
      by_cases h_126 : (w32 (fR_turn x_13 x_15 x_17 x_19 x_21 x_23)) = 0
      · refine z_if_ne_f (M := M_X12_meet) (tgt := 179) dX12_meet_169 (by decide) rfl h_126 ?_
        exact absurd ⟨h_125, h_126⟩ h_120
      · refine z_if_ne_t (M := M_X12_meet) (tgt := 179) dX12_meet_169 (by decide) rfl h_126 ?_
        exact J_122
    · refine z_if_ne_t (M := M_X12_meet) (tgt := 179) dX12_meet_164 (by decide) rfl h_125 ?_
      exact J_122
theorem c_X12_isOn (hl : l.stackTraces = false) {σ : SG} {i_0 : Int} {x_0 : Int} {y_0 : Int} {r : Bool}  (H : fR_isOn σ i_0 x_0 y_0 = some r) : en_S l E M_X12_isOn 3 0 0 [vr 277, vi i_0, vl x_0, vl y_0] σ (pS (some (zv r)) σ) := by
  unfold fR_isOn at H
  refine z_mk (lv := [some (vr 277), some (vi i_0), some (vl x_0), none, some (vl y_0), none, none, none]) m_X12_isOn rfl hl (Nat.le_of_ble_eq_true rfl) rfl ?_
  refine z_aload_n (M := M_X12_isOn) dX12_isOn_0 rfl ?_
  refine z_getR (M := M_X12_isOn) (ci := 15) (C := RX12) (T := TX12) (Nf := 135) (ty := tyX12) cl15 dX12_isOn_1 ly_277 41 (by decide) t_2432 rfl ?_
  refine z_iload_n (M := M_X12_isOn) dX12_isOn_4 rfl ?_
  obtain ⟨x_1, x_1_e, hi_2, H⟩ := rd_e H
  refine z_lald (M := M_X12_isOn) dX12_isOn_5 ly_299 rfl rfl rfl hi_2 x_1_e ?_
  refine z_aload_n (M := M_X12_isOn) dX12_isOn_6 rfl ?_
  refine z_getR (M := M_X12_isOn) (ci := 15) (C := RX12) (T := TX12) (Nf := 135) (ty := tyX12) cl15 dX12_isOn_7 ly_277 42 (by decide) t_2433 rfl ?_
  refine z_iload_n (M := M_X12_isOn) dX12_isOn_10 rfl ?_
  obtain ⟨x_3, x_3_e, hi_4, H⟩ := rd_e H
  refine z_lald (M := M_X12_isOn) dX12_isOn_11 ly_300 rfl rfl rfl hi_4 x_3_e ?_
  refine z_aload_n (M := M_X12_isOn) dX12_isOn_12 rfl ?_
  refine z_getR (M := M_X12_isOn) (ci := 15) (C := RX12) (T := TX12) (Nf := 135) (ty := tyX12) cl15 dX12_isOn_13 ly_277 43 (by decide) t_2434 rfl ?_
  refine z_iload_n (M := M_X12_isOn) dX12_isOn_16 rfl ?_
  obtain ⟨x_5, x_5_e, hi_6, H⟩ := rd_e H
  refine z_lald (M := M_X12_isOn) dX12_isOn_17 ly_301 rfl rfl rfl hi_6 x_5_e ?_
  refine z_aload_n (M := M_X12_isOn) dX12_isOn_18 rfl ?_
  refine z_getR (M := M_X12_isOn) (ci := 15) (C := RX12) (T := TX12) (Nf := 135) (ty := tyX12) cl15 dX12_isOn_19 ly_277 44 (by decide) t_2435 rfl ?_
  refine z_iload_n (M := M_X12_isOn) dX12_isOn_22 rfl ?_
  obtain ⟨x_7, x_7_e, hi_8, H⟩ := rd_e H
  refine z_lald (M := M_X12_isOn) dX12_isOn_23 ly_302 rfl rfl rfl hi_8 x_7_e ?_
  refine z_lload_n (M := M_X12_isOn) dX12_isOn_24 rfl ?_
  refine z_lload (M := M_X12_isOn) dX12_isOn_25 rfl ?_
  refine z_callS (M := M_X12_isOn) (M' := M_X12_turn) (as := [vl x_1, vl x_3, vl x_5, vl x_7, vl x_0, vl y_0]) (rest := []) rfl rfl dX12_isOn_27 m_X12_turn t_3262 t_3263 (c_X12_turn hl  rfl) rfl rfl (Nat.le_of_ble_eq_true rfl) (Nat.le_of_ble_eq_true rfl) (Nat.le_of_ble_eq_true rfl) (Nat.le_of_ble_eq_true rfl) ?_
  refine z_st (st' := [vi (fR_turn x_1 x_3 x_5 x_7 x_0 y_0)]) rfl ?_
  rcases if_e H with ⟨h_9, H⟩ | ⟨h_9, H⟩
  · refine z_if_eq_f (M := M_X12_isOn) (tgt := 35) dX12_isOn_30 (by decide) rfl h_9 ?_
    refine z_zconst (M := M_X12_isOn) (b := false) dX12_isOn_33 rfl ?_
    cases H
    exact z_zret (M := M_X12_isOn) dX12_isOn_34 rfl (Nat.le_of_ble_eq_true rfl) (Nat.le_of_ble_eq_true rfl) ⟨rfl, rfl⟩
  · refine z_if_eq_t (M := M_X12_isOn) (tgt := 35) dX12_isOn_30 (by decide) rfl (Decidable.not_not.mp h_9) ?_
    obtain ⟨v_49, he_50, hk_51⟩ := bd_e H
    have J_52 : ∀ x_25, v_49 = x_25 → YY l E M_X12_isOn 3 0 0 (pS (some (zv r)) σ) 86 [some (vr 277), some (vi i_0), some (vl x_0), none, some (vl y_0), none, none, none] [zv x_25] σ 0 0 := by
      intro x_25 e
      have H := hk_51
      rw [e] at H
      refine z_zstore (M := M_X12_isOn) (lv' := [some (vr 277), some (vi i_0), some (vl x_0), none, some (vl y_0), none, some (zv x_25), none]) dX12_isOn_86 (Nat.le_of_ble_eq_true rfl) rfl rfl ?_
      obtain ⟨v_45, he_46, hk_47⟩ := bd_e H
      have J_48 : ∀ x_41, v_45 = x_41 → YY l E M_X12_isOn 3 0 0 (pS (some (zv r)) σ) 141 [some (vr 277), some (vi i_0), some (vl x_0), none, some (vl y_0), none, some (zv x_25), none] [zv x_41] σ 0 0 := by
        intro x_41 e
        have H := hk_47
        rw [e] at H
        refine z_zstore (M := M_X12_isOn) (lv' := [some (vr 277), some (vi i_0), some (vl x_0), none, some (vl y_0), none, some (zv x_25), some (zv x_41)]) dX12_isOn_141 (Nat.le_of_ble_eq_true rfl) rfl rfl ?_
        have J_42 : YY l E M_X12_isOn 3 0 0 (pS (some (zv r)) σ) 158 [some (vr 277), some (vi i_0), some (vl x_0), none, some (vl y_0), none, some (zv x_25), some (zv x_41)] [zv (decide ((x_25 = true) ∧ (x_41 = true)))] σ 0 0 := by
          cases H
          exact z_zret (M := M_X12_isOn) dX12_isOn_158 rfl (Nat.le_of_ble_eq_true rfl) (Nat.le_of_ble_eq_true rfl) ⟨rfl, rfl⟩
        refine z_zload (M := M_X12_isOn) dX12_isOn_143 rfl ?_
        by_cases h_43 : x_25 = true
        · refine z_zeq_f (M := M_X12_isOn) (tgt := 157) dX12_isOn_145 (by decide) h_43 ?_
          refine z_zload (M := M_X12_isOn) dX12_isOn_148 rfl ?_
          by_cases h_44 : x_41 = true
          · refine z_zeq_f (M := M_X12_isOn) (tgt := 157) dX12_isOn_150 (by decide) h_44 ?_
            refine z_iconst (M := M_X12_isOn) dX12_isOn_153 ?_
            refine z_goto (M := M_X12_isOn) (tgt := 158) dX12_isOn_154 (by decide) ?_
            exact z_st (by rw [zv_t (p := (x_25 = true) ∧ (x_41 = true)) ⟨h_43, h_44⟩]) J_42
          · refine z_zeq_t (M := M_X12_isOn) (tgt := 157) dX12_isOn_150 (by decide) h_44 ?_
            refine z_iconst (M := M_X12_isOn) dX12_isOn_157 ?_
            exact z_st (by rw [zv_f (p := (x_25 = true) ∧ (x_41 = true)) (fun q => h_44 q.2)]) J_42
        · refine z_zeq_t (M := M_X12_isOn) (tgt := 157) dX12_isOn_145 (by decide) h_43 ?_
          refine z_iconst (M := M_X12_isOn) dX12_isOn_157 ?_
          exact z_st (by rw [zv_f (p := (x_25 = true) ∧ (x_41 = true)) (fun q => h_43 q.1)]) J_42
      have H := he_46
      refine z_aload_n (M := M_X12_isOn) dX12_isOn_88 rfl ?_
      refine z_getR (M := M_X12_isOn) (ci := 15) (C := RX12) (T := TX12) (Nf := 135) (ty := tyX12) cl15 dX12_isOn_89 ly_277 42 (by decide) t_2433 rfl ?_
      refine z_iload_n (M := M_X12_isOn) dX12_isOn_92 rfl ?_
      obtain ⟨x_26, x_26_e, hi_27, H⟩ := rd_e H
      refine z_lald (M := M_X12_isOn) dX12_isOn_93 ly_300 rfl rfl rfl hi_27 x_26_e ?_
      refine z_aload_n (M := M_X12_isOn) dX12_isOn_94 rfl ?_
      refine z_getR (M := M_X12_isOn) (ci := 15) (C := RX12) (T := TX12) (Nf := 135) (ty := tyX12) cl15 dX12_isOn_95 ly_277 44 (by decide) t_2435 rfl ?_
      refine z_iload_n (M := M_X12_isOn) dX12_isOn_98 rfl ?_
      obtain ⟨x_28, x_28_e, hi_29, H⟩ := rd_e H
      refine z_lald (M := M_X12_isOn) dX12_isOn_99 ly_302 rfl rfl rfl hi_29 x_28_e ?_
      refine z_lcmp (M := M_X12_isOn) dX12_isOn_100 ?_
      rcases if_e H with ⟨h_30, H⟩ | ⟨h_30, H⟩
      · refine z_lif_ge_f (M := M_X12_isOn) (tgt := 124) dX12_isOn_101 (by decide) rfl rfl h_30 ?_
        refine z_lload (M := M_X12_isOn) dX12_isOn_104 rfl ?_
        refine z_aload_n (M := M_X12_isOn) dX12_isOn_106 rfl ?_
        refine z_getR (M := M_X12_isOn) (ci := 15) (C := RX12) (T := TX12) (Nf := 135) (ty := tyX12) cl15 dX12_isOn_107 ly_277 42 (by decide) t_2433 rfl ?_
        refine z_iload_n (M := M_X12_isOn) dX12_isOn_110 rfl ?_
        obtain ⟨x_31, x_31_e, hi_32, H⟩ := rd_e H
        refine z_lald (M := M_X12_isOn) dX12_isOn_111 ly_300 rfl rfl rfl hi_32 x_31_e ?_
        refine z_aload_n (M := M_X12_isOn) dX12_isOn_112 rfl ?_
        refine z_getR (M := M_X12_isOn) (ci := 15) (C := RX12) (T := TX12) (Nf := 135) (ty := tyX12) cl15 dX12_isOn_113 ly_277 44 (by decide) t_2435 rfl ?_
        refine z_iload_n (M := M_X12_isOn) dX12_isOn_116 rfl ?_
        obtain ⟨x_33, x_33_e, hi_34, H⟩ := rd_e H
        refine z_lald (M := M_X12_isOn) dX12_isOn_117 ly_302 rfl rfl rfl hi_34 x_33_e ?_
        refine z_callS (M := M_X12_isOn) (M' := M_X12_in) (as := [vl y_0, vl x_31, vl x_33]) (rest := []) rfl rfl dX12_isOn_118 m_X12_in t_2818 t_2819 (c_X12_in hl  rfl) rfl rfl (Nat.le_of_ble_eq_true rfl) (Nat.le_of_ble_eq_true rfl) (Nat.le_of_ble_eq_true rfl) (Nat.le_of_ble_eq_true rfl) ?_
        refine z_st (st' := [zv (fR_in y_0 x_31 x_33)]) rfl ?_
        refine z_goto (M := M_X12_isOn) (tgt := 141) dX12_isOn_121 (by decide) ?_
        exact J_48 _ (Option.some.inj H).symm
      · refine z_lif_ge_t (M := M_X12_isOn) (tgt := 124) dX12_isOn_101 (by decide) rfl rfl (Int.not_lt.mp h_30) ?_
        refine z_lload (M := M_X12_isOn) dX12_isOn_124 rfl ?_
        refine z_aload_n (M := M_X12_isOn) dX12_isOn_126 rfl ?_
        refine z_getR (M := M_X12_isOn) (ci := 15) (C := RX12) (T := TX12) (Nf := 135) (ty := tyX12) cl15 dX12_isOn_127 ly_277 44 (by decide) t_2435 rfl ?_
        refine z_iload_n (M := M_X12_isOn) dX12_isOn_130 rfl ?_
        obtain ⟨x_36, x_36_e, hi_37, H⟩ := rd_e H
        refine z_lald (M := M_X12_isOn) dX12_isOn_131 ly_302 rfl rfl rfl hi_37 x_36_e ?_
        refine z_aload_n (M := M_X12_isOn) dX12_isOn_132 rfl ?_
        refine z_getR (M := M_X12_isOn) (ci := 15) (C := RX12) (T := TX12) (Nf := 135) (ty := tyX12) cl15 dX12_isOn_133 ly_277 42 (by decide) t_2433 rfl ?_
        refine z_iload_n (M := M_X12_isOn) dX12_isOn_136 rfl ?_
        obtain ⟨x_38, x_38_e, hi_39, H⟩ := rd_e H
        refine z_lald (M := M_X12_isOn) dX12_isOn_137 ly_300 rfl rfl rfl hi_39 x_38_e ?_
        refine z_callS (M := M_X12_isOn) (M' := M_X12_in) (as := [vl y_0, vl x_36, vl x_38]) (rest := []) rfl rfl dX12_isOn_138 m_X12_in t_2818 t_2819 (c_X12_in hl  rfl) rfl rfl (Nat.le_of_ble_eq_true rfl) (Nat.le_of_ble_eq_true rfl) (Nat.le_of_ble_eq_true rfl) (Nat.le_of_ble_eq_true rfl) ?_
        refine z_st (st' := [zv (fR_in y_0 x_36 x_38)]) rfl ?_
        exact J_48 _ (Option.some.inj H).symm
    have H := he_50
    refine z_aload_n (M := M_X12_isOn) dX12_isOn_35 rfl ?_
    refine z_getR (M := M_X12_isOn) (ci := 15) (C := RX12) (T := TX12) (Nf := 135) (ty := tyX12) cl15 dX12_isOn_36 ly_277 41 (by decide) t_2432 rfl ?_
    refine z_iload_n (M := M_X12_isOn) dX12_isOn_39 rfl ?_
    obtain ⟨x_10, x_10_e, hi_11, H⟩ := rd_e H
    refine z_lald (M := M_X12_isOn) dX12_isOn_40 ly_299 rfl rfl rfl hi_11 x_10_e ?_
    refine z_aload_n (M := M_X12_isOn) dX12_isOn_41 rfl ?_
    refine z_getR (M := M_X12_isOn) (ci := 15) (C := RX12) (T := TX12) (Nf := 135) (ty := tyX12) cl15 dX12_isOn_42 ly_277 43 (by decide) t_2434 rfl ?_
    refine z_iload_n (M := M_X12_isOn) dX12_isOn_45 rfl ?_
    obtain ⟨x_12, x_12_e, hi_13, H⟩ := rd_e H
    refine z_lald (M := M_X12_isOn) dX12_isOn_46 ly_301 rfl rfl rfl hi_13 x_12_e ?_
    refine z_lcmp (M := M_X12_isOn) dX12_isOn_47 ?_
    rcases if_e H with ⟨h_14, H⟩ | ⟨h_14, H⟩
    · refine z_lif_ge_f (M := M_X12_isOn) (tgt := 70) dX12_isOn_48 (by decide) rfl rfl h_14 ?_
      refine z_lload_n (M := M_X12_isOn) dX12_isOn_51 rfl ?_
      refine z_aload_n (M := M_X12_isOn) dX12_isOn_52 rfl ?_
      refine z_getR (M := M_X12_isOn) (ci := 15) (C := RX12) (T := TX12) (Nf := 135) (ty := tyX12) cl15 dX12_isOn_53 ly_277 41 (by decide) t_2432 rfl ?_
      refine z_iload_n (M := M_X12_isOn) dX12_isOn_56 rfl ?_
      obtain ⟨x_15, x_15_e, hi_16, H⟩ := rd_e H
      refine z_lald (M := M_X12_isOn) dX12_isOn_57 ly_299 rfl rfl rfl hi_16 x_15_e ?_
      refine z_aload_n (M := M_X12_isOn) dX12_isOn_58 rfl ?_
      refine z_getR (M := M_X12_isOn) (ci := 15) (C := RX12) (T := TX12) (Nf := 135) (ty := tyX12) cl15 dX12_isOn_59 ly_277 43 (by decide) t_2434 rfl ?_
      refine z_iload_n (M := M_X12_isOn) dX12_isOn_62 rfl ?_
      obtain ⟨x_17, x_17_e, hi_18, H⟩ := rd_e H
      refine z_lald (M := M_X12_isOn) dX12_isOn_63 ly_301 rfl rfl rfl hi_18 x_17_e ?_
      refine z_callS (M := M_X12_isOn) (M' := M_X12_in) (as := [vl x_0, vl x_15, vl x_17]) (rest := []) rfl rfl dX12_isOn_64 m_X12_in t_2818 t_2819 (c_X12_in hl  rfl) rfl rfl (Nat.le_of_ble_eq_true rfl) (Nat.le_of_ble_eq_true rfl) (Nat.le_of_ble_eq_true rfl) (Nat.le_of_ble_eq_true rfl) ?_
      refine z_st (st' := [zv (fR_in x_0 x_15 x_17)]) rfl ?_
      refine z_goto (M := M_X12_isOn) (tgt := 86) dX12_isOn_67 (by decide) ?_
      exact J_52 _ (Option.some.inj H).symm
    · refine z_lif_ge_t (M := M_X12_isOn) (tgt := 70) dX12_isOn_48 (by decide) rfl rfl (Int.not_lt.mp h_14) ?_
      refine z_lload_n (M := M_X12_isOn) dX12_isOn_70 rfl ?_
      refine z_aload_n (M := M_X12_isOn) dX12_isOn_71 rfl ?_
      refine z_getR (M := M_X12_isOn) (ci := 15) (C := RX12) (T := TX12) (Nf := 135) (ty := tyX12) cl15 dX12_isOn_72 ly_277 43 (by decide) t_2434 rfl ?_
      refine z_iload_n (M := M_X12_isOn) dX12_isOn_75 rfl ?_
      obtain ⟨x_20, x_20_e, hi_21, H⟩ := rd_e H
      refine z_lald (M := M_X12_isOn) dX12_isOn_76 ly_301 rfl rfl rfl hi_21 x_20_e ?_
      refine z_aload_n (M := M_X12_isOn) dX12_isOn_77 rfl ?_
      refine z_getR (M := M_X12_isOn) (ci := 15) (C := RX12) (T := TX12) (Nf := 135) (ty := tyX12) cl15 dX12_isOn_78 ly_277 41 (by decide) t_2432 rfl ?_
      refine z_iload_n (M := M_X12_isOn) dX12_isOn_81 rfl ?_
      obtain ⟨x_22, x_22_e, hi_23, H⟩ := rd_e H
      refine z_lald (M := M_X12_isOn) dX12_isOn_82 ly_299 rfl rfl rfl hi_23 x_22_e ?_
      refine z_callS (M := M_X12_isOn) (M' := M_X12_in) (as := [vl x_0, vl x_20, vl x_22]) (rest := []) rfl rfl dX12_isOn_83 m_X12_in t_2818 t_2819 (c_X12_in hl  rfl) rfl rfl (Nat.le_of_ble_eq_true rfl) (Nat.le_of_ble_eq_true rfl) (Nat.le_of_ble_eq_true rfl) (Nat.le_of_ble_eq_true rfl) ?_
      refine z_st (st' := [zv (fR_in x_0 x_20 x_22)]) rfl ?_
      exact J_52 _ (Option.some.inj H).symm
theorem c_X12_gather (hl : l.stackTraces = false) {σ : SG} {slot_0 : Int} {from_0 : Int} {first_0 : Int} {part_0 : Int} {r : Int} {σ' : SG}  (H : fR_gather σ slot_0 from_0 first_0 part_0 = some (r, σ')) : en_S l E M_X12_gather 1 0 0 [vr 277, vi slot_0, vi from_0, vi first_0, vi part_0] σ (pS (some (vi r)) σ') := by
  unfold fR_gather at H
  refine z_mk (lv := [some (vr 277), some (vi slot_0), some (vi from_0), some (vi first_0), some (vi part_0), none, none, none]) m_X12_gather rfl hl (Nat.le_of_ble_eq_true rfl) rfl ?_
  refine z_aload_n (M := M_X12_gather) dX12_gather_0 rfl ?_
  refine z_getR (M := M_X12_gather) (ci := 15) (C := RX12) (T := TX12) (Nf := 135) (ty := tyX12) cl15 dX12_gather_1 ly_277 58 (by decide) t_2449 rfl ?_
  refine z_iload (M := M_X12_gather) dX12_gather_4 rfl ?_
  refine z_aload_n (M := M_X12_gather) dX12_gather_6 rfl ?_
  refine z_getI (M := M_X12_gather) (ci := 15) (C := RX12) (T := TX12) (Nf := 135) (ty := tyX12) cl15 dX12_gather_7 ly_277 57 (by decide) t_2448 rfl rfl ?_
  obtain ⟨σ_1, σ_1_e, hi_2, H⟩ := wa_e H
  refine z_iast (M := M_X12_gather) dX12_gather_10 ly_311 rfl rfl rfl hi_2 σ_1_e ?_
  refine z_iload_n (M := M_X12_gather) dX12_gather_11 rfl ?_
  refine z_istore (M := M_X12_gather) (lv' := [some (vr 277), some (vi slot_0), some (vi from_0), some (vi first_0), some (vi part_0), some (vi first_0), none, none]) dX12_gather_12 (Nat.le_of_ble_eq_true rfl) rfl rfl ?_
  refine z_aload_n (M := M_X12_gather) dX12_gather_14 rfl ?_
  refine z_getR (M := M_X12_gather) (ci := 15) (C := RX12) (T := TX12) (Nf := 135) (ty := tyX12) cl15 dX12_gather_15 ly_277 10 (by decide) t_2401 rfl ?_
  refine z_iload_n (M := M_X12_gather) dX12_gather_18 rfl ?_
  refine z_iconst (M := M_X12_gather) dX12_gather_19 ?_
  refine z_iadd (M := M_X12_gather) dX12_gather_20 ?_
  obtain ⟨x_3, x_3_e, hi_4, H⟩ := rd_e H
  refine z_iald (M := M_X12_gather) dX12_gather_21 ly_281 rfl rfl rfl hi_4 x_3_e ?_
  refine z_istore (M := M_X12_gather) (lv' := [some (vr 277), some (vi slot_0), some (vi from_0), some (vi first_0), some (vi part_0), some (vi first_0), some (vi x_3), none]) dX12_gather_22 (Nat.le_of_ble_eq_true rfl) rfl rfl ?_
  refine z_iconst (M := M_X12_gather) dX12_gather_24 ?_
  refine z_istore (M := M_X12_gather) (lv' := [some (vr 277), some (vi slot_0), some (vi from_0), some (vi first_0), some (vi part_0), some (vi first_0), some (vi x_3), some (vi 0)]) dX12_gather_25 (Nat.le_of_ble_eq_true rfl) rfl rfl ?_
  obtain ⟨rl_11, hw_8, hk_9⟩ := bd_e H
  have J_37 : ∀ p_31 k_32 σ_33, rl_11 = (p_31, k_32, σ_33) → YY l E M_X12_gather 1 0 0 (pS (some (vi r)) σ') 117 [some (vr 277), some (vi slot_0), some (vi from_0), some (vi first_0), some (vi part_0), some (vi p_31), some (vi x_3), some (vi k_32)] [] σ_33 0 0 := by
    intro p_31 k_32 σ_33 e
    have H := hk_9
    rw [e] at H
    refine z_aload_n (M := M_X12_gather) dX12_gather_117 rfl ?_
    refine z_iload (M := M_X12_gather) dX12_gather_118 rfl ?_
    refine z_iconst (M := M_X12_gather) dX12_gather_120 ?_
    refine z_iadd (M := M_X12_gather) dX12_gather_121 ?_
    obtain ⟨σ_34, σ_34_e, H⟩ := wf_e H
    refine z_putI (M := M_X12_gather) (ci := 15) (C := RX12) (T := TX12) (Nf := 135) (ty := tyX12) cl15 dX12_gather_122 ly_277 59 (by decide) t_2450 rfl rfl rfl rfl σ_34_e ?_
    refine z_aload_n (M := M_X12_gather) dX12_gather_125 rfl ?_
    refine z_getR (M := M_X12_gather) (ci := 15) (C := RX12) (T := TX12) (Nf := 135) (ty := tyX12) cl15 dX12_gather_126 ly_277 58 (by decide) t_2449 rfl ?_
    refine z_aload_n (M := M_X12_gather) dX12_gather_129 rfl ?_
    refine z_getI (M := M_X12_gather) (ci := 15) (C := RX12) (T := TX12) (Nf := 135) (ty := tyX12) cl15 dX12_gather_130 ly_277 59 (by decide) t_2450 rfl rfl ?_
    refine z_aload_n (M := M_X12_gather) dX12_gather_133 rfl ?_
    refine z_getI (M := M_X12_gather) (ci := 15) (C := RX12) (T := TX12) (Nf := 135) (ty := tyX12) cl15 dX12_gather_134 ly_277 57 (by decide) t_2448 rfl rfl ?_
    obtain ⟨σ_35, σ_35_e, hi_36, H⟩ := wa_e H
    refine z_iast (M := M_X12_gather) dX12_gather_137 ly_311 rfl rfl rfl hi_36 σ_35_e ?_
    refine z_iload (M := M_X12_gather) dX12_gather_138 rfl ?_
    cases H
    exact z_iret (M := M_X12_gather) dX12_gather_140 rfl (Nat.le_of_ble_eq_true rfl) (Nat.le_of_ble_eq_true rfl) ⟨rfl, rfl⟩
  refine whl_go hw_8 (fun (p_5, k_6, σ_7) => YY l E M_X12_gather 1 0 0 (pS (some (vi r)) σ') 27 [some (vr 277), some (vi slot_0), some (vi from_0), some (vi first_0), some (vi part_0), some (vi p_5), some (vi x_3), some (vi k_6)] [] σ_7 0 0) ?_
  rintro ⟨p_5, k_6, σ_7⟩ o_12 H K_13 K_14
  refine z_iload (M := M_X12_gather) dX12_gather_27 rfl ?_
  refine z_iload (M := M_X12_gather) dX12_gather_29 rfl ?_
  rcases if_e H with ⟨h_15, H⟩ | ⟨h_15, H⟩
  · refine z_icmp_ge_f (M := M_X12_gather) (tgt := 117) dX12_gather_31 (by decide) rfl rfl h_15 ?_
    refine z_aload_n (M := M_X12_gather) dX12_gather_34 rfl ?_
    refine z_getR (M := M_X12_gather) (ci := 15) (C := RX12) (T := TX12) (Nf := 135) (ty := tyX12) cl15 dX12_gather_35 ly_277 52 (by decide) t_2443 rfl ?_
    refine z_aload_n (M := M_X12_gather) dX12_gather_38 rfl ?_
    refine z_getI (M := M_X12_gather) (ci := 15) (C := RX12) (T := TX12) (Nf := 135) (ty := tyX12) cl15 dX12_gather_39 ly_277 57 (by decide) t_2448 rfl rfl ?_
    refine z_iload (M := M_X12_gather) dX12_gather_42 rfl ?_
    obtain ⟨σ_16, σ_16_e, hi_17, H⟩ := wa_e H
    refine z_iast (M := M_X12_gather) dX12_gather_44 ly_306 rfl rfl rfl hi_17 σ_16_e ?_
    refine z_aload_n (M := M_X12_gather) dX12_gather_45 rfl ?_
    refine z_getR (M := M_X12_gather) (ci := 15) (C := RX12) (T := TX12) (Nf := 135) (ty := tyX12) cl15 dX12_gather_46 ly_277 53 (by decide) t_2444 rfl ?_
    refine z_aload_n (M := M_X12_gather) dX12_gather_49 rfl ?_
    refine z_getI (M := M_X12_gather) (ci := 15) (C := RX12) (T := TX12) (Nf := 135) (ty := tyX12) cl15 dX12_gather_50 ly_277 57 (by decide) t_2448 rfl rfl ?_
    refine z_aload_n (M := M_X12_gather) dX12_gather_53 rfl ?_
    refine z_getR (M := M_X12_gather) (ci := 15) (C := RX12) (T := TX12) (Nf := 135) (ty := tyX12) cl15 dX12_gather_54 ly_277 10 (by decide) t_2401 rfl ?_
    refine z_iload_n (M := M_X12_gather) dX12_gather_57 rfl ?_
    refine z_iconst (M := M_X12_gather) dX12_gather_58 ?_
    refine z_iadd (M := M_X12_gather) dX12_gather_59 ?_
    refine z_iload (M := M_X12_gather) dX12_gather_60 rfl ?_
    refine z_iadd (M := M_X12_gather) dX12_gather_62 ?_
    obtain ⟨x_18, x_18_e, hi_19, H⟩ := rd_e H
    refine z_iald (M := M_X12_gather) dX12_gather_63 ly_281 rfl rfl rfl hi_19 x_18_e ?_
    obtain ⟨σ_20, σ_20_e, hi_21, H⟩ := wa_e H
    refine z_iast (M := M_X12_gather) dX12_gather_64 ly_307 rfl rfl rfl hi_21 σ_20_e ?_
    refine z_aload_n (M := M_X12_gather) dX12_gather_65 rfl ?_
    refine z_getR (M := M_X12_gather) (ci := 15) (C := RX12) (T := TX12) (Nf := 135) (ty := tyX12) cl15 dX12_gather_66 ly_277 54 (by decide) t_2445 rfl ?_
    refine z_aload_n (M := M_X12_gather) dX12_gather_69 rfl ?_
    refine z_getI (M := M_X12_gather) (ci := 15) (C := RX12) (T := TX12) (Nf := 135) (ty := tyX12) cl15 dX12_gather_70 ly_277 57 (by decide) t_2448 rfl rfl ?_
    refine z_iload (M := M_X12_gather) dX12_gather_73 rfl ?_
    obtain ⟨σ_22, σ_22_e, hi_23, H⟩ := wa_e H
    refine z_iast (M := M_X12_gather) dX12_gather_75 ly_308 rfl rfl rfl hi_23 σ_22_e ?_
    refine z_aload_n (M := M_X12_gather) dX12_gather_76 rfl ?_
    refine z_getR (M := M_X12_gather) (ci := 15) (C := RX12) (T := TX12) (Nf := 135) (ty := tyX12) cl15 dX12_gather_77 ly_277 55 (by decide) t_2446 rfl ?_
    refine z_aload_n (M := M_X12_gather) dX12_gather_80 rfl ?_
    refine z_getI (M := M_X12_gather) (ci := 15) (C := RX12) (T := TX12) (Nf := 135) (ty := tyX12) cl15 dX12_gather_81 ly_277 57 (by decide) t_2448 rfl rfl ?_
    refine z_iload (M := M_X12_gather) dX12_gather_84 rfl ?_
    obtain ⟨σ_24, σ_24_e, hi_25, H⟩ := wa_e H
    refine z_iast (M := M_X12_gather) dX12_gather_86 ly_309 rfl rfl rfl hi_25 σ_24_e ?_
    refine z_iload (M := M_X12_gather) dX12_gather_87 rfl ?_
    refine z_aload_n (M := M_X12_gather) dX12_gather_89 rfl ?_
    refine z_getR (M := M_X12_gather) (ci := 15) (C := RX12) (T := TX12) (Nf := 135) (ty := tyX12) cl15 dX12_gather_90 ly_277 53 (by decide) t_2444 rfl ?_
    refine z_aload_n (M := M_X12_gather) dX12_gather_93 rfl ?_
    refine z_getI (M := M_X12_gather) (ci := 15) (C := RX12) (T := TX12) (Nf := 135) (ty := tyX12) cl15 dX12_gather_94 ly_277 57 (by decide) t_2448 rfl rfl ?_
    obtain ⟨x_26, x_26_e, hi_27, H⟩ := rd_e H
    refine z_iald (M := M_X12_gather) dX12_gather_97 ly_307 rfl rfl rfl hi_27 x_26_e ?_
    refine z_iadd (M := M_X12_gather) dX12_gather_98 ?_
    refine z_istore (M := M_X12_gather) (lv' := [some (vr 277), some (vi slot_0), some (vi from_0), some (vi first_0), some (vi part_0), some (vi (p_5 + x_26)), some (vi x_3), some (vi k_6)]) dX12_gather_99 (Nat.le_of_ble_eq_true rfl) rfl rfl ?_
    refine z_aload_n (M := M_X12_gather) dX12_gather_101 rfl ?_
    refine z_dup (M := M_X12_gather) dX12_gather_102 rfl ?_
    refine z_getI (M := M_X12_gather) (ci := 15) (C := RX12) (T := TX12) (Nf := 135) (ty := tyX12) cl15 dX12_gather_103 ly_277 57 (by decide) t_2448 rfl rfl ?_
    refine z_iconst (M := M_X12_gather) dX12_gather_106 ?_
    refine z_iadd (M := M_X12_gather) dX12_gather_107 ?_
    obtain ⟨σ_28, σ_28_e, H⟩ := wf_e H
    refine z_putI (M := M_X12_gather) (ci := 15) (C := RX12) (T := TX12) (Nf := 135) (ty := tyX12) cl15 dX12_gather_108 ly_277 57 (by decide) t_2448 rfl rfl rfl rfl σ_28_e ?_
    refine z_iinc (M := M_X12_gather) (lv' := [some (vr 277), some (vi slot_0), some (vi from_0), some (vi first_0), some (vi part_0), some (vi (p_5 + x_26)), some (vi x_3), some (vi (k_6 + 1))]) dX12_gather_111 rfl (Nat.le_of_ble_eq_true rfl) rfl rfl ?_
    refine z_goto (M := M_X12_gather) (tgt := 27) dX12_gather_114 (by decide) ?_
    exact K_13 _ (Option.some.inj H).symm
  · refine z_icmp_ge_t (M := M_X12_gather) (tgt := 117) dX12_gather_31 (by decide) rfl rfl (Int.not_lt.mp h_15) ?_
    exact J_37 _ _ _ (K_14 _ (Option.some.inj H).symm).symm
theorem c_X12_segmentsOfRings (hl : l.stackTraces = false) {σ : SG} {σ' : SG}  (H : fR_segmentsOfRings σ = some σ') : en_S l E M_X12_segmentsOfRings 2 0 0 [vr 277] σ (pS (none) σ') := by
  unfold fR_segmentsOfRings at H
  refine z_mk (lv := [some (vr 277), none, none, none]) m_X12_segmentsOfRings rfl hl (Nat.le_of_ble_eq_true rfl) rfl ?_
  refine z_aload_n (M := M_X12_segmentsOfRings) dX12_segmentsOfRings_0 rfl ?_
  refine z_iconst (M := M_X12_segmentsOfRings) dX12_segmentsOfRings_1 ?_
  obtain ⟨σ_1, σ_1_e, H⟩ := wf_e H
  refine z_putI (M := M_X12_segmentsOfRings) (ci := 15) (C := RX12) (T := TX12) (Nf := 135) (ty := tyX12) cl15 dX12_segmentsOfRings_2 ly_277 48 (by decide) t_2439 rfl rfl rfl rfl σ_1_e ?_
  refine z_iconst (M := M_X12_segmentsOfRings) dX12_segmentsOfRings_5 ?_
  refine z_istore_n (M := M_X12_segmentsOfRings) (lv' := [some (vr 277), some (vi 0), none, none]) dX12_segmentsOfRings_6 (Nat.le_of_ble_eq_true rfl) rfl rfl ?_
  obtain ⟨rl_7, hw_4, hk_5⟩ := bd_e H
  have J_78 : ∀ r_74 σ_75, rl_7 = (r_74, σ_75) → YY l E M_X12_segmentsOfRings 2 0 0 (pS (none) σ') 105 [some (vr 277), some (vi r_74), none, none] [] σ_75 0 0 := by
    intro r_74 σ_75 e
    have H := hk_5
    rw [e] at H
    refine z_aload_n (M := M_X12_segmentsOfRings) dX12_segmentsOfRings_105 rfl ?_
    refine z_getR (M := M_X12_segmentsOfRings) (ci := 15) (C := RX12) (T := TX12) (Nf := 135) (ty := tyX12) cl15 dX12_segmentsOfRings_106 ly_277 56 (by decide) t_2447 rfl ?_
    refine z_aload_n (M := M_X12_segmentsOfRings) dX12_segmentsOfRings_109 rfl ?_
    refine z_getI (M := M_X12_segmentsOfRings) (ci := 15) (C := RX12) (T := TX12) (Nf := 135) (ty := tyX12) cl15 dX12_segmentsOfRings_110 ly_277 57 (by decide) t_2448 rfl rfl ?_
    refine z_aload_n (M := M_X12_segmentsOfRings) dX12_segmentsOfRings_113 rfl ?_
    refine z_getI (M := M_X12_segmentsOfRings) (ci := 15) (C := RX12) (T := TX12) (Nf := 135) (ty := tyX12) cl15 dX12_segmentsOfRings_114 ly_277 48 (by decide) t_2439 rfl rfl ?_
    obtain ⟨σ_76, σ_76_e, hi_77, H⟩ := wa_e H
    refine z_iast (M := M_X12_segmentsOfRings) dX12_segmentsOfRings_117 ly_310 rfl rfl rfl hi_77 σ_76_e ?_
    cases H
    exact z_vret (M := M_X12_segmentsOfRings) dX12_segmentsOfRings_118 rfl (Nat.le_of_ble_eq_true rfl) (Nat.le_of_ble_eq_true rfl) ⟨rfl, rfl⟩
  refine whl_go hw_4 (fun (r_2, σ_3) => YY l E M_X12_segmentsOfRings 2 0 0 (pS (none) σ') 7 [some (vr 277), some (vi r_2), none, none] [] σ_3 0 0) ?_
  rintro ⟨r_2, σ_3⟩ o_8 H K_9 K_10
  refine z_iload_n (M := M_X12_segmentsOfRings) dX12_segmentsOfRings_7 rfl ?_
  refine z_aload_n (M := M_X12_segmentsOfRings) dX12_segmentsOfRings_8 rfl ?_
  refine z_getI (M := M_X12_segmentsOfRings) (ci := 15) (C := RX12) (T := TX12) (Nf := 135) (ty := tyX12) cl15 dX12_segmentsOfRings_9 ly_277 57 (by decide) t_2448 rfl rfl ?_
  rcases if_e H with ⟨h_11, H⟩ | ⟨h_11, H⟩
  · refine z_icmp_ge_f (M := M_X12_segmentsOfRings) (tgt := 105) dX12_segmentsOfRings_12 (by decide) rfl rfl h_11 ?_
    refine z_aload_n (M := M_X12_segmentsOfRings) dX12_segmentsOfRings_15 rfl ?_
    refine z_getR (M := M_X12_segmentsOfRings) (ci := 15) (C := RX12) (T := TX12) (Nf := 135) (ty := tyX12) cl15 dX12_segmentsOfRings_16 ly_277 56 (by decide) t_2447 rfl ?_
    refine z_iload_n (M := M_X12_segmentsOfRings) dX12_segmentsOfRings_19 rfl ?_
    refine z_aload_n (M := M_X12_segmentsOfRings) dX12_segmentsOfRings_20 rfl ?_
    refine z_getI (M := M_X12_segmentsOfRings) (ci := 15) (C := RX12) (T := TX12) (Nf := 135) (ty := tyX12) cl15 dX12_segmentsOfRings_21 ly_277 48 (by decide) t_2439 rfl rfl ?_
    obtain ⟨σ_12, σ_12_e, hi_13, H⟩ := wa_e H
    refine z_iast (M := M_X12_segmentsOfRings) dX12_segmentsOfRings_24 ly_310 rfl rfl rfl hi_13 σ_12_e ?_
    refine z_iconst (M := M_X12_segmentsOfRings) dX12_segmentsOfRings_25 ?_
    refine z_istore_n (M := M_X12_segmentsOfRings) (lv' := [some (vr 277), some (vi r_2), some (vi 0), none]) dX12_segmentsOfRings_26 (Nat.le_of_ble_eq_true rfl) rfl rfl ?_
    obtain ⟨rl_19, hw_16, hk_17⟩ := bd_e H
    have J_72 : ∀ k_69 σ_70, rl_19 = (k_69, σ_70) → YY l E M_X12_segmentsOfRings 2 0 0 (pS (none) σ') 99 [some (vr 277), some (vi r_2), some (vi k_69), none] [] σ_70 0 0 := by
      intro k_69 σ_70 e
      have H := hk_17
      rw [e] at H
      refine z_iinc (M := M_X12_segmentsOfRings) (lv' := [some (vr 277), some (vi (r_2 + 1)), some (vi k_69), none]) dX12_segmentsOfRings_99 rfl (Nat.le_of_ble_eq_true rfl) rfl rfl ?_
      refine z_goto (M := M_X12_segmentsOfRings) (tgt := 7) dX12_segmentsOfRings_102 (by decide) ?_
      refine z_le (lv' := [some (vr 277), some (vi (r_2 + 1)), none, none]) ⟨Or.inr rfl, Or.inr rfl, Or.inl rfl, Or.inl rfl, trivial⟩ ?_
      exact K_9 _ (Option.some.inj H).symm
    refine whl_go hw_16 (fun (k_14, σ_15) => YY l E M_X12_segmentsOfRings 2 0 0 (pS (none) σ') 27 [some (vr 277), some (vi r_2), some (vi k_14), none] [] σ_15 0 0) ?_
    rintro ⟨k_14, σ_15⟩ o_20 H K_21 K_22
    refine z_iload_n (M := M_X12_segmentsOfRings) dX12_segmentsOfRings_27 rfl ?_
    refine z_iconst (M := M_X12_segmentsOfRings) dX12_segmentsOfRings_28 ?_
    refine z_iadd (M := M_X12_segmentsOfRings) dX12_segmentsOfRings_29 ?_
    refine z_aload_n (M := M_X12_segmentsOfRings) dX12_segmentsOfRings_30 rfl ?_
    refine z_getR (M := M_X12_segmentsOfRings) (ci := 15) (C := RX12) (T := TX12) (Nf := 135) (ty := tyX12) cl15 dX12_segmentsOfRings_31 ly_277 53 (by decide) t_2444 rfl ?_
    refine z_iload_n (M := M_X12_segmentsOfRings) dX12_segmentsOfRings_34 rfl ?_
    obtain ⟨x_23, x_23_e, hi_24, H⟩ := rd_e H
    refine z_iald (M := M_X12_segmentsOfRings) dX12_segmentsOfRings_35 ly_307 rfl rfl rfl hi_24 x_23_e ?_
    rcases if_e H with ⟨h_25, H⟩ | ⟨h_25, H⟩
    · refine z_icmp_ge_f (M := M_X12_segmentsOfRings) (tgt := 99) dX12_segmentsOfRings_36 (by decide) rfl rfl h_25 ?_
      refine z_aload_n (M := M_X12_segmentsOfRings) dX12_segmentsOfRings_39 rfl ?_
      refine z_getR (M := M_X12_segmentsOfRings) (ci := 15) (C := RX12) (T := TX12) (Nf := 135) (ty := tyX12) cl15 dX12_segmentsOfRings_40 ly_277 52 (by decide) t_2443 rfl ?_
      refine z_iload_n (M := M_X12_segmentsOfRings) dX12_segmentsOfRings_43 rfl ?_
      obtain ⟨x_26, x_26_e, hi_27, H⟩ := rd_e H
      refine z_iald (M := M_X12_segmentsOfRings) dX12_segmentsOfRings_44 ly_306 rfl rfl rfl hi_27 x_26_e ?_
      refine z_iload_n (M := M_X12_segmentsOfRings) dX12_segmentsOfRings_45 rfl ?_
      refine z_iadd (M := M_X12_segmentsOfRings) dX12_segmentsOfRings_46 ?_
      refine z_istore_n (M := M_X12_segmentsOfRings) (lv' := [some (vr 277), some (vi r_2), some (vi k_14), some (vi (x_26 + k_14))]) dX12_segmentsOfRings_47 (Nat.le_of_ble_eq_true rfl) rfl rfl ?_
      obtain ⟨v_31, he_28, hk_29⟩ := bd_e H
      have J_67 : ∀ σ_65, v_31 = σ_65 → YY l E M_X12_segmentsOfRings 2 0 0 (pS (none) σ') 93 [some (vr 277), some (vi r_2), some (vi k_14), some (vi (x_26 + k_14))] [] σ_65 0 0 := by
        intro σ_65 e
        have H := hk_29
        rw [e] at H
        refine z_iinc (M := M_X12_segmentsOfRings) (lv' := [some (vr 277), some (vi r_2), some (vi (k_14 + 1)), some (vi (x_26 + k_14))]) dX12_segmentsOfRings_93 rfl (Nat.le_of_ble_eq_true rfl) rfl rfl ?_
        refine z_goto (M := M_X12_segmentsOfRings) (tgt := 27) dX12_segmentsOfRings_96 (by decide) ?_
        refine z_le (lv' := [some (vr 277), some (vi r_2), some (vi (k_14 + 1)), none]) ⟨Or.inr rfl, Or.inr rfl, Or.inr rfl, Or.inl rfl, trivial⟩ ?_
        exact K_21 _ (Option.some.inj H).symm
      have H := he_28
      refine z_aload_n (M := M_X12_segmentsOfRings) dX12_segmentsOfRings_48 rfl ?_
      refine z_getR (M := M_X12_segmentsOfRings) (ci := 15) (C := RX12) (T := TX12) (Nf := 135) (ty := tyX12) cl15 dX12_segmentsOfRings_49 ly_277 12 (by decide) t_2403 rfl ?_
      refine z_iload_n (M := M_X12_segmentsOfRings) dX12_segmentsOfRings_52 rfl ?_
      obtain ⟨x_48, x_48_e, hi_49, H⟩ := rd_e H
      refine z_iald (M := M_X12_segmentsOfRings) dX12_segmentsOfRings_53 ly_283 rfl rfl rfl hi_49 x_48_e ?_
      refine z_aload_n (M := M_X12_segmentsOfRings) dX12_segmentsOfRings_54 rfl ?_
      refine z_getR (M := M_X12_segmentsOfRings) (ci := 15) (C := RX12) (T := TX12) (Nf := 135) (ty := tyX12) cl15 dX12_segmentsOfRings_55 ly_277 12 (by decide) t_2403 rfl ?_
      refine z_iload_n (M := M_X12_segmentsOfRings) dX12_segmentsOfRings_58 rfl ?_
      refine z_iconst (M := M_X12_segmentsOfRings) dX12_segmentsOfRings_59 ?_
      refine z_iadd (M := M_X12_segmentsOfRings) dX12_segmentsOfRings_60 ?_
      obtain ⟨x_50, x_50_e, hi_51, H⟩ := rd_e H
      refine z_iald (M := M_X12_segmentsOfRings) dX12_segmentsOfRings_61 ly_283 rfl rfl rfl hi_51 x_50_e ?_
      rcases if_e H with ⟨h_52, H⟩ | ⟨h_52, H⟩
      · refine z_icmp_ne_t (M := M_X12_segmentsOfRings) (tgt := 82) dX12_segmentsOfRings_62 (by decide) rfl rfl h_52 ?_
        refine z_aload_n (M := M_X12_segmentsOfRings) dX12_segmentsOfRings_82 rfl ?_
        refine z_iload_n (M := M_X12_segmentsOfRings) dX12_segmentsOfRings_83 rfl ?_
        refine z_iload_n (M := M_X12_segmentsOfRings) dX12_segmentsOfRings_84 rfl ?_
        refine z_iconst (M := M_X12_segmentsOfRings) dX12_segmentsOfRings_85 ?_
        refine z_iadd (M := M_X12_segmentsOfRings) dX12_segmentsOfRings_86 ?_
        refine z_iload_n (M := M_X12_segmentsOfRings) dX12_segmentsOfRings_87 rfl ?_
        refine z_iload_n (M := M_X12_segmentsOfRings) dX12_segmentsOfRings_88 rfl ?_
        refine z_iconst (M := M_X12_segmentsOfRings) dX12_segmentsOfRings_89 ?_
        obtain ⟨σ_54, hc_53, H⟩ := bd_e H
        refine z_callV (M := M_X12_segmentsOfRings) (M' := M_X12_segment) (as := [vi (x_26 + k_14), vi ((x_26 + k_14) + 1), vi r_2, vi k_14, vi 0]) (rest := []) rfl rfl dX12_segmentsOfRings_90 m_X12_segment t_3238 t_3240 s_228 (c_X12_segment hl  hc_53) rfl rfl ly_277 rfl (Nat.le_of_ble_eq_true rfl) (Nat.le_of_ble_eq_true rfl) (Nat.le_of_ble_eq_true rfl) (Nat.le_of_ble_eq_true rfl) ?_
        refine z_st (st' := []) rfl ?_
        exact J_67 _ (Option.some.inj H).symm
      · refine z_icmp_ne_f (M := M_X12_segmentsOfRings) (tgt := 82) dX12_segmentsOfRings_62 (by decide) rfl rfl (Decidable.not_not.mp h_52) ?_
        refine z_aload_n (M := M_X12_segmentsOfRings) dX12_segmentsOfRings_65 rfl ?_
        refine z_getR (M := M_X12_segmentsOfRings) (ci := 15) (C := RX12) (T := TX12) (Nf := 135) (ty := tyX12) cl15 dX12_segmentsOfRings_66 ly_277 13 (by decide) t_2404 rfl ?_
        refine z_iload_n (M := M_X12_segmentsOfRings) dX12_segmentsOfRings_69 rfl ?_
        obtain ⟨x_56, x_56_e, hi_57, H⟩ := rd_e H
        refine z_iald (M := M_X12_segmentsOfRings) dX12_segmentsOfRings_70 ly_284 rfl rfl rfl hi_57 x_56_e ?_
        refine z_aload_n (M := M_X12_segmentsOfRings) dX12_segmentsOfRings_71 rfl ?_
        refine z_getR (M := M_X12_segmentsOfRings) (ci := 15) (C := RX12) (T := TX12) (Nf := 135) (ty := tyX12) cl15 dX12_segmentsOfRings_72 ly_277 13 (by decide) t_2404 rfl ?_
        refine z_iload_n (M := M_X12_segmentsOfRings) dX12_segmentsOfRings_75 rfl ?_
        refine z_iconst (M := M_X12_segmentsOfRings) dX12_segmentsOfRings_76 ?_
        refine z_iadd (M := M_X12_segmentsOfRings) dX12_segmentsOfRings_77 ?_
        obtain ⟨x_58, x_58_e, hi_59, H⟩ := rd_e H
        refine z_iald (M := M_X12_segmentsOfRings) dX12_segmentsOfRings_78 ly_284 rfl rfl rfl hi_59 x_58_e ?_
        rcases if_e H with ⟨h_60, H⟩ | ⟨h_60, H⟩
        · refine z_icmp_eq_f (M := M_X12_segmentsOfRings) (tgt := 93) dX12_segmentsOfRings_79 (by decide) rfl rfl h_60 ?_
          refine z_aload_n (M := M_X12_segmentsOfRings) dX12_segmentsOfRings_82 rfl ?_
          refine z_iload_n (M := M_X12_segmentsOfRings) dX12_segmentsOfRings_83 rfl ?_
          refine z_iload_n (M := M_X12_segmentsOfRings) dX12_segmentsOfRings_84 rfl ?_
          refine z_iconst (M := M_X12_segmentsOfRings) dX12_segmentsOfRings_85 ?_
          refine z_iadd (M := M_X12_segmentsOfRings) dX12_segmentsOfRings_86 ?_
          refine z_iload_n (M := M_X12_segmentsOfRings) dX12_segmentsOfRings_87 rfl ?_
          refine z_iload_n (M := M_X12_segmentsOfRings) dX12_segmentsOfRings_88 rfl ?_
          refine z_iconst (M := M_X12_segmentsOfRings) dX12_segmentsOfRings_89 ?_
          obtain ⟨σ_62, hc_61, H⟩ := bd_e H
          refine z_callV (M := M_X12_segmentsOfRings) (M' := M_X12_segment) (as := [vi (x_26 + k_14), vi ((x_26 + k_14) + 1), vi r_2, vi k_14, vi 0]) (rest := []) rfl rfl dX12_segmentsOfRings_90 m_X12_segment t_3238 t_3240 s_228 (c_X12_segment hl  hc_61) rfl rfl ly_277 rfl (Nat.le_of_ble_eq_true rfl) (Nat.le_of_ble_eq_true rfl) (Nat.le_of_ble_eq_true rfl) (Nat.le_of_ble_eq_true rfl) ?_
          refine z_st (st' := []) rfl ?_
          exact J_67 _ (Option.some.inj H).symm
        · refine z_icmp_eq_t (M := M_X12_segmentsOfRings) (tgt := 93) dX12_segmentsOfRings_79 (by decide) rfl rfl (Decidable.not_not.mp h_60) ?_
          exact J_67 _ (Option.some.inj H).symm
    · refine z_icmp_ge_t (M := M_X12_segmentsOfRings) (tgt := 99) dX12_segmentsOfRings_36 (by decide) rfl rfl (Int.not_lt.mp h_25) ?_
      exact J_72 _ _ (K_22 _ (Option.some.inj H).symm).symm
  · refine z_icmp_ge_t (M := M_X12_segmentsOfRings) (tgt := 105) dX12_segmentsOfRings_12 (by decide) rfl rfl (Int.not_lt.mp h_11) ?_
    exact J_78 _ _ (K_10 _ (Option.some.inj H).symm).symm
theorem c_X12_isSame (hl : l.stackTraces = false) {σ : SG} {p_0 : Int} {q_0 : Int} {r : Bool}  (H : fR_isSame σ p_0 q_0 = some r) : en_S l E M_X12_isSame 1 0 0 [vr 277, vi p_0, vi q_0] σ (pS (some (zv r)) σ) := by
  unfold fR_isSame at H
  refine z_mk (lv := [some (vr 277), some (vi p_0), some (vi q_0)]) m_X12_isSame rfl hl (Nat.le_of_ble_eq_true rfl) rfl ?_
  obtain ⟨v_15, he_16, hk_17⟩ := bd_e H
  have J_18 : ∀ x_14, v_15 = x_14 → YY l E M_X12_isSame 1 0 0 (pS (some (zv r)) σ) 35 [some (vr 277), some (vi p_0), some (vi q_0)] [zv x_14] σ 0 0 := by
    intro x_14 e
    have H := hk_17
    rw [e] at H
    cases H
    exact z_zret (M := M_X12_isSame) dX12_isSame_35 rfl (Nat.le_of_ble_eq_true rfl) (Nat.le_of_ble_eq_true rfl) ⟨rfl, rfl⟩
  have H := he_16
  refine z_aload_n (M := M_X12_isSame) dX12_isSame_0 rfl ?_
  refine z_getR (M := M_X12_isSame) (ci := 15) (C := RX12) (T := TX12) (Nf := 135) (ty := tyX12) cl15 dX12_isSame_1 ly_277 12 (by decide) t_2403 rfl ?_
  refine z_iload_n (M := M_X12_isSame) dX12_isSame_4 rfl ?_
  obtain ⟨x_1, x_1_e, hi_2, H⟩ := rd_e H
  refine z_iald (M := M_X12_isSame) dX12_isSame_5 ly_283 rfl rfl rfl hi_2 x_1_e ?_
  refine z_aload_n (M := M_X12_isSame) dX12_isSame_6 rfl ?_
  refine z_getR (M := M_X12_isSame) (ci := 15) (C := RX12) (T := TX12) (Nf := 135) (ty := tyX12) cl15 dX12_isSame_7 ly_277 12 (by decide) t_2403 rfl ?_
  refine z_iload_n (M := M_X12_isSame) dX12_isSame_10 rfl ?_
  obtain ⟨x_3, x_3_e, hi_4, H⟩ := rd_e H
  refine z_iald (M := M_X12_isSame) dX12_isSame_11 ly_283 rfl rfl rfl hi_4 x_3_e ?_
  rcases if_e H with ⟨h_5, H⟩ | ⟨h_5, H⟩
  · refine z_icmp_ne_f (M := M_X12_isSame) (tgt := 34) dX12_isSame_12 (by decide) rfl rfl h_5 ?_
    refine z_aload_n (M := M_X12_isSame) dX12_isSame_15 rfl ?_
    refine z_getR (M := M_X12_isSame) (ci := 15) (C := RX12) (T := TX12) (Nf := 135) (ty := tyX12) cl15 dX12_isSame_16 ly_277 13 (by decide) t_2404 rfl ?_
    refine z_iload_n (M := M_X12_isSame) dX12_isSame_19 rfl ?_
    obtain ⟨x_6, x_6_e, hi_7, H⟩ := rd_e H
    refine z_iald (M := M_X12_isSame) dX12_isSame_20 ly_284 rfl rfl rfl hi_7 x_6_e ?_
    refine z_aload_n (M := M_X12_isSame) dX12_isSame_21 rfl ?_
    refine z_getR (M := M_X12_isSame) (ci := 15) (C := RX12) (T := TX12) (Nf := 135) (ty := tyX12) cl15 dX12_isSame_22 ly_277 13 (by decide) t_2404 rfl ?_
    refine z_iload_n (M := M_X12_isSame) dX12_isSame_25 rfl ?_
    obtain ⟨x_8, x_8_e, hi_9, H⟩ := rd_e H
    refine z_iald (M := M_X12_isSame) dX12_isSame_26 ly_284 rfl rfl rfl hi_9 x_8_e ?_
    rcases if_e H with ⟨h_10, H⟩ | ⟨h_10, H⟩
    · refine z_icmp_ne_f (M := M_X12_isSame) (tgt := 34) dX12_isSame_27 (by decide) rfl rfl h_10 ?_
      refine z_zconst (M := M_X12_isSame) (b := true) dX12_isSame_30 rfl ?_
      refine z_goto (M := M_X12_isSame) (tgt := 35) dX12_isSame_31 (by decide) ?_
      exact J_18 _ (Option.some.inj H).symm
    · refine z_icmp_ne_t (M := M_X12_isSame) (tgt := 34) dX12_isSame_27 (by decide) rfl rfl h_10 ?_
      refine z_zconst (M := M_X12_isSame) (b := false) dX12_isSame_34 rfl ?_
      exact J_18 _ (Option.some.inj H).symm
  · refine z_icmp_ne_t (M := M_X12_isSame) (tgt := 34) dX12_isSame_12 (by decide) rfl rfl h_5 ?_
    refine z_zconst (M := M_X12_isSame) (b := false) dX12_isSame_34 rfl ?_
    exact J_18 _ (Option.some.inj H).symm
theorem c_X12_different (hl : l.stackTraces = false) {σ : SG} {from_0 : Int} {n_0 : Int} {r : Int}  (H : fR_different σ from_0 n_0 = some r) : en_S l E M_X12_different 2 0 0 [vr 277, vi from_0, vi n_0] σ (pS (some (vi r)) σ) := by
  unfold fR_different at H
  refine z_mk (lv := [some (vr 277), some (vi from_0), some (vi n_0), none, none]) m_X12_different rfl hl (Nat.le_of_ble_eq_true rfl) rfl ?_
  refine z_iconst (M := M_X12_different) dX12_different_0 ?_
  refine z_istore_n (M := M_X12_different) (lv' := [some (vr 277), some (vi from_0), some (vi n_0), some (vi (-1)), none]) dX12_different_1 (Nat.le_of_ble_eq_true rfl) rfl rfl ?_
  refine z_iload_n (M := M_X12_different) dX12_different_2 rfl ?_
  refine z_istore (M := M_X12_different) (lv' := [some (vr 277), some (vi from_0), some (vi n_0), some (vi (-1)), some (vi from_0)]) dX12_different_3 (Nat.le_of_ble_eq_true rfl) rfl rfl ?_
  obtain ⟨rl_6, hw_3, hk_4, hk_5⟩ := bx_e H
  have J_37 : ∀ second_29 k_30, rl_6 = (.inl (second_29, k_30)) → YY l E M_X12_different 2 0 0 (pS (some (vi r)) σ) 55 [some (vr 277), some (vi from_0), some (vi n_0), some (vi second_29), some (vi k_30)] [] σ 0 0 := by
    intro second_29 k_30 e
    have H := hk_4 _ e
    have J_33 : YY l E M_X12_different 2 0 0 (pS (some (vi r)) σ) 73 [some (vr 277), some (vi from_0), some (vi n_0), some (vi second_29), some (vi k_30)] [vi (if (w32 n_0) = 0 then 0 else (if (w32 second_29) = (-1) then 1 else 2))] σ 0 0 := by
      cases H
      exact z_iret (M := M_X12_different) dX12_different_73 rfl (Nat.le_of_ble_eq_true rfl) (Nat.le_of_ble_eq_true rfl) ⟨rfl, rfl⟩
    refine z_iload_n (M := M_X12_different) dX12_different_55 rfl ?_
    by_cases h_34 : (w32 n_0) = 0
    · refine z_if_ne_f (M := M_X12_different) (tgt := 63) dX12_different_56 (by decide) rfl h_34 ?_
      refine z_iconst (M := M_X12_different) dX12_different_59 ?_
      refine z_goto (M := M_X12_different) (tgt := 73) dX12_different_60 (by decide) ?_
      exact z_st (by rw [if_pos (c := (w32 n_0) = 0) h_34]) J_33
    · refine z_if_ne_t (M := M_X12_different) (tgt := 63) dX12_different_56 (by decide) rfl h_34 ?_
      have J_35 : YY l E M_X12_different 2 0 0 (pS (some (vi r)) σ) 73 [some (vr 277), some (vi from_0), some (vi n_0), some (vi second_29), some (vi k_30)] [vi (if (w32 second_29) = (-1) then 1 else 2)] σ 0 0 := by
        exact z_st (by rw [if_neg (c := (w32 n_0) = 0) h_34]) J_33
      refine z_iload_n (M := M_X12_different) dX12_different_63 rfl ?_
      refine z_iconst (M := M_X12_different) dX12_different_64 ?_
      by_cases h_36 : (w32 second_29) = (-1)
      · refine z_icmp_ne_f (M := M_X12_different) (tgt := 72) dX12_different_65 (by decide) rfl (by decide +kernel) h_36 ?_
        refine z_iconst (M := M_X12_different) dX12_different_68 ?_
        refine z_goto (M := M_X12_different) (tgt := 73) dX12_different_69 (by decide) ?_
        exact z_st (by rw [if_pos (c := (w32 second_29) = (-1)) h_36]) J_35
      · refine z_icmp_ne_t (M := M_X12_different) (tgt := 72) dX12_different_65 (by decide) rfl (by decide +kernel) h_36 ?_
        refine z_iconst (M := M_X12_different) dX12_different_72 ?_
        exact z_st (by rw [if_neg (c := (w32 second_29) = (-1)) h_36]) J_35
  refine whl_go hw_3 (fun (second_1, k_2) => YY l E M_X12_different 2 0 0 (pS (some (vi r)) σ) 5 [some (vr 277), some (vi from_0), some (vi n_0), some (vi second_1), some (vi k_2)] [] σ 0 0) ?_
  rintro ⟨second_1, k_2⟩ o_7 H K_8 K_9
  refine z_iload (M := M_X12_different) dX12_different_5 rfl ?_
  refine z_iload_n (M := M_X12_different) dX12_different_7 rfl ?_
  refine z_iload_n (M := M_X12_different) dX12_different_8 rfl ?_
  refine z_iadd (M := M_X12_different) dX12_different_9 ?_
  rcases if_e H with ⟨h_10, H⟩ | ⟨h_10, H⟩
  · refine z_icmp_ge_f (M := M_X12_different) (tgt := 55) dX12_different_10 (by decide) rfl rfl h_10 ?_
    refine z_aload_n (M := M_X12_different) dX12_different_13 rfl ?_
    refine z_iload (M := M_X12_different) dX12_different_14 rfl ?_
    refine z_iload_n (M := M_X12_different) dX12_different_16 rfl ?_
    obtain ⟨x_12, hc_11, H⟩ := bd_e H
    refine z_callV (M := M_X12_different) (M' := M_X12_isSame) (as := [vi k_2, vi from_0]) (rest := []) rfl rfl dX12_different_17 m_X12_isSame t_3230 t_3232 s_226 (c_X12_isSame hl  hc_11) rfl rfl ly_277 rfl (Nat.le_of_ble_eq_true rfl) (Nat.le_of_ble_eq_true rfl) (Nat.le_of_ble_eq_true rfl) (Nat.le_of_ble_eq_true rfl) ?_
    refine z_st (st' := [zv x_12]) rfl ?_
    rcases if_e H with ⟨h_13, H⟩ | ⟨h_13, H⟩
    · refine z_zeq_f (M := M_X12_different) (tgt := 26) dX12_different_20 (by decide) h_13 ?_
      refine z_goto (M := M_X12_different) (tgt := 49) dX12_different_23 (by decide) ?_
      refine z_iinc (M := M_X12_different) (lv' := [some (vr 277), some (vi from_0), some (vi n_0), some (vi second_1), some (vi (k_2 + 1))]) dX12_different_49 rfl (Nat.le_of_ble_eq_true rfl) rfl rfl ?_
      refine z_goto (M := M_X12_different) (tgt := 5) dX12_different_52 (by decide) ?_
      exact K_8 _ (Option.some.inj H).symm
    · refine z_zeq_t (M := M_X12_different) (tgt := 26) dX12_different_20 (by decide) h_13 ?_
      obtain ⟨v_18, he_15, hk_16, hk_17⟩ := bx_e H
      have J_27 : ∀ second_25, v_18 = (.inl second_25) → YY l E M_X12_different 2 0 0 (pS (some (vi r)) σ) 49 [some (vr 277), some (vi from_0), some (vi n_0), some (vi second_25), some (vi k_2)] [] σ 0 0 := by
        intro second_25 e
        have H := hk_16 _ e
        refine z_iinc (M := M_X12_different) (lv' := [some (vr 277), some (vi from_0), some (vi n_0), some (vi second_25), some (vi (k_2 + 1))]) dX12_different_49 rfl (Nat.le_of_ble_eq_true rfl) rfl rfl ?_
        refine z_goto (M := M_X12_different) (tgt := 5) dX12_different_52 (by decide) ?_
        exact K_8 _ (Option.some.inj H).symm
      have H := he_15
      refine z_iload_n (M := M_X12_different) dX12_different_26 rfl ?_
      refine z_iconst (M := M_X12_different) dX12_different_27 ?_
      rcases if_e H with ⟨h_19, H⟩ | ⟨h_19, H⟩
      · refine z_icmp_ne_f (M := M_X12_different) (tgt := 37) dX12_different_28 (by decide) rfl (by decide +kernel) h_19 ?_
        refine z_iload (M := M_X12_different) dX12_different_31 rfl ?_
        refine z_istore_n (M := M_X12_different) (lv' := [some (vr 277), some (vi from_0), some (vi n_0), some (vi k_2), some (vi k_2)]) dX12_different_33 (Nat.le_of_ble_eq_true rfl) rfl rfl ?_
        refine z_goto (M := M_X12_different) (tgt := 49) dX12_different_34 (by decide) ?_
        exact J_27 _ (Option.some.inj H).symm
      · refine z_icmp_ne_t (M := M_X12_different) (tgt := 37) dX12_different_28 (by decide) rfl (by decide +kernel) h_19 ?_
        refine z_aload_n (M := M_X12_different) dX12_different_37 rfl ?_
        refine z_iload (M := M_X12_different) dX12_different_38 rfl ?_
        refine z_iload_n (M := M_X12_different) dX12_different_40 rfl ?_
        obtain ⟨x_22, hc_21, H⟩ := bd_e H
        refine z_callV (M := M_X12_different) (M' := M_X12_isSame) (as := [vi k_2, vi second_1]) (rest := []) rfl rfl dX12_different_41 m_X12_isSame t_3230 t_3232 s_226 (c_X12_isSame hl  hc_21) rfl rfl ly_277 rfl (Nat.le_of_ble_eq_true rfl) (Nat.le_of_ble_eq_true rfl) (Nat.le_of_ble_eq_true rfl) (Nat.le_of_ble_eq_true rfl) ?_
        refine z_st (st' := [zv x_22]) rfl ?_
        rcases if_e H with ⟨h_23, H⟩ | ⟨h_23, H⟩
        · refine z_zne_t (M := M_X12_different) (tgt := 49) dX12_different_44 (by decide) h_23 ?_
          exact J_27 _ (Option.some.inj H).symm
        · refine z_zne_f (M := M_X12_different) (tgt := 49) dX12_different_44 (by decide) h_23 ?_
          refine z_iconst (M := M_X12_different) dX12_different_47 ?_
          have H := congrArg some (hk_17 _ (Option.some.inj H).symm)
          have H := congrArg some (hk_5 _ ((K_9 _ (Option.some.inj H).symm).symm))
          cases H
          exact z_iret (M := M_X12_different) dX12_different_48 rfl (Nat.le_of_ble_eq_true rfl) (Nat.le_of_ble_eq_true rfl) ⟨rfl, rfl⟩
  · refine z_icmp_ge_t (M := M_X12_different) (tgt := 55) dX12_different_10 (by decide) rfl rfl (Int.not_lt.mp h_10) ?_
    exact J_37 _ _ (K_9 _ (Option.some.inj H).symm).symm
theorem c_X12_following (hl : l.stackTraces = false) {σ : SG} {i_0 : Int} {r : Int}  (H : fR_following σ i_0 = some r) : en_S l E M_X12_following 1 0 0 [vr 277, vi i_0] σ (pS (some (vi r)) σ) := by
  unfold fR_following at H
  refine z_mk (lv := [some (vr 277), some (vi i_0), none]) m_X12_following rfl hl (Nat.le_of_ble_eq_true rfl) rfl ?_
  refine z_aload_n (M := M_X12_following) dX12_following_0 rfl ?_
  refine z_getR (M := M_X12_following) (ci := 15) (C := RX12) (T := TX12) (Nf := 135) (ty := tyX12) cl15 dX12_following_1 ly_277 45 (by decide) t_2436 rfl ?_
  refine z_iload_n (M := M_X12_following) dX12_following_4 rfl ?_
  obtain ⟨x_1, x_1_e, hi_2, H⟩ := rd_e H
  refine z_iald (M := M_X12_following) dX12_following_5 ly_303 rfl rfl rfl hi_2 x_1_e ?_
  refine z_istore_n (M := M_X12_following) (lv' := [some (vr 277), some (vi i_0), some (vi x_1)]) dX12_following_6 (Nat.le_of_ble_eq_true rfl) rfl rfl ?_
  obtain ⟨v_11, he_12, hk_13⟩ := bd_e H
  have J_14 : ∀ x_10, v_11 = x_10 → YY l E M_X12_following 1 0 0 (pS (some (vi r)) σ) 33 [some (vr 277), some (vi i_0), some (vi x_1)] [vi x_10] σ 0 0 := by
    intro x_10 e
    have H := hk_13
    rw [e] at H
    cases H
    exact z_iret (M := M_X12_following) dX12_following_33 rfl (Nat.le_of_ble_eq_true rfl) (Nat.le_of_ble_eq_true rfl) ⟨rfl, rfl⟩
  have H := he_12
  refine z_iload_n (M := M_X12_following) dX12_following_7 rfl ?_
  refine z_iconst (M := M_X12_following) dX12_following_8 ?_
  refine z_iadd (M := M_X12_following) dX12_following_9 ?_
  refine z_aload_n (M := M_X12_following) dX12_following_10 rfl ?_
  refine z_getR (M := M_X12_following) (ci := 15) (C := RX12) (T := TX12) (Nf := 135) (ty := tyX12) cl15 dX12_following_11 ly_277 56 (by decide) t_2447 rfl ?_
  refine z_iload_n (M := M_X12_following) dX12_following_14 rfl ?_
  refine z_iconst (M := M_X12_following) dX12_following_15 ?_
  refine z_iadd (M := M_X12_following) dX12_following_16 ?_
  obtain ⟨x_3, x_3_e, hi_4, H⟩ := rd_e H
  refine z_iald (M := M_X12_following) dX12_following_17 ly_310 rfl rfl rfl hi_4 x_3_e ?_
  rcases if_e H with ⟨h_5, H⟩ | ⟨h_5, H⟩
  · refine z_icmp_ne_f (M := M_X12_following) (tgt := 30) dX12_following_18 (by decide) rfl rfl h_5 ?_
    refine z_aload_n (M := M_X12_following) dX12_following_21 rfl ?_
    refine z_getR (M := M_X12_following) (ci := 15) (C := RX12) (T := TX12) (Nf := 135) (ty := tyX12) cl15 dX12_following_22 ly_277 56 (by decide) t_2447 rfl ?_
    refine z_iload_n (M := M_X12_following) dX12_following_25 rfl ?_
    obtain ⟨x_6, x_6_e, hi_7, H⟩ := rd_e H
    refine z_iald (M := M_X12_following) dX12_following_26 ly_310 rfl rfl rfl hi_7 x_6_e ?_
    refine z_goto (M := M_X12_following) (tgt := 33) dX12_following_27 (by decide) ?_
    exact J_14 _ (Option.some.inj H).symm
  · refine z_icmp_ne_t (M := M_X12_following) (tgt := 30) dX12_following_18 (by decide) rfl rfl h_5 ?_
    refine z_iload_n (M := M_X12_following) dX12_following_30 rfl ?_
    refine z_iconst (M := M_X12_following) dX12_following_31 ?_
    refine z_iadd (M := M_X12_following) dX12_following_32 ?_
    exact J_14 _ (Option.some.inj H).symm
theorem c_X12_isBetween (hl : l.stackTraces = false) {σ : SG} {ox_0 : Int} {oy_0 : Int} {bx_0 : Int} {by_0 : Int} {vx_0 : Int} {vy_0 : Int} {r : Bool}  (H : fR_isBetween ox_0 oy_0 bx_0 by_0 vx_0 vy_0 = r) : en_S l E M_X12_isBetween 2 0 0 [vl ox_0, vl oy_0, vl bx_0, vl by_0, vl vx_0, vl vy_0] σ (pS (some (zv r)) σ) := by
  unfold fR_isBetween at H
  refine z_mk (lv := [some (vl ox_0), none, some (vl oy_0), none, some (vl bx_0), none, some (vl by_0), none, some (vl vx_0), none, some (vl vy_0), none, none, none, none, none, none, none]) m_X12_isBetween rfl hl (Nat.le_of_ble_eq_true rfl) rfl ?_
  refine z_lload_n (M := M_X12_isBetween) dX12_isBetween_0 rfl ?_
  refine z_lload_n (M := M_X12_isBetween) dX12_isBetween_1 rfl ?_
  refine z_lload (M := M_X12_isBetween) dX12_isBetween_2 rfl ?_
  refine z_lload (M := M_X12_isBetween) dX12_isBetween_4 rfl ?_
  refine z_callS (M := M_X12_isBetween) (M' := M_X12_cross) (as := [vl ox_0, vl oy_0, vl bx_0, vl by_0]) (rest := []) rfl rfl dX12_isBetween_6 m_X12_cross t_3265 t_3266 (c_X12_cross hl  rfl) rfl rfl (Nat.le_of_ble_eq_true rfl) (Nat.le_of_ble_eq_true rfl) (Nat.le_of_ble_eq_true rfl) (Nat.le_of_ble_eq_true rfl) ?_
  refine z_st (st' := [vl (fR_cross ox_0 oy_0 bx_0 by_0)]) rfl ?_
  refine z_lstore (M := M_X12_isBetween) (lv' := [some (vl ox_0), none, some (vl oy_0), none, some (vl bx_0), none, some (vl by_0), none, some (vl vx_0), none, some (vl vy_0), none, some (vl (fR_cross ox_0 oy_0 bx_0 by_0)), none, none, none, none, none]) dX12_isBetween_9 (Nat.le_of_ble_eq_true rfl) rfl rfl ?_
  refine z_lload_n (M := M_X12_isBetween) dX12_isBetween_11 rfl ?_
  refine z_lload_n (M := M_X12_isBetween) dX12_isBetween_12 rfl ?_
  refine z_lload (M := M_X12_isBetween) dX12_isBetween_13 rfl ?_
  refine z_lload (M := M_X12_isBetween) dX12_isBetween_15 rfl ?_
  refine z_callS (M := M_X12_isBetween) (M' := M_X12_cross) (as := [vl ox_0, vl oy_0, vl vx_0, vl vy_0]) (rest := []) rfl rfl dX12_isBetween_17 m_X12_cross t_3265 t_3266 (c_X12_cross hl  rfl) rfl rfl (Nat.le_of_ble_eq_true rfl) (Nat.le_of_ble_eq_true rfl) (Nat.le_of_ble_eq_true rfl) (Nat.le_of_ble_eq_true rfl) ?_
  refine z_st (st' := [vl (fR_cross ox_0 oy_0 vx_0 vy_0)]) rfl ?_
  refine z_lstore (M := M_X12_isBetween) (lv' := [some (vl ox_0), none, some (vl oy_0), none, some (vl bx_0), none, some (vl by_0), none, some (vl vx_0), none, some (vl vy_0), none, some (vl (fR_cross ox_0 oy_0 bx_0 by_0)), none, some (vl (fR_cross ox_0 oy_0 vx_0 vy_0)), none, none, none]) dX12_isBetween_20 (Nat.le_of_ble_eq_true rfl) rfl rfl ?_
  refine z_lload (M := M_X12_isBetween) dX12_isBetween_22 rfl ?_
  refine z_lload (M := M_X12_isBetween) dX12_isBetween_24 rfl ?_
  refine z_lload (M := M_X12_isBetween) dX12_isBetween_26 rfl ?_
  refine z_lload (M := M_X12_isBetween) dX12_isBetween_28 rfl ?_
  refine z_callS (M := M_X12_isBetween) (M' := M_X12_cross) (as := [vl vx_0, vl vy_0, vl bx_0, vl by_0]) (rest := []) rfl rfl dX12_isBetween_30 m_X12_cross t_3265 t_3266 (c_X12_cross hl  rfl) rfl rfl (Nat.le_of_ble_eq_true rfl) (Nat.le_of_ble_eq_true rfl) (Nat.le_of_ble_eq_true rfl) (Nat.le_of_ble_eq_true rfl) ?_
  refine z_st (st' := [vl (fR_cross vx_0 vy_0 bx_0 by_0)]) rfl ?_
  refine z_lstore (M := M_X12_isBetween) (lv' := [some (vl ox_0), none, some (vl oy_0), none, some (vl bx_0), none, some (vl by_0), none, some (vl vx_0), none, some (vl vy_0), none, some (vl (fR_cross ox_0 oy_0 bx_0 by_0)), none, some (vl (fR_cross ox_0 oy_0 vx_0 vy_0)), none, some (vl (fR_cross vx_0 vy_0 bx_0 by_0)), none]) dX12_isBetween_33 (Nat.le_of_ble_eq_true rfl) rfl rfl ?_
  refine z_lload (M := M_X12_isBetween) dX12_isBetween_35 rfl ?_
  refine z_lconst (M := M_X12_isBetween) (m := 0) dX12_isBetween_37 (by decide +kernel) ?_
  refine z_lcmp (M := M_X12_isBetween) dX12_isBetween_38 ?_
  rcases if_e H with ⟨h_1, H⟩ | ⟨h_1, H⟩
  · refine z_lif_le_f (M := M_X12_isBetween) (tgt := 62) dX12_isBetween_39 (by decide) rfl (by decide +kernel) h_1 ?_
    have J_2 : YY l E M_X12_isBetween 2 0 0 (pS (some (zv r)) σ) 61 [some (vl ox_0), none, some (vl oy_0), none, some (vl bx_0), none, some (vl by_0), none, some (vl vx_0), none, some (vl vy_0), none, some (vl (fR_cross ox_0 oy_0 bx_0 by_0)), none, some (vl (fR_cross ox_0 oy_0 vx_0 vy_0)), none, some (vl (fR_cross vx_0 vy_0 bx_0 by_0)), none] [zv (decide ((0 < (w64 (fR_cross ox_0 oy_0 vx_0 vy_0))) ∧ (0 < (w64 (fR_cross vx_0 vy_0 bx_0 by_0)))))] σ 0 0 := by
      cases H
      exact z_zret (M := M_X12_isBetween) dX12_isBetween_61 rfl (Nat.le_of_ble_eq_true rfl) (Nat.le_of_ble_eq_true rfl) ⟨rfl, rfl⟩
    refine z_lload (M := M_X12_isBetween) dX12_isBetween_42 rfl ?_
    refine z_lconst (M := M_X12_isBetween) (m := 0) dX12_isBetween_44 (by decide +kernel) ?_
    refine z_lcmp (M := M_X12_isBetween) dX12_isBetween_45 ?_
    by_cases h_3 : 0 < (w64 (fR_cross ox_0 oy_0 vx_0 vy_0))
    · refine z_lif_le_f (M := M_X12_isBetween) (tgt := 60) dX12_isBetween_46 (by decide) rfl (by decide +kernel) h_3 ?_
      refine z_lload (M := M_X12_isBetween) dX12_isBetween_49 rfl ?_
      refine z_lconst (M := M_X12_isBetween) (m := 0) dX12_isBetween_51 (by decide +kernel) ?_
      refine z_lcmp (M := M_X12_isBetween) dX12_isBetween_52 ?_
      by_cases h_4 : 0 < (w64 (fR_cross vx_0 vy_0 bx_0 by_0))
      · refine z_lif_le_f (M := M_X12_isBetween) (tgt := 60) dX12_isBetween_53 (by decide) rfl (by decide +kernel) h_4 ?_
        refine z_iconst (M := M_X12_isBetween) dX12_isBetween_56 ?_
        refine z_goto (M := M_X12_isBetween) (tgt := 61) dX12_isBetween_57 (by decide) ?_
        exact z_st (by rw [zv_t (p := (0 < (w64 (fR_cross ox_0 oy_0 vx_0 vy_0))) ∧ (0 < (w64 (fR_cross vx_0 vy_0 bx_0 by_0)))) ⟨h_3, h_4⟩]) J_2
      · refine z_lif_le_t (M := M_X12_isBetween) (tgt := 60) dX12_isBetween_53 (by decide) rfl (by decide +kernel) (Int.not_lt.mp h_4) ?_
        refine z_iconst (M := M_X12_isBetween) dX12_isBetween_60 ?_
        exact z_st (by rw [zv_f (p := (0 < (w64 (fR_cross ox_0 oy_0 vx_0 vy_0))) ∧ (0 < (w64 (fR_cross vx_0 vy_0 bx_0 by_0)))) (fun q => h_4 q.2)]) J_2
    · refine z_lif_le_t (M := M_X12_isBetween) (tgt := 60) dX12_isBetween_46 (by decide) rfl (by decide +kernel) (Int.not_lt.mp h_3) ?_
      refine z_iconst (M := M_X12_isBetween) dX12_isBetween_60 ?_
      exact z_st (by rw [zv_f (p := (0 < (w64 (fR_cross ox_0 oy_0 vx_0 vy_0))) ∧ (0 < (w64 (fR_cross vx_0 vy_0 bx_0 by_0)))) (fun q => h_3 q.1)]) J_2
  · refine z_lif_le_t (M := M_X12_isBetween) (tgt := 62) dX12_isBetween_39 (by decide) rfl (by decide +kernel) (Int.not_lt.mp h_1) ?_
    refine z_lload (M := M_X12_isBetween) dX12_isBetween_62 rfl ?_
    refine z_lconst (M := M_X12_isBetween) (m := 0) dX12_isBetween_64 (by decide +kernel) ?_
    refine z_lcmp (M := M_X12_isBetween) dX12_isBetween_65 ?_
    rcases if_e H with ⟨h_5, H⟩ | ⟨h_5, H⟩
    · refine z_lif_ne_f (M := M_X12_isBetween) (tgt := 96) dX12_isBetween_66 (by decide) rfl (by decide +kernel) h_5 ?_
      have J_6 : YY l E M_X12_isBetween 2 0 0 (pS (some (zv r)) σ) 95 [some (vl ox_0), none, some (vl oy_0), none, some (vl bx_0), none, some (vl by_0), none, some (vl vx_0), none, some (vl vy_0), none, some (vl (fR_cross ox_0 oy_0 bx_0 by_0)), none, some (vl (fR_cross ox_0 oy_0 vx_0 vy_0)), none, some (vl (fR_cross vx_0 vy_0 bx_0 by_0)), none] [zv (decide (((w64 ((ox_0 * bx_0) + (oy_0 * by_0))) < 0) ∧ (0 < (w64 (fR_cross ox_0 oy_0 vx_0 vy_0)))))] σ 0 0 := by
        cases H
        exact z_zret (M := M_X12_isBetween) dX12_isBetween_95 rfl (Nat.le_of_ble_eq_true rfl) (Nat.le_of_ble_eq_true rfl) ⟨rfl, rfl⟩
      refine z_lload_n (M := M_X12_isBetween) dX12_isBetween_69 rfl ?_
      refine z_lload (M := M_X12_isBetween) dX12_isBetween_70 rfl ?_
      refine z_lmul (M := M_X12_isBetween) dX12_isBetween_72 ?_
      refine z_lload_n (M := M_X12_isBetween) dX12_isBetween_73 rfl ?_
      refine z_lload (M := M_X12_isBetween) dX12_isBetween_74 rfl ?_
      refine z_lmul (M := M_X12_isBetween) dX12_isBetween_76 ?_
      refine z_ladd (M := M_X12_isBetween) dX12_isBetween_77 ?_
      refine z_lconst (M := M_X12_isBetween) (m := 0) dX12_isBetween_78 (by decide +kernel) ?_
      refine z_lcmp (M := M_X12_isBetween) dX12_isBetween_79 ?_
      by_cases h_7 : (w64 ((ox_0 * bx_0) + (oy_0 * by_0))) < 0
      · refine z_lif_ge_f (M := M_X12_isBetween) (tgt := 94) dX12_isBetween_80 (by decide) rfl (by decide +kernel) h_7 ?_
        refine z_lload (M := M_X12_isBetween) dX12_isBetween_83 rfl ?_
        refine z_lconst (M := M_X12_isBetween) (m := 0) dX12_isBetween_85 (by decide +kernel) ?_
        refine z_lcmp (M := M_X12_isBetween) dX12_isBetween_86 ?_
        by_cases h_8 : 0 < (w64 (fR_cross ox_0 oy_0 vx_0 vy_0))
        · refine z_lif_le_f (M := M_X12_isBetween) (tgt := 94) dX12_isBetween_87 (by decide) rfl (by decide +kernel) h_8 ?_
          refine z_iconst (M := M_X12_isBetween) dX12_isBetween_90 ?_
          refine z_goto (M := M_X12_isBetween) (tgt := 95) dX12_isBetween_91 (by decide) ?_
          exact z_st (by rw [zv_t (p := ((w64 ((ox_0 * bx_0) + (oy_0 * by_0))) < 0) ∧ (0 < (w64 (fR_cross ox_0 oy_0 vx_0 vy_0)))) ⟨h_7, h_8⟩]) J_6
        · refine z_lif_le_t (M := M_X12_isBetween) (tgt := 94) dX12_isBetween_87 (by decide) rfl (by decide +kernel) (Int.not_lt.mp h_8) ?_
          refine z_iconst (M := M_X12_isBetween) dX12_isBetween_94 ?_
          exact z_st (by rw [zv_f (p := ((w64 ((ox_0 * bx_0) + (oy_0 * by_0))) < 0) ∧ (0 < (w64 (fR_cross ox_0 oy_0 vx_0 vy_0)))) (fun q => h_8 q.2)]) J_6
      · refine z_lif_ge_t (M := M_X12_isBetween) (tgt := 94) dX12_isBetween_80 (by decide) rfl (by decide +kernel) (Int.not_lt.mp h_7) ?_
        refine z_iconst (M := M_X12_isBetween) dX12_isBetween_94 ?_
        exact z_st (by rw [zv_f (p := ((w64 ((ox_0 * bx_0) + (oy_0 * by_0))) < 0) ∧ (0 < (w64 (fR_cross ox_0 oy_0 vx_0 vy_0)))) (fun q => h_7 q.1)]) J_6
    · refine z_lif_ne_t (M := M_X12_isBetween) (tgt := 96) dX12_isBetween_66 (by decide) rfl (by decide +kernel) h_5 ?_
      have J_9 : YY l E M_X12_isBetween 2 0 0 (pS (some (zv r)) σ) 115 [some (vl ox_0), none, some (vl oy_0), none, some (vl bx_0), none, some (vl by_0), none, some (vl vx_0), none, some (vl vy_0), none, some (vl (fR_cross ox_0 oy_0 bx_0 by_0)), none, some (vl (fR_cross ox_0 oy_0 vx_0 vy_0)), none, some (vl (fR_cross vx_0 vy_0 bx_0 by_0)), none] [zv (decide ((0 < (w64 (fR_cross ox_0 oy_0 vx_0 vy_0))) ∨ (0 < (w64 (fR_cross vx_0 vy_0 bx_0 by_0)))))] σ 0 0 := by
        cases H
        exact z_zret (M := M_X12_isBetween) dX12_isBetween_115 rfl (Nat.le_of_ble_eq_true rfl) (Nat.le_of_ble_eq_true rfl) ⟨rfl, rfl⟩
      refine z_lload (M := M_X12_isBetween) dX12_isBetween_96 rfl ?_
      refine z_lconst (M := M_X12_isBetween) (m := 0) dX12_isBetween_98 (by decide +kernel) ?_
      refine z_lcmp (M := M_X12_isBetween) dX12_isBetween_99 ?_
      by_cases h_10 : 0 < (w64 (fR_cross ox_0 oy_0 vx_0 vy_0))
      · refine z_lif_gt_t (M := M_X12_isBetween) (tgt := 110) dX12_isBetween_100 (by decide) rfl (by decide +kernel) h_10 ?_
        refine z_iconst (M := M_X12_isBetween) dX12_isBetween_110 ?_
        refine z_goto (M := M_X12_isBetween) (tgt := 115) dX12_isBetween_111 (by decide) ?_
        exact z_st (by rw [zv_t (p := (0 < (w64 (fR_cross ox_0 oy_0 vx_0 vy_0))) ∨ (0 < (w64 (fR_cross vx_0 vy_0 bx_0 by_0)))) (Or.inl h_10)]) J_9
      · refine z_lif_gt_f (M := M_X12_isBetween) (tgt := 110) dX12_isBetween_100 (by decide) rfl (by decide +kernel) (Int.not_lt.mp h_10) ?_
        refine z_lload (M := M_X12_isBetween) dX12_isBetween_103 rfl ?_
        refine z_lconst (M := M_X12_isBetween) (m := 0) dX12_isBetween_105 (by decide +kernel) ?_
        refine z_lcmp (M := M_X12_isBetween) dX12_isBetween_106 ?_
        by_cases h_11 : 0 < (w64 (fR_cross vx_0 vy_0 bx_0 by_0))
        · refine z_lif_le_f (M := M_X12_isBetween) (tgt := 114) dX12_isBetween_107 (by decide) rfl (by decide +kernel) h_11 ?_
          refine z_iconst (M := M_X12_isBetween) dX12_isBetween_110 ?_
          refine z_goto (M := M_X12_isBetween) (tgt := 115) dX12_isBetween_111 (by decide) ?_
          exact z_st (by rw [zv_t (p := (0 < (w64 (fR_cross ox_0 oy_0 vx_0 vy_0))) ∨ (0 < (w64 (fR_cross vx_0 vy_0 bx_0 by_0)))) (Or.inr h_11)]) J_9
        · refine z_lif_le_t (M := M_X12_isBetween) (tgt := 114) dX12_isBetween_107 (by decide) rfl (by decide +kernel) (Int.not_lt.mp h_11) ?_
          refine z_iconst (M := M_X12_isBetween) dX12_isBetween_114 ?_
          exact z_st (by rw [zv_f (p := (0 < (w64 (fR_cross ox_0 oy_0 vx_0 vy_0))) ∨ (0 < (w64 (fR_cross vx_0 vy_0 bx_0 by_0)))) (fun q => q.elim h_10 h_11)]) J_9
theorem c_X12_isCrossing (hl : l.stackTraces = false) {σ : SG} {i_0 : Int} {j_0 : Int} {r : Bool}  (H : fR_isCrossing σ i_0 j_0 = some r) : en_S l E M_X12_isCrossing 3 0 0 [vr 277, vi i_0, vi j_0] σ (pS (some (zv r)) σ) := by
  unfold fR_isCrossing at H
  refine z_mk (lv := [some (vr 277), some (vi i_0), some (vi j_0), none, none, none, none, none, none, none, none, none, none, none, none, none, none]) m_X12_isCrossing rfl hl (Nat.le_of_ble_eq_true rfl) rfl ?_
  obtain ⟨v_69, he_70, hk_71⟩ := bd_e H
  have J_72 : ∀ x_10, v_69 = x_10 → YY l E M_X12_isCrossing 3 0 0 (pS (some (zv r)) σ) 33 [some (vr 277), some (vi i_0), some (vi j_0), none, none, none, none, none, none, none, none, none, none, none, none, none, none] [zv x_10] σ 0 0 := by
    intro x_10 e
    have H := hk_71
    rw [e] at H
    refine z_zstore_n (M := M_X12_isCrossing) (lv' := [some (vr 277), some (vi i_0), some (vi j_0), some (zv x_10), none, none, none, none, none, none, none, none, none, none, none, none, none]) dX12_isCrossing_33 (Nat.le_of_ble_eq_true rfl) rfl rfl ?_
    obtain ⟨v_65, he_66, hk_67⟩ := bd_e H
    have J_68 : ∀ x_20, v_65 = x_20 → YY l E M_X12_isCrossing 3 0 0 (pS (some (zv r)) σ) 67 [some (vr 277), some (vi i_0), some (vi j_0), some (zv x_10), none, none, none, none, none, none, none, none, none, none, none, none, none] [zv x_20] σ 0 0 := by
      intro x_20 e
      have H := hk_67
      rw [e] at H
      refine z_zstore (M := M_X12_isCrossing) (lv' := [some (vr 277), some (vi i_0), some (vi j_0), some (zv x_10), some (zv x_20), none, none, none, none, none, none, none, none, none, none, none, none]) dX12_isCrossing_67 (Nat.le_of_ble_eq_true rfl) rfl rfl ?_
      obtain ⟨v_61, he_62, hk_63⟩ := bd_e H
      have J_64 : ∀ x_28, v_61 = x_28 → YY l E M_X12_isCrossing 3 0 0 (pS (some (zv r)) σ) 82 [some (vr 277), some (vi i_0), some (vi j_0), some (zv x_10), some (zv x_20), none, none, none, none, none, none, none, none, none, none, none, none] [vi x_28] σ 0 0 := by
        intro x_28 e
        have H := hk_63
        rw [e] at H
        refine z_istore (M := M_X12_isCrossing) (lv' := [some (vr 277), some (vi i_0), some (vi j_0), some (zv x_10), some (zv x_20), some (vi x_28), none, none, none, none, none, none, none, none, none, none, none]) dX12_isCrossing_82 (Nat.le_of_ble_eq_true rfl) rfl rfl ?_
        obtain ⟨v_57, he_58, hk_59⟩ := bd_e H
        have J_60 : ∀ x_36, v_57 = x_36 → YY l E M_X12_isCrossing 3 0 0 (pS (some (zv r)) σ) 98 [some (vr 277), some (vi i_0), some (vi j_0), some (zv x_10), some (zv x_20), some (vi x_28), none, none, none, none, none, none, none, none, none, none, none] [vi x_36] σ 0 0 := by
          intro x_36 e
          have H := hk_59
          rw [e] at H
          refine z_istore (M := M_X12_isCrossing) (lv' := [some (vr 277), some (vi i_0), some (vi j_0), some (zv x_10), some (zv x_20), some (vi x_28), some (vi x_36), none, none, none, none, none, none, none, none, none, none]) dX12_isCrossing_98 (Nat.le_of_ble_eq_true rfl) rfl rfl ?_
          refine z_aload_n (M := M_X12_isCrossing) dX12_isCrossing_100 rfl ?_
          refine z_getR (M := M_X12_isCrossing) (ci := 15) (C := RX12) (T := TX12) (Nf := 135) (ty := tyX12) cl15 dX12_isCrossing_101 ly_277 43 (by decide) t_2434 rfl ?_
          refine z_iload (M := M_X12_isCrossing) dX12_isCrossing_104 rfl ?_
          obtain ⟨x_37, x_37_e, hi_38, H⟩ := rd_e H
          refine z_lald (M := M_X12_isCrossing) dX12_isCrossing_106 ly_301 rfl rfl rfl hi_38 x_37_e ?_
          refine z_aload_n (M := M_X12_isCrossing) dX12_isCrossing_107 rfl ?_
          refine z_getL (M := M_X12_isCrossing) (ci := 15) (C := RX12) (T := TX12) (Nf := 135) (ty := tyX12) cl15 dX12_isCrossing_108 ly_277 50 (by decide) t_2441 rfl rfl ?_
          refine z_lsub (M := M_X12_isCrossing) dX12_isCrossing_111 ?_
          refine z_lstore (M := M_X12_isCrossing) (lv' := [some (vr 277), some (vi i_0), some (vi j_0), some (zv x_10), some (zv x_20), some (vi x_28), some (vi x_36), some (vl (x_37 - (σ kR_meetX 0))), none, none, none, none, none, none, none, none, none]) dX12_isCrossing_112 (Nat.le_of_ble_eq_true rfl) rfl rfl ?_
          refine z_aload_n (M := M_X12_isCrossing) dX12_isCrossing_114 rfl ?_
          refine z_getR (M := M_X12_isCrossing) (ci := 15) (C := RX12) (T := TX12) (Nf := 135) (ty := tyX12) cl15 dX12_isCrossing_115 ly_277 44 (by decide) t_2435 rfl ?_
          refine z_iload (M := M_X12_isCrossing) dX12_isCrossing_118 rfl ?_
          obtain ⟨x_39, x_39_e, hi_40, H⟩ := rd_e H
          refine z_lald (M := M_X12_isCrossing) dX12_isCrossing_120 ly_302 rfl rfl rfl hi_40 x_39_e ?_
          refine z_aload_n (M := M_X12_isCrossing) dX12_isCrossing_121 rfl ?_
          refine z_getL (M := M_X12_isCrossing) (ci := 15) (C := RX12) (T := TX12) (Nf := 135) (ty := tyX12) cl15 dX12_isCrossing_122 ly_277 51 (by decide) t_2442 rfl rfl ?_
          refine z_lsub (M := M_X12_isCrossing) dX12_isCrossing_125 ?_
          refine z_lstore (M := M_X12_isCrossing) (lv' := [some (vr 277), some (vi i_0), some (vi j_0), some (zv x_10), some (zv x_20), some (vi x_28), some (vi x_36), some (vl (x_37 - (σ kR_meetX 0))), none, some (vl (x_39 - (σ kR_meetY 0))), none, none, none, none, none, none, none]) dX12_isCrossing_126 (Nat.le_of_ble_eq_true rfl) rfl rfl ?_
          refine z_aload_n (M := M_X12_isCrossing) dX12_isCrossing_128 rfl ?_
          refine z_getR (M := M_X12_isCrossing) (ci := 15) (C := RX12) (T := TX12) (Nf := 135) (ty := tyX12) cl15 dX12_isCrossing_129 ly_277 41 (by decide) t_2432 rfl ?_
          refine z_iload_n (M := M_X12_isCrossing) dX12_isCrossing_132 rfl ?_
          obtain ⟨x_41, x_41_e, hi_42, H⟩ := rd_e H
          refine z_lald (M := M_X12_isCrossing) dX12_isCrossing_133 ly_299 rfl rfl rfl hi_42 x_41_e ?_
          refine z_aload_n (M := M_X12_isCrossing) dX12_isCrossing_134 rfl ?_
          refine z_getL (M := M_X12_isCrossing) (ci := 15) (C := RX12) (T := TX12) (Nf := 135) (ty := tyX12) cl15 dX12_isCrossing_135 ly_277 50 (by decide) t_2441 rfl rfl ?_
          refine z_lsub (M := M_X12_isCrossing) dX12_isCrossing_138 ?_
          refine z_lstore (M := M_X12_isCrossing) (lv' := [some (vr 277), some (vi i_0), some (vi j_0), some (zv x_10), some (zv x_20), some (vi x_28), some (vi x_36), some (vl (x_37 - (σ kR_meetX 0))), none, some (vl (x_39 - (σ kR_meetY 0))), none, some (vl (x_41 - (σ kR_meetX 0))), none, none, none, none, none]) dX12_isCrossing_139 (Nat.le_of_ble_eq_true rfl) rfl rfl ?_
          refine z_aload_n (M := M_X12_isCrossing) dX12_isCrossing_141 rfl ?_
          refine z_getR (M := M_X12_isCrossing) (ci := 15) (C := RX12) (T := TX12) (Nf := 135) (ty := tyX12) cl15 dX12_isCrossing_142 ly_277 42 (by decide) t_2433 rfl ?_
          refine z_iload_n (M := M_X12_isCrossing) dX12_isCrossing_145 rfl ?_
          obtain ⟨x_43, x_43_e, hi_44, H⟩ := rd_e H
          refine z_lald (M := M_X12_isCrossing) dX12_isCrossing_146 ly_300 rfl rfl rfl hi_44 x_43_e ?_
          refine z_aload_n (M := M_X12_isCrossing) dX12_isCrossing_147 rfl ?_
          refine z_getL (M := M_X12_isCrossing) (ci := 15) (C := RX12) (T := TX12) (Nf := 135) (ty := tyX12) cl15 dX12_isCrossing_148 ly_277 51 (by decide) t_2442 rfl rfl ?_
          refine z_lsub (M := M_X12_isCrossing) dX12_isCrossing_151 ?_
          refine z_lstore (M := M_X12_isCrossing) (lv' := [some (vr 277), some (vi i_0), some (vi j_0), some (zv x_10), some (zv x_20), some (vi x_28), some (vi x_36), some (vl (x_37 - (σ kR_meetX 0))), none, some (vl (x_39 - (σ kR_meetY 0))), none, some (vl (x_41 - (σ kR_meetX 0))), none, some (vl (x_43 - (σ kR_meetY 0))), none, none, none]) dX12_isCrossing_152 (Nat.le_of_ble_eq_true rfl) rfl rfl ?_
          refine z_lload (M := M_X12_isCrossing) dX12_isCrossing_154 rfl ?_
          refine z_lload (M := M_X12_isCrossing) dX12_isCrossing_156 rfl ?_
          refine z_lload (M := M_X12_isCrossing) dX12_isCrossing_158 rfl ?_
          refine z_lload (M := M_X12_isCrossing) dX12_isCrossing_160 rfl ?_
          refine z_aload_n (M := M_X12_isCrossing) dX12_isCrossing_162 rfl ?_
          refine z_getR (M := M_X12_isCrossing) (ci := 15) (C := RX12) (T := TX12) (Nf := 135) (ty := tyX12) cl15 dX12_isCrossing_163 ly_277 43 (by decide) t_2434 rfl ?_
          refine z_iload (M := M_X12_isCrossing) dX12_isCrossing_166 rfl ?_
          obtain ⟨x_45, x_45_e, hi_46, H⟩ := rd_e H
          refine z_lald (M := M_X12_isCrossing) dX12_isCrossing_168 ly_301 rfl rfl rfl hi_46 x_45_e ?_
          refine z_aload_n (M := M_X12_isCrossing) dX12_isCrossing_169 rfl ?_
          refine z_getL (M := M_X12_isCrossing) (ci := 15) (C := RX12) (T := TX12) (Nf := 135) (ty := tyX12) cl15 dX12_isCrossing_170 ly_277 50 (by decide) t_2441 rfl rfl ?_
          refine z_lsub (M := M_X12_isCrossing) dX12_isCrossing_173 ?_
          refine z_aload_n (M := M_X12_isCrossing) dX12_isCrossing_174 rfl ?_
          refine z_getR (M := M_X12_isCrossing) (ci := 15) (C := RX12) (T := TX12) (Nf := 135) (ty := tyX12) cl15 dX12_isCrossing_175 ly_277 44 (by decide) t_2435 rfl ?_
          refine z_iload (M := M_X12_isCrossing) dX12_isCrossing_178 rfl ?_
          obtain ⟨x_47, x_47_e, hi_48, H⟩ := rd_e H
          refine z_lald (M := M_X12_isCrossing) dX12_isCrossing_180 ly_302 rfl rfl rfl hi_48 x_47_e ?_
          refine z_aload_n (M := M_X12_isCrossing) dX12_isCrossing_181 rfl ?_
          refine z_getL (M := M_X12_isCrossing) (ci := 15) (C := RX12) (T := TX12) (Nf := 135) (ty := tyX12) cl15 dX12_isCrossing_182 ly_277 51 (by decide) t_2442 rfl rfl ?_
          refine z_lsub (M := M_X12_isCrossing) dX12_isCrossing_185 ?_
          refine z_callS (M := M_X12_isCrossing) (M' := M_X12_isBetween) (as := [vl (x_37 - (σ kR_meetX 0)), vl (x_39 - (σ kR_meetY 0)), vl (x_41 - (σ kR_meetX 0)), vl (x_43 - (σ kR_meetY 0)), vl (x_45 - (σ kR_meetX 0)), vl (x_47 - (σ kR_meetY 0))]) (rest := []) rfl rfl dX12_isCrossing_186 m_X12_isBetween t_3294 t_3295 (c_X12_isBetween hl  rfl) rfl rfl (Nat.le_of_ble_eq_true rfl) (Nat.le_of_ble_eq_true rfl) (Nat.le_of_ble_eq_true rfl) (Nat.le_of_ble_eq_true rfl) ?_
          refine z_st (st' := [zv (fR_isBetween (x_37 - (σ kR_meetX 0)) (x_39 - (σ kR_meetY 0)) (x_41 - (σ kR_meetX 0)) (x_43 - (σ kR_meetY 0)) (x_45 - (σ kR_meetX 0)) (x_47 - (σ kR_meetY 0)))]) rfl ?_
          obtain ⟨x_49, x_49_e, H⟩ := lt_e H
          refine z_st (congrArg (fun z => zv z :: []) x_49_e) ?_
          refine z_zstore (M := M_X12_isCrossing) (lv' := [some (vr 277), some (vi i_0), some (vi j_0), some (zv x_10), some (zv x_20), some (vi x_28), some (vi x_36), some (vl (x_37 - (σ kR_meetX 0))), none, some (vl (x_39 - (σ kR_meetY 0))), none, some (vl (x_41 - (σ kR_meetX 0))), none, some (vl (x_43 - (σ kR_meetY 0))), none, some (zv x_49), none]) dX12_isCrossing_189 (Nat.le_of_ble_eq_true rfl) rfl rfl ?_
          refine z_lload (M := M_X12_isCrossing) dX12_isCrossing_191 rfl ?_
          refine z_lload (M := M_X12_isCrossing) dX12_isCrossing_193 rfl ?_
          refine z_lload (M := M_X12_isCrossing) dX12_isCrossing_195 rfl ?_
          refine z_lload (M := M_X12_isCrossing) dX12_isCrossing_197 rfl ?_
          refine z_aload_n (M := M_X12_isCrossing) dX12_isCrossing_199 rfl ?_
          refine z_getR (M := M_X12_isCrossing) (ci := 15) (C := RX12) (T := TX12) (Nf := 135) (ty := tyX12) cl15 dX12_isCrossing_200 ly_277 41 (by decide) t_2432 rfl ?_
          refine z_iload_n (M := M_X12_isCrossing) dX12_isCrossing_203 rfl ?_
          obtain ⟨x_50, x_50_e, hi_51, H⟩ := rd_e H
          refine z_lald (M := M_X12_isCrossing) dX12_isCrossing_204 ly_299 rfl rfl rfl hi_51 x_50_e ?_
          refine z_aload_n (M := M_X12_isCrossing) dX12_isCrossing_205 rfl ?_
          refine z_getL (M := M_X12_isCrossing) (ci := 15) (C := RX12) (T := TX12) (Nf := 135) (ty := tyX12) cl15 dX12_isCrossing_206 ly_277 50 (by decide) t_2441 rfl rfl ?_
          refine z_lsub (M := M_X12_isCrossing) dX12_isCrossing_209 ?_
          refine z_aload_n (M := M_X12_isCrossing) dX12_isCrossing_210 rfl ?_
          refine z_getR (M := M_X12_isCrossing) (ci := 15) (C := RX12) (T := TX12) (Nf := 135) (ty := tyX12) cl15 dX12_isCrossing_211 ly_277 42 (by decide) t_2433 rfl ?_
          refine z_iload_n (M := M_X12_isCrossing) dX12_isCrossing_214 rfl ?_
          obtain ⟨x_52, x_52_e, hi_53, H⟩ := rd_e H
          refine z_lald (M := M_X12_isCrossing) dX12_isCrossing_215 ly_300 rfl rfl rfl hi_53 x_52_e ?_
          refine z_aload_n (M := M_X12_isCrossing) dX12_isCrossing_216 rfl ?_
          refine z_getL (M := M_X12_isCrossing) (ci := 15) (C := RX12) (T := TX12) (Nf := 135) (ty := tyX12) cl15 dX12_isCrossing_217 ly_277 51 (by decide) t_2442 rfl rfl ?_
          refine z_lsub (M := M_X12_isCrossing) dX12_isCrossing_220 ?_
          refine z_callS (M := M_X12_isCrossing) (M' := M_X12_isBetween) (as := [vl (x_37 - (σ kR_meetX 0)), vl (x_39 - (σ kR_meetY 0)), vl (x_41 - (σ kR_meetX 0)), vl (x_43 - (σ kR_meetY 0)), vl (x_50 - (σ kR_meetX 0)), vl (x_52 - (σ kR_meetY 0))]) (rest := []) rfl rfl dX12_isCrossing_221 m_X12_isBetween t_3294 t_3295 (c_X12_isBetween hl  rfl) rfl rfl (Nat.le_of_ble_eq_true rfl) (Nat.le_of_ble_eq_true rfl) (Nat.le_of_ble_eq_true rfl) (Nat.le_of_ble_eq_true rfl) ?_
          refine z_st (st' := [zv (fR_isBetween (x_37 - (σ kR_meetX 0)) (x_39 - (σ kR_meetY 0)) (x_41 - (σ kR_meetX 0)) (x_43 - (σ kR_meetY 0)) (x_50 - (σ kR_meetX 0)) (x_52 - (σ kR_meetY 0)))]) rfl ?_
          obtain ⟨x_54, x_54_e, H⟩ := lt_e H
          refine z_st (congrArg (fun z => zv z :: []) x_54_e) ?_
          refine z_zstore (M := M_X12_isCrossing) (lv' := [some (vr 277), some (vi i_0), some (vi j_0), some (zv x_10), some (zv x_20), some (vi x_28), some (vi x_36), some (vl (x_37 - (σ kR_meetX 0))), none, some (vl (x_39 - (σ kR_meetY 0))), none, some (vl (x_41 - (σ kR_meetX 0))), none, some (vl (x_43 - (σ kR_meetY 0))), none, some (zv x_49), some (zv x_54)]) dX12_isCrossing_224 (Nat.le_of_ble_eq_true rfl) rfl rfl ?_
          have J_55 : YY l E M_X12_isCrossing 3 0 0 (pS (some (zv r)) σ) 238 [some (vr 277), some (vi i_0), some (vi j_0), some (zv x_10), some (zv x_20), some (vi x_28), some (vi x_36), some (vl (x_37 - (σ kR_meetX 0))), none, some (vl (x_39 - (σ kR_meetY 0))), none, some (vl (x_41 - (σ kR_meetX 0))), none, some (vl (x_43 - (σ kR_meetY 0))), none, some (zv x_49), some (zv x_54)] [zv (decide (¬ x_49 = x_54))] σ 0 0 := by
            cases H
            exact z_zret (M := M_X12_isCrossing) dX12_isCrossing_238 rfl (Nat.le_of_ble_eq_true rfl) (Nat.le_of_ble_eq_true rfl) ⟨rfl, rfl⟩
          refine z_zload (M := M_X12_isCrossing) dX12_isCrossing_226 rfl ?_
          refine z_zload (M := M_X12_isCrossing) dX12_isCrossing_228 rfl ?_
          by_cases h_56 : ¬ x_49 = x_54
          · refine z_ceq_f (M := M_X12_isCrossing) (tgt := 237) dX12_isCrossing_230 (by decide)  h_56 ?_
            refine z_iconst (M := M_X12_isCrossing) dX12_isCrossing_233 ?_
            refine z_goto (M := M_X12_isCrossing) (tgt := 238) dX12_isCrossing_234 (by decide) ?_
            exact z_st (by rw [zv_t (p := ¬ x_49 = x_54) h_56]) J_55
          · refine z_ceq_t (M := M_X12_isCrossing) (tgt := 237) dX12_isCrossing_230 (by decide)  (Decidable.not_not.mp h_56) ?_
            refine z_iconst (M := M_X12_isCrossing) dX12_isCrossing_237 ?_
            exact z_st (by rw [zv_f (p := ¬ x_49 = x_54) h_56]) J_55
        have H := he_58
        refine z_zload (M := M_X12_isCrossing) dX12_isCrossing_84 rfl ?_
        rcases if_e H with ⟨h_31, H⟩ | ⟨h_31, H⟩
        · refine z_zeq_f (M := M_X12_isCrossing) (tgt := 97) dX12_isCrossing_86 (by decide) h_31 ?_
          refine z_aload_n (M := M_X12_isCrossing) dX12_isCrossing_89 rfl ?_
          refine z_iload_n (M := M_X12_isCrossing) dX12_isCrossing_90 rfl ?_
          obtain ⟨x_33, hc_32, H⟩ := bd_e H
          refine z_callV (M := M_X12_isCrossing) (M' := M_X12_following) (as := [vi j_0]) (rest := []) rfl rfl dX12_isCrossing_91 m_X12_following t_3290 t_3292 s_238 (c_X12_following hl  hc_32) rfl rfl ly_277 rfl (Nat.le_of_ble_eq_true rfl) (Nat.le_of_ble_eq_true rfl) (Nat.le_of_ble_eq_true rfl) (Nat.le_of_ble_eq_true rfl) ?_
          refine z_st (st' := [vi x_33]) rfl ?_
          refine z_goto (M := M_X12_isCrossing) (tgt := 98) dX12_isCrossing_94 (by decide) ?_
          exact J_60 _ (Option.some.inj H).symm
        · refine z_zeq_t (M := M_X12_isCrossing) (tgt := 97) dX12_isCrossing_86 (by decide) h_31 ?_
          refine z_iload_n (M := M_X12_isCrossing) dX12_isCrossing_97 rfl ?_
          exact J_60 _ (Option.some.inj H).symm
      have H := he_62
      refine z_zload_n (M := M_X12_isCrossing) dX12_isCrossing_69 rfl ?_
      rcases if_e H with ⟨h_23, H⟩ | ⟨h_23, H⟩
      · refine z_zeq_f (M := M_X12_isCrossing) (tgt := 81) dX12_isCrossing_70 (by decide) h_23 ?_
        refine z_aload_n (M := M_X12_isCrossing) dX12_isCrossing_73 rfl ?_
        refine z_iload_n (M := M_X12_isCrossing) dX12_isCrossing_74 rfl ?_
        obtain ⟨x_25, hc_24, H⟩ := bd_e H
        refine z_callV (M := M_X12_isCrossing) (M' := M_X12_following) (as := [vi i_0]) (rest := []) rfl rfl dX12_isCrossing_75 m_X12_following t_3290 t_3292 s_238 (c_X12_following hl  hc_24) rfl rfl ly_277 rfl (Nat.le_of_ble_eq_true rfl) (Nat.le_of_ble_eq_true rfl) (Nat.le_of_ble_eq_true rfl) (Nat.le_of_ble_eq_true rfl) ?_
        refine z_st (st' := [vi x_25]) rfl ?_
        refine z_goto (M := M_X12_isCrossing) (tgt := 82) dX12_isCrossing_78 (by decide) ?_
        exact J_64 _ (Option.some.inj H).symm
      · refine z_zeq_t (M := M_X12_isCrossing) (tgt := 81) dX12_isCrossing_70 (by decide) h_23 ?_
        refine z_iload_n (M := M_X12_isCrossing) dX12_isCrossing_81 rfl ?_
        exact J_64 _ (Option.some.inj H).symm
    have H := he_66
    refine z_aload_n (M := M_X12_isCrossing) dX12_isCrossing_34 rfl ?_
    refine z_getR (M := M_X12_isCrossing) (ci := 15) (C := RX12) (T := TX12) (Nf := 135) (ty := tyX12) cl15 dX12_isCrossing_35 ly_277 43 (by decide) t_2434 rfl ?_
    refine z_iload_n (M := M_X12_isCrossing) dX12_isCrossing_38 rfl ?_
    obtain ⟨x_11, x_11_e, hi_12, H⟩ := rd_e H
    refine z_lald (M := M_X12_isCrossing) dX12_isCrossing_39 ly_301 rfl rfl rfl hi_12 x_11_e ?_
    refine z_aload_n (M := M_X12_isCrossing) dX12_isCrossing_40 rfl ?_
    refine z_getL (M := M_X12_isCrossing) (ci := 15) (C := RX12) (T := TX12) (Nf := 135) (ty := tyX12) cl15 dX12_isCrossing_41 ly_277 50 (by decide) t_2441 rfl rfl ?_
    refine z_lcmp (M := M_X12_isCrossing) dX12_isCrossing_44 ?_
    rcases if_e H with ⟨h_13, H⟩ | ⟨h_13, H⟩
    · refine z_lif_ne_f (M := M_X12_isCrossing) (tgt := 66) dX12_isCrossing_45 (by decide) rfl rfl h_13 ?_
      refine z_aload_n (M := M_X12_isCrossing) dX12_isCrossing_48 rfl ?_
      refine z_getR (M := M_X12_isCrossing) (ci := 15) (C := RX12) (T := TX12) (Nf := 135) (ty := tyX12) cl15 dX12_isCrossing_49 ly_277 44 (by decide) t_2435 rfl ?_
      refine z_iload_n (M := M_X12_isCrossing) dX12_isCrossing_52 rfl ?_
      obtain ⟨x_14, x_14_e, hi_15, H⟩ := rd_e H
      refine z_lald (M := M_X12_isCrossing) dX12_isCrossing_53 ly_302 rfl rfl rfl hi_15 x_14_e ?_
      refine z_aload_n (M := M_X12_isCrossing) dX12_isCrossing_54 rfl ?_
      refine z_getL (M := M_X12_isCrossing) (ci := 15) (C := RX12) (T := TX12) (Nf := 135) (ty := tyX12) cl15 dX12_isCrossing_55 ly_277 51 (by decide) t_2442 rfl rfl ?_
      refine z_lcmp (M := M_X12_isCrossing) dX12_isCrossing_58 ?_
      rcases if_e H with ⟨h_16, H⟩ | ⟨h_16, H⟩
      · refine z_lif_ne_f (M := M_X12_isCrossing) (tgt := 66) dX12_isCrossing_59 (by decide) rfl rfl h_16 ?_
        refine z_zconst (M := M_X12_isCrossing) (b := true) dX12_isCrossing_62 rfl ?_
        refine z_goto (M := M_X12_isCrossing) (tgt := 67) dX12_isCrossing_63 (by decide) ?_
        exact J_68 _ (Option.some.inj H).symm
      · refine z_lif_ne_t (M := M_X12_isCrossing) (tgt := 66) dX12_isCrossing_59 (by decide) rfl rfl h_16 ?_
        refine z_zconst (M := M_X12_isCrossing) (b := false) dX12_isCrossing_66 rfl ?_
        exact J_68 _ (Option.some.inj H).symm
    · refine z_lif_ne_t (M := M_X12_isCrossing) (tgt := 66) dX12_isCrossing_45 (by decide) rfl rfl h_13 ?_
      refine z_zconst (M := M_X12_isCrossing) (b := false) dX12_isCrossing_66 rfl ?_
      exact J_68 _ (Option.some.inj H).symm
  have H := he_70
  refine z_aload_n (M := M_X12_isCrossing) dX12_isCrossing_0 rfl ?_
  refine z_getR (M := M_X12_isCrossing) (ci := 15) (C := RX12) (T := TX12) (Nf := 135) (ty := tyX12) cl15 dX12_isCrossing_1 ly_277 43 (by decide) t_2434 rfl ?_
  refine z_iload_n (M := M_X12_isCrossing) dX12_isCrossing_4 rfl ?_
  obtain ⟨x_1, x_1_e, hi_2, H⟩ := rd_e H
  refine z_lald (M := M_X12_isCrossing) dX12_isCrossing_5 ly_301 rfl rfl rfl hi_2 x_1_e ?_
  refine z_aload_n (M := M_X12_isCrossing) dX12_isCrossing_6 rfl ?_
  refine z_getL (M := M_X12_isCrossing) (ci := 15) (C := RX12) (T := TX12) (Nf := 135) (ty := tyX12) cl15 dX12_isCrossing_7 ly_277 50 (by decide) t_2441 rfl rfl ?_
  refine z_lcmp (M := M_X12_isCrossing) dX12_isCrossing_10 ?_
  rcases if_e H with ⟨h_3, H⟩ | ⟨h_3, H⟩
  · refine z_lif_ne_f (M := M_X12_isCrossing) (tgt := 32) dX12_isCrossing_11 (by decide) rfl rfl h_3 ?_
    refine z_aload_n (M := M_X12_isCrossing) dX12_isCrossing_14 rfl ?_
    refine z_getR (M := M_X12_isCrossing) (ci := 15) (C := RX12) (T := TX12) (Nf := 135) (ty := tyX12) cl15 dX12_isCrossing_15 ly_277 44 (by decide) t_2435 rfl ?_
    refine z_iload_n (M := M_X12_isCrossing) dX12_isCrossing_18 rfl ?_
    obtain ⟨x_4, x_4_e, hi_5, H⟩ := rd_e H
    refine z_lald (M := M_X12_isCrossing) dX12_isCrossing_19 ly_302 rfl rfl rfl hi_5 x_4_e ?_
    refine z_aload_n (M := M_X12_isCrossing) dX12_isCrossing_20 rfl ?_
    refine z_getL (M := M_X12_isCrossing) (ci := 15) (C := RX12) (T := TX12) (Nf := 135) (ty := tyX12) cl15 dX12_isCrossing_21 ly_277 51 (by decide) t_2442 rfl rfl ?_
    refine z_lcmp (M := M_X12_isCrossing) dX12_isCrossing_24 ?_
    rcases if_e H with ⟨h_6, H⟩ | ⟨h_6, H⟩
    · refine z_lif_ne_f (M := M_X12_isCrossing) (tgt := 32) dX12_isCrossing_25 (by decide) rfl rfl h_6 ?_
      refine z_zconst (M := M_X12_isCrossing) (b := true) dX12_isCrossing_28 rfl ?_
      refine z_goto (M := M_X12_isCrossing) (tgt := 33) dX12_isCrossing_29 (by decide) ?_
      exact J_72 _ (Option.some.inj H).symm
    · refine z_lif_ne_t (M := M_X12_isCrossing) (tgt := 32) dX12_isCrossing_25 (by decide) rfl rfl h_6 ?_
      refine z_zconst (M := M_X12_isCrossing) (b := false) dX12_isCrossing_32 rfl ?_
      exact J_72 _ (Option.some.inj H).symm
  · refine z_lif_ne_t (M := M_X12_isCrossing) (tgt := 32) dX12_isCrossing_11 (by decide) rfl rfl h_3 ?_
    refine z_zconst (M := M_X12_isCrossing) (b := false) dX12_isCrossing_32 rfl ?_
    exact J_72 _ (Option.some.inj H).symm
theorem c_X12_begins (hl : l.stackTraces = false) {σ : SG} {i_0 : Int} {r : Bool}  (H : fR_begins σ i_0 = some r) : en_S l E M_X12_begins 1 0 0 [vr 277, vi i_0] σ (pS (some (zv r)) σ) := by
  unfold fR_begins at H
  refine z_mk (lv := [some (vr 277), some (vi i_0)]) m_X12_begins rfl hl (Nat.le_of_ble_eq_true rfl) rfl ?_
  obtain ⟨v_11, he_12, hk_13⟩ := bd_e H
  have J_14 : ∀ x_10, v_11 = x_10 → YY l E M_X12_begins 1 0 0 (pS (some (zv r)) σ) 33 [some (vr 277), some (vi i_0)] [zv x_10] σ 0 0 := by
    intro x_10 e
    have H := hk_13
    rw [e] at H
    cases H
    exact z_zret (M := M_X12_begins) dX12_begins_33 rfl (Nat.le_of_ble_eq_true rfl) (Nat.le_of_ble_eq_true rfl) ⟨rfl, rfl⟩
  have H := he_12
  refine z_aload_n (M := M_X12_begins) dX12_begins_0 rfl ?_
  refine z_getR (M := M_X12_begins) (ci := 15) (C := RX12) (T := TX12) (Nf := 135) (ty := tyX12) cl15 dX12_begins_1 ly_277 41 (by decide) t_2432 rfl ?_
  refine z_iload_n (M := M_X12_begins) dX12_begins_4 rfl ?_
  obtain ⟨x_1, x_1_e, hi_2, H⟩ := rd_e H
  refine z_lald (M := M_X12_begins) dX12_begins_5 ly_299 rfl rfl rfl hi_2 x_1_e ?_
  refine z_aload_n (M := M_X12_begins) dX12_begins_6 rfl ?_
  refine z_getL (M := M_X12_begins) (ci := 15) (C := RX12) (T := TX12) (Nf := 135) (ty := tyX12) cl15 dX12_begins_7 ly_277 50 (by decide) t_2441 rfl rfl ?_
  refine z_lcmp (M := M_X12_begins) dX12_begins_10 ?_
  rcases if_e H with ⟨h_3, H⟩ | ⟨h_3, H⟩
  · refine z_lif_ne_f (M := M_X12_begins) (tgt := 32) dX12_begins_11 (by decide) rfl rfl h_3 ?_
    refine z_aload_n (M := M_X12_begins) dX12_begins_14 rfl ?_
    refine z_getR (M := M_X12_begins) (ci := 15) (C := RX12) (T := TX12) (Nf := 135) (ty := tyX12) cl15 dX12_begins_15 ly_277 42 (by decide) t_2433 rfl ?_
    refine z_iload_n (M := M_X12_begins) dX12_begins_18 rfl ?_
    obtain ⟨x_4, x_4_e, hi_5, H⟩ := rd_e H
    refine z_lald (M := M_X12_begins) dX12_begins_19 ly_300 rfl rfl rfl hi_5 x_4_e ?_
    refine z_aload_n (M := M_X12_begins) dX12_begins_20 rfl ?_
    refine z_getL (M := M_X12_begins) (ci := 15) (C := RX12) (T := TX12) (Nf := 135) (ty := tyX12) cl15 dX12_begins_21 ly_277 51 (by decide) t_2442 rfl rfl ?_
    refine z_lcmp (M := M_X12_begins) dX12_begins_24 ?_
    rcases if_e H with ⟨h_6, H⟩ | ⟨h_6, H⟩
    · refine z_lif_ne_f (M := M_X12_begins) (tgt := 32) dX12_begins_25 (by decide) rfl rfl h_6 ?_
      refine z_zconst (M := M_X12_begins) (b := true) dX12_begins_28 rfl ?_
      refine z_goto (M := M_X12_begins) (tgt := 33) dX12_begins_29 (by decide) ?_
      exact J_14 _ (Option.some.inj H).symm
    · refine z_lif_ne_t (M := M_X12_begins) (tgt := 32) dX12_begins_25 (by decide) rfl rfl h_6 ?_
      refine z_zconst (M := M_X12_begins) (b := false) dX12_begins_32 rfl ?_
      exact J_14 _ (Option.some.inj H).symm
  · refine z_lif_ne_t (M := M_X12_begins) (tgt := 32) dX12_begins_11 (by decide) rfl rfl h_3 ?_
    refine z_zconst (M := M_X12_begins) (b := false) dX12_begins_32 rfl ?_
    exact J_14 _ (Option.some.inj H).symm
theorem c_X12_wrongPair (hl : l.stackTraces = false) {σ : SG} {i_0 : Int} {j_0 : Int} {r : Int} {σ' : SG}  (H : fR_wrongPair σ i_0 j_0 = some (r, σ')) : en_S l E M_X12_wrongPair 4 0 0 [vr 277, vi i_0, vi j_0] σ (pS (some (vi r)) σ') := by
  unfold fR_wrongPair at H
  refine z_mk (lv := [some (vr 277), some (vi i_0), some (vi j_0), none, none, none]) m_X12_wrongPair rfl hl (Nat.le_of_ble_eq_true rfl) rfl ?_
  refine z_aload_n (M := M_X12_wrongPair) dX12_wrongPair_0 rfl ?_
  refine z_iload_n (M := M_X12_wrongPair) dX12_wrongPair_1 rfl ?_
  refine z_iload_n (M := M_X12_wrongPair) dX12_wrongPair_2 rfl ?_
  obtain ⟨⟨x_3, σ_2⟩, hc_1, H⟩ := bd_e H
  refine z_callV (M := M_X12_wrongPair) (M' := M_X12_meet) (as := [vi i_0, vi j_0]) (rest := []) rfl rfl dX12_wrongPair_3 m_X12_meet t_3258 t_3260 s_233 (c_X12_meet hl  hc_1) rfl rfl ly_277 rfl (Nat.le_of_ble_eq_true rfl) (Nat.le_of_ble_eq_true rfl) (Nat.le_of_ble_eq_true rfl) (Nat.le_of_ble_eq_true rfl) ?_
  refine z_st (st' := [vi x_3]) rfl ?_
  refine z_istore_n (M := M_X12_wrongPair) (lv' := [some (vr 277), some (vi i_0), some (vi j_0), some (vi x_3), none, none]) dX12_wrongPair_6 (Nat.le_of_ble_eq_true rfl) rfl rfl ?_
  refine z_iload_n (M := M_X12_wrongPair) dX12_wrongPair_7 rfl ?_
  rcases if_e H with ⟨h_4, H⟩ | ⟨h_4, H⟩
  · refine z_if_ne_f (M := M_X12_wrongPair) (tgt := 13) dX12_wrongPair_8 (by decide) rfl h_4 ?_
    refine z_iconst (M := M_X12_wrongPair) dX12_wrongPair_11 ?_
    cases H
    exact z_iret (M := M_X12_wrongPair) dX12_wrongPair_12 rfl (Nat.le_of_ble_eq_true rfl) (Nat.le_of_ble_eq_true rfl) ⟨rfl, rfl⟩
  · refine z_if_ne_t (M := M_X12_wrongPair) (tgt := 13) dX12_wrongPair_8 (by decide) rfl h_4 ?_
    refine z_iload_n (M := M_X12_wrongPair) dX12_wrongPair_13 rfl ?_
    refine z_iconst (M := M_X12_wrongPair) dX12_wrongPair_14 ?_
    rcases if_e H with ⟨h_5, H⟩ | ⟨h_5, H⟩
    · refine z_icmp_ne_f (M := M_X12_wrongPair) (tgt := 20) dX12_wrongPair_15 (by decide) rfl (by decide +kernel) h_5 ?_
      refine z_iconst (M := M_X12_wrongPair) dX12_wrongPair_18 ?_
      cases H
      exact z_iret (M := M_X12_wrongPair) dX12_wrongPair_19 rfl (Nat.le_of_ble_eq_true rfl) (Nat.le_of_ble_eq_true rfl) ⟨rfl, rfl⟩
    · refine z_icmp_ne_t (M := M_X12_wrongPair) (tgt := 20) dX12_wrongPair_15 (by decide) rfl (by decide +kernel) h_5 ?_
      refine z_aload_n (M := M_X12_wrongPair) dX12_wrongPair_20 rfl ?_
      refine z_getZ (M := M_X12_wrongPair) (ci := 15) (C := RX12) (T := TX12) (Nf := 135) (ty := tyX12) cl15 dX12_wrongPair_21 ly_277 49 (by decide) t_2440 rfl rfl ?_
      rcases if_e H with ⟨h_6, H⟩ | ⟨h_6, H⟩
      · refine z_zeq_f (M := M_X12_wrongPair) (tgt := 29) dX12_wrongPair_24 (by decide) h_6 ?_
        refine z_iconst (M := M_X12_wrongPair) dX12_wrongPair_27 ?_
        cases H
        exact z_iret (M := M_X12_wrongPair) dX12_wrongPair_28 rfl (Nat.le_of_ble_eq_true rfl) (Nat.le_of_ble_eq_true rfl) ⟨rfl, rfl⟩
      · refine z_zeq_t (M := M_X12_wrongPair) (tgt := 29) dX12_wrongPair_24 (by decide) h_6 ?_
        refine z_aload_n (M := M_X12_wrongPair) dX12_wrongPair_29 rfl ?_
        refine z_getR (M := M_X12_wrongPair) (ci := 15) (C := RX12) (T := TX12) (Nf := 135) (ty := tyX12) cl15 dX12_wrongPair_30 ly_277 45 (by decide) t_2436 rfl ?_
        refine z_iload_n (M := M_X12_wrongPair) dX12_wrongPair_33 rfl ?_
        obtain ⟨x_7, x_7_e, hi_8, H⟩ := rd_e H
        refine z_iald (M := M_X12_wrongPair) dX12_wrongPair_34 ly_303 rfl rfl rfl hi_8 x_7_e ?_
        refine z_aload_n (M := M_X12_wrongPair) dX12_wrongPair_35 rfl ?_
        refine z_getR (M := M_X12_wrongPair) (ci := 15) (C := RX12) (T := TX12) (Nf := 135) (ty := tyX12) cl15 dX12_wrongPair_36 ly_277 45 (by decide) t_2436 rfl ?_
        refine z_iload_n (M := M_X12_wrongPair) dX12_wrongPair_39 rfl ?_
        obtain ⟨x_9, x_9_e, hi_10, H⟩ := rd_e H
        refine z_iald (M := M_X12_wrongPair) dX12_wrongPair_40 ly_303 rfl rfl rfl hi_10 x_9_e ?_
        rcases if_e H with ⟨h_11, H⟩ | ⟨h_11, H⟩
        · refine z_icmp_eq_f (M := M_X12_wrongPair) (tgt := 75) dX12_wrongPair_41 (by decide) rfl rfl h_11 ?_
          obtain ⟨v_40, he_41, hk_42⟩ := bd_e H
          have J_43 : ∀ x_39, v_40 = x_39 → YY l E M_X12_wrongPair 4 0 0 (pS (some (vi r)) σ') 74 [some (vr 277), some (vi i_0), some (vi j_0), some (vi x_3), none, none] [vi x_39] σ_2 0 0 := by
            intro x_39 e
            have H := hk_42
            rw [e] at H
            cases H
            exact z_iret (M := M_X12_wrongPair) dX12_wrongPair_74 rfl (Nat.le_of_ble_eq_true rfl) (Nat.le_of_ble_eq_true rfl) ⟨rfl, rfl⟩
          have H := he_41
          refine z_aload_n (M := M_X12_wrongPair) dX12_wrongPair_44 rfl ?_
          refine z_iload_n (M := M_X12_wrongPair) dX12_wrongPair_45 rfl ?_
          obtain ⟨x_27, hc_26, H⟩ := bd_e H
          refine z_callV (M := M_X12_wrongPair) (M' := M_X12_begins) (as := [vi i_0]) (rest := []) rfl rfl dX12_wrongPair_46 m_X12_begins t_3282 t_3284 s_236 (c_X12_begins hl  hc_26) rfl rfl ly_277 rfl (Nat.le_of_ble_eq_true rfl) (Nat.le_of_ble_eq_true rfl) (Nat.le_of_ble_eq_true rfl) (Nat.le_of_ble_eq_true rfl) ?_
          refine z_st (st' := [zv x_27]) rfl ?_
          rcases if_e H with ⟨h_28, H⟩ | ⟨h_28, H⟩
          · refine z_zne_t (M := M_X12_wrongPair) (tgt := 73) dX12_wrongPair_49 (by decide) h_28 ?_
            refine z_iconst (M := M_X12_wrongPair) dX12_wrongPair_73 ?_
            exact J_43 _ (Option.some.inj H).symm
          · refine z_zne_f (M := M_X12_wrongPair) (tgt := 73) dX12_wrongPair_49 (by decide) h_28 ?_
            refine z_aload_n (M := M_X12_wrongPair) dX12_wrongPair_52 rfl ?_
            refine z_iload_n (M := M_X12_wrongPair) dX12_wrongPair_53 rfl ?_
            obtain ⟨x_31, hc_30, H⟩ := bd_e H
            refine z_callV (M := M_X12_wrongPair) (M' := M_X12_begins) (as := [vi j_0]) (rest := []) rfl rfl dX12_wrongPair_54 m_X12_begins t_3282 t_3284 s_236 (c_X12_begins hl  hc_30) rfl rfl ly_277 rfl (Nat.le_of_ble_eq_true rfl) (Nat.le_of_ble_eq_true rfl) (Nat.le_of_ble_eq_true rfl) (Nat.le_of_ble_eq_true rfl) ?_
            refine z_st (st' := [zv x_31]) rfl ?_
            rcases if_e H with ⟨h_32, H⟩ | ⟨h_32, H⟩
            · refine z_zne_t (M := M_X12_wrongPair) (tgt := 73) dX12_wrongPair_57 (by decide) h_32 ?_
              refine z_iconst (M := M_X12_wrongPair) dX12_wrongPair_73 ?_
              exact J_43 _ (Option.some.inj H).symm
            · refine z_zne_f (M := M_X12_wrongPair) (tgt := 73) dX12_wrongPair_57 (by decide) h_32 ?_
              refine z_aload_n (M := M_X12_wrongPair) dX12_wrongPair_60 rfl ?_
              refine z_iload_n (M := M_X12_wrongPair) dX12_wrongPair_61 rfl ?_
              refine z_iload_n (M := M_X12_wrongPair) dX12_wrongPair_62 rfl ?_
              obtain ⟨x_35, hc_34, H⟩ := bd_e H
              refine z_callV (M := M_X12_wrongPair) (M' := M_X12_isCrossing) (as := [vi i_0, vi j_0]) (rest := []) rfl rfl dX12_wrongPair_63 m_X12_isCrossing t_3286 t_3288 s_237 (c_X12_isCrossing hl  hc_34) rfl rfl ly_277 rfl (Nat.le_of_ble_eq_true rfl) (Nat.le_of_ble_eq_true rfl) (Nat.le_of_ble_eq_true rfl) (Nat.le_of_ble_eq_true rfl) ?_
              refine z_st (st' := [zv x_35]) rfl ?_
              rcases if_e H with ⟨h_36, H⟩ | ⟨h_36, H⟩
              · refine z_zeq_f (M := M_X12_wrongPair) (tgt := 73) dX12_wrongPair_66 (by decide) h_36 ?_
                refine z_iconst (M := M_X12_wrongPair) dX12_wrongPair_69 ?_
                refine z_goto (M := M_X12_wrongPair) (tgt := 74) dX12_wrongPair_70 (by decide) ?_
                exact J_43 _ (Option.some.inj H).symm
              · refine z_zeq_t (M := M_X12_wrongPair) (tgt := 73) dX12_wrongPair_66 (by decide) h_36 ?_
                refine z_iconst (M := M_X12_wrongPair) dX12_wrongPair_73 ?_
                exact J_43 _ (Option.some.inj H).symm
        · refine z_icmp_eq_t (M := M_X12_wrongPair) (tgt := 75) dX12_wrongPair_41 (by decide) rfl rfl (Decidable.not_not.mp h_11) ?_
          obtain ⟨v_71, he_72, hk_73⟩ := bd_e H
          have J_74 : ∀ x_53, v_71 = x_53 → YY l E M_X12_wrongPair 4 0 0 (pS (some (vi r)) σ') 97 [some (vr 277), some (vi i_0), some (vi j_0), some (vi x_3), none, none] [zv x_53] σ_2 0 0 := by
            intro x_53 e
            have H := hk_73
            rw [e] at H
            refine z_zstore (M := M_X12_wrongPair) (lv' := [some (vr 277), some (vi i_0), some (vi j_0), some (vi x_3), some (zv x_53), none]) dX12_wrongPair_97 (Nat.le_of_ble_eq_true rfl) rfl rfl ?_
            obtain ⟨v_67, he_68, hk_69⟩ := bd_e H
            have J_70 : ∀ x_63, v_67 = x_63 → YY l E M_X12_wrongPair 4 0 0 (pS (some (vi r)) σ') 121 [some (vr 277), some (vi i_0), some (vi j_0), some (vi x_3), some (zv x_53), none] [zv x_63] σ_2 0 0 := by
              intro x_63 e
              have H := hk_69
              rw [e] at H
              refine z_zstore (M := M_X12_wrongPair) (lv' := [some (vr 277), some (vi i_0), some (vi j_0), some (vi x_3), some (zv x_53), some (zv x_63)]) dX12_wrongPair_121 (Nat.le_of_ble_eq_true rfl) rfl rfl ?_
              have J_64 : YY l E M_X12_wrongPair 4 0 0 (pS (some (vi r)) σ') 138 [some (vr 277), some (vi i_0), some (vi j_0), some (vi x_3), some (zv x_53), some (zv x_63)] [vi (if (x_53 = true) ∨ (x_63 = true) then 0 else 5)] σ_2 0 0 := by
                cases H
                exact z_iret (M := M_X12_wrongPair) dX12_wrongPair_138 rfl (Nat.le_of_ble_eq_true rfl) (Nat.le_of_ble_eq_true rfl) ⟨rfl, rfl⟩
              refine z_zload (M := M_X12_wrongPair) dX12_wrongPair_123 rfl ?_
              by_cases h_65 : x_53 = true
              · refine z_zne_t (M := M_X12_wrongPair) (tgt := 133) dX12_wrongPair_125 (by decide) h_65 ?_
                refine z_iconst (M := M_X12_wrongPair) dX12_wrongPair_133 ?_
                refine z_goto (M := M_X12_wrongPair) (tgt := 138) dX12_wrongPair_134 (by decide) ?_
                exact z_st (by rw [if_pos (c := (x_53 = true) ∨ (x_63 = true)) (Or.inl h_65)]) J_64
              · refine z_zne_f (M := M_X12_wrongPair) (tgt := 133) dX12_wrongPair_125 (by decide) h_65 ?_
                refine z_zload (M := M_X12_wrongPair) dX12_wrongPair_128 rfl ?_
                by_cases h_66 : x_63 = true
                · refine z_zeq_f (M := M_X12_wrongPair) (tgt := 137) dX12_wrongPair_130 (by decide) h_66 ?_
                  refine z_iconst (M := M_X12_wrongPair) dX12_wrongPair_133 ?_
                  refine z_goto (M := M_X12_wrongPair) (tgt := 138) dX12_wrongPair_134 (by decide) ?_
                  exact z_st (by rw [if_pos (c := (x_53 = true) ∨ (x_63 = true)) (Or.inr h_66)]) J_64
                · refine z_zeq_t (M := M_X12_wrongPair) (tgt := 137) dX12_wrongPair_130 (by decide) h_66 ?_
                  refine z_iconst (M := M_X12_wrongPair) dX12_wrongPair_137 ?_
                  exact z_st (by rw [if_neg (c := (x_53 = true) ∨ (x_63 = true)) (fun q => q.elim h_65 h_66)]) J_64
            have H := he_68
            refine z_aload_n (M := M_X12_wrongPair) dX12_wrongPair_99 rfl ?_
            refine z_iload_n (M := M_X12_wrongPair) dX12_wrongPair_100 rfl ?_
            obtain ⟨x_55, hc_54, H⟩ := bd_e H
            refine z_callV (M := M_X12_wrongPair) (M' := M_X12_following) (as := [vi j_0]) (rest := []) rfl rfl dX12_wrongPair_101 m_X12_following t_3290 t_3292 s_238 (c_X12_following hl  hc_54) rfl rfl ly_277 rfl (Nat.le_of_ble_eq_true rfl) (Nat.le_of_ble_eq_true rfl) (Nat.le_of_ble_eq_true rfl) (Nat.le_of_ble_eq_true rfl) ?_
            refine z_st (st' := [vi x_55]) rfl ?_
            refine z_iload_n (M := M_X12_wrongPair) dX12_wrongPair_104 rfl ?_
            rcases if_e H with ⟨h_56, H⟩ | ⟨h_56, H⟩
            · refine z_icmp_ne_f (M := M_X12_wrongPair) (tgt := 120) dX12_wrongPair_105 (by decide) rfl rfl h_56 ?_
              refine z_aload_n (M := M_X12_wrongPair) dX12_wrongPair_108 rfl ?_
              refine z_iload_n (M := M_X12_wrongPair) dX12_wrongPair_109 rfl ?_
              obtain ⟨x_58, hc_57, H⟩ := bd_e H
              refine z_callV (M := M_X12_wrongPair) (M' := M_X12_begins) (as := [vi i_0]) (rest := []) rfl rfl dX12_wrongPair_110 m_X12_begins t_3282 t_3284 s_236 (c_X12_begins hl  hc_57) rfl rfl ly_277 rfl (Nat.le_of_ble_eq_true rfl) (Nat.le_of_ble_eq_true rfl) (Nat.le_of_ble_eq_true rfl) (Nat.le_of_ble_eq_true rfl) ?_
              refine z_st (st' := [zv x_58]) rfl ?_
              rcases if_e H with ⟨h_59, H⟩ | ⟨h_59, H⟩
              · refine z_zeq_f (M := M_X12_wrongPair) (tgt := 120) dX12_wrongPair_113 (by decide) h_59 ?_
                refine z_zconst (M := M_X12_wrongPair) (b := true) dX12_wrongPair_116 rfl ?_
                refine z_goto (M := M_X12_wrongPair) (tgt := 121) dX12_wrongPair_117 (by decide) ?_
                exact J_70 _ (Option.some.inj H).symm
              · refine z_zeq_t (M := M_X12_wrongPair) (tgt := 120) dX12_wrongPair_113 (by decide) h_59 ?_
                refine z_zconst (M := M_X12_wrongPair) (b := false) dX12_wrongPair_120 rfl ?_
                exact J_70 _ (Option.some.inj H).symm
            · refine z_icmp_ne_t (M := M_X12_wrongPair) (tgt := 120) dX12_wrongPair_105 (by decide) rfl rfl h_56 ?_
              refine z_zconst (M := M_X12_wrongPair) (b := false) dX12_wrongPair_120 rfl ?_
              exact J_70 _ (Option.some.inj H).symm
          have H := he_72
          refine z_aload_n (M := M_X12_wrongPair) dX12_wrongPair_75 rfl ?_
          refine z_iload_n (M := M_X12_wrongPair) dX12_wrongPair_76 rfl ?_
          obtain ⟨x_45, hc_44, H⟩ := bd_e H
          refine z_callV (M := M_X12_wrongPair) (M' := M_X12_following) (as := [vi i_0]) (rest := []) rfl rfl dX12_wrongPair_77 m_X12_following t_3290 t_3292 s_238 (c_X12_following hl  hc_44) rfl rfl ly_277 rfl (Nat.le_of_ble_eq_true rfl) (Nat.le_of_ble_eq_true rfl) (Nat.le_of_ble_eq_true rfl) (Nat.le_of_ble_eq_true rfl) ?_
          refine z_st (st' := [vi x_45]) rfl ?_
          refine z_iload_n (M := M_X12_wrongPair) dX12_wrongPair_80 rfl ?_
          rcases if_e H with ⟨h_46, H⟩ | ⟨h_46, H⟩
          · refine z_icmp_ne_f (M := M_X12_wrongPair) (tgt := 96) dX12_wrongPair_81 (by decide) rfl rfl h_46 ?_
            refine z_aload_n (M := M_X12_wrongPair) dX12_wrongPair_84 rfl ?_
            refine z_iload_n (M := M_X12_wrongPair) dX12_wrongPair_85 rfl ?_
            obtain ⟨x_48, hc_47, H⟩ := bd_e H
            refine z_callV (M := M_X12_wrongPair) (M' := M_X12_begins) (as := [vi j_0]) (rest := []) rfl rfl dX12_wrongPair_86 m_X12_begins t_3282 t_3284 s_236 (c_X12_begins hl  hc_47) rfl rfl ly_277 rfl (Nat.le_of_ble_eq_true rfl) (Nat.le_of_ble_eq_true rfl) (Nat.le_of_ble_eq_true rfl) (Nat.le_of_ble_eq_true rfl) ?_
            refine z_st (st' := [zv x_48]) rfl ?_
            rcases if_e H with ⟨h_49, H⟩ | ⟨h_49, H⟩
            · refine z_zeq_f (M := M_X12_wrongPair) (tgt := 96) dX12_wrongPair_89 (by decide) h_49 ?_
              refine z_zconst (M := M_X12_wrongPair) (b := true) dX12_wrongPair_92 rfl ?_
              refine z_goto (M := M_X12_wrongPair) (tgt := 97) dX12_wrongPair_93 (by decide) ?_
              exact J_74 _ (Option.some.inj H).symm
            · refine z_zeq_t (M := M_X12_wrongPair) (tgt := 96) dX12_wrongPair_89 (by decide) h_49 ?_
              refine z_zconst (M := M_X12_wrongPair) (b := false) dX12_wrongPair_96 rfl ?_
              exact J_74 _ (Option.some.inj H).symm
          · refine z_icmp_ne_t (M := M_X12_wrongPair) (tgt := 96) dX12_wrongPair_81 (by decide) rfl rfl h_46 ?_
            refine z_zconst (M := M_X12_wrongPair) (b := false) dX12_wrongPair_96 rfl ?_
            exact J_74 _ (Option.some.inj H).symm
theorem c_X12_forgetPlace (hl : l.stackTraces = false) {σ : SG} {σ' : SG}  (H : fR_forgetPlace σ = some σ') : en_S l E M_X12_forgetPlace 1 0 0 [vr 277] σ (pS (none) σ') := by
  unfold fR_forgetPlace at H
  refine z_mk (lv := [some (vr 277), none]) m_X12_forgetPlace rfl hl (Nat.le_of_ble_eq_true rfl) rfl ?_
  refine z_iconst (M := M_X12_forgetPlace) dX12_forgetPlace_0 ?_
  refine z_istore_n (M := M_X12_forgetPlace) (lv' := [some (vr 277), some (vi 0)]) dX12_forgetPlace_1 (Nat.le_of_ble_eq_true rfl) rfl rfl ?_
  obtain ⟨rl_6, hw_3, hk_4⟩ := bd_e H
  have J_17 : ∀ k_15 σ_16, rl_6 = (k_15, σ_16) → YY l E M_X12_forgetPlace 1 0 0 (pS (none) σ') 21 [some (vr 277), some (vi k_15)] [] σ_16 0 0 := by
    intro k_15 σ_16 e
    have H := hk_4
    rw [e] at H
    cases H
    exact z_vret (M := M_X12_forgetPlace) dX12_forgetPlace_21 rfl (Nat.le_of_ble_eq_true rfl) (Nat.le_of_ble_eq_true rfl) ⟨rfl, rfl⟩
  refine whl_go hw_3 (fun (k_1, σ_2) => YY l E M_X12_forgetPlace 1 0 0 (pS (none) σ') 2 [some (vr 277), some (vi k_1)] [] σ_2 0 0) ?_
  rintro ⟨k_1, σ_2⟩ o_7 H K_8 K_9
  refine z_iload_n (M := M_X12_forgetPlace) dX12_forgetPlace_2 rfl ?_
  refine z_bipush (M := M_X12_forgetPlace) dX12_forgetPlace_3 (by decide +kernel) ?_
  rcases if_e H with ⟨h_10, H⟩ | ⟨h_10, H⟩
  · refine z_icmp_ge_f (M := M_X12_forgetPlace) (tgt := 21) dX12_forgetPlace_5 (by decide) rfl (by decide +kernel) h_10 ?_
    refine z_aload_n (M := M_X12_forgetPlace) dX12_forgetPlace_8 rfl ?_
    refine z_getR (M := M_X12_forgetPlace) (ci := 15) (C := RX12) (T := TX12) (Nf := 135) (ty := tyX12) cl15 dX12_forgetPlace_9 ly_277 14 (by decide) t_2405 rfl ?_
    refine z_iload_n (M := M_X12_forgetPlace) dX12_forgetPlace_12 rfl ?_
    refine z_iconst (M := M_X12_forgetPlace) dX12_forgetPlace_13 ?_
    obtain ⟨σ_11, σ_11_e, hi_12, H⟩ := wa_e H
    refine z_iast (M := M_X12_forgetPlace) dX12_forgetPlace_14 ly_285 rfl rfl rfl hi_12 σ_11_e ?_
    refine z_iinc (M := M_X12_forgetPlace) (lv' := [some (vr 277), some (vi (k_1 + 1))]) dX12_forgetPlace_15 rfl (Nat.le_of_ble_eq_true rfl) rfl rfl ?_
    refine z_goto (M := M_X12_forgetPlace) (tgt := 2) dX12_forgetPlace_18 (by decide) ?_
    exact K_8 _ (Option.some.inj H).symm
  · refine z_icmp_ge_t (M := M_X12_forgetPlace) (tgt := 21) dX12_forgetPlace_5 (by decide) rfl (by decide +kernel) (Int.not_lt.mp h_10) ?_
    exact J_17 _ _ (K_9 _ (Option.some.inj H).symm).symm
end LFAU
