section LFAZ
variable {l : Launch} {E : EE}
theorem c_X12_laysOver (hl : l.stackTraces = false) {σ : SG} {what_0 : Int} {r : Bool} {σ' : SG}  (H : fR_laysOver σ what_0 = some (r, σ')) : en_S l E M_X12_laysOver 7 0 0 [vr 277, vi what_0] σ (pS (some (zv r)) σ') := by
  unfold fR_laysOver at H
  refine z_mk (lv := [some (vr 277), some (vi what_0)]) m_X12_laysOver rfl hl (Nat.le_of_ble_eq_true rfl) rfl ?_
  refine z_aload_n (M := M_X12_laysOver) dX12_laysOver_0 rfl ?_
  refine z_getI (M := M_X12_laysOver) (ci := 15) (C := RX12) (T := TX12) (Nf := 135) (ty := tyX12) cl15 dX12_laysOver_1 ly_277 48 (by decide) t_2439 rfl rfl ?_
  refine z_sipush (M := M_X12_laysOver) dX12_laysOver_4 (by decide +kernel) ?_
  rcases if_e H with ⟨h_14, H⟩ | ⟨h_14, H⟩
  · refine z_icmp_gt_t (M := M_X12_laysOver) (tgt := 24) dX12_laysOver_7 (by decide) rfl (by decide +kernel) h_14 ?_
    refine z_zconst (M := M_X12_laysOver) (b := false) dX12_laysOver_24 rfl ?_
    cases H
    exact z_zret (M := M_X12_laysOver) dX12_laysOver_25 rfl (Nat.le_of_ble_eq_true rfl) (Nat.le_of_ble_eq_true rfl) ⟨rfl, rfl⟩
  · refine z_icmp_gt_f (M := M_X12_laysOver) (tgt := 24) dX12_laysOver_7 (by decide) rfl (by decide +kernel) (Int.not_lt.mp h_14) ?_
    refine z_aload_n (M := M_X12_laysOver) dX12_laysOver_10 rfl ?_
    obtain ⟨⟨x_17, σ_16⟩, hc_15, H⟩ := bd_e H
    refine z_callV (M := M_X12_laysOver) (M' := M_X12_heats) (as := []) (rest := []) rfl rfl dX12_laysOver_11 m_X12_heats t_3373 t_3375 s_254 (c_X12_heats hl  hc_15) rfl rfl ly_277 rfl (Nat.le_of_ble_eq_true rfl) (Nat.le_of_ble_eq_true rfl) (Nat.le_of_ble_eq_true rfl) (Nat.le_of_ble_eq_true rfl) ?_
    refine z_st (st' := [zv x_17]) rfl ?_
    rcases if_e H with ⟨h_18, H⟩ | ⟨h_18, H⟩
    · refine z_zeq_f (M := M_X12_laysOver) (tgt := 24) dX12_laysOver_14 (by decide) h_18 ?_
      refine z_aload_n (M := M_X12_laysOver) dX12_laysOver_17 rfl ?_
      obtain ⟨⟨x_21, σ_20⟩, hc_19, H⟩ := bd_e H
      refine z_callV (M := M_X12_laysOver) (M' := M_X12_chains) (as := []) (rest := []) rfl rfl dX12_laysOver_18 m_X12_chains t_3396 t_3398 s_259 (c_X12_chains hl  hc_19) rfl rfl ly_277 rfl (Nat.le_of_ble_eq_true rfl) (Nat.le_of_ble_eq_true rfl) (Nat.le_of_ble_eq_true rfl) (Nat.le_of_ble_eq_true rfl) ?_
      refine z_st (st' := [zv x_21]) rfl ?_
      rcases if_e H with ⟨h_22, H⟩ | ⟨h_22, H⟩
      · refine z_zne_t (M := M_X12_laysOver) (tgt := 26) dX12_laysOver_21 (by decide) h_22 ?_
        refine z_aload_n (M := M_X12_laysOver) dX12_laysOver_26 rfl ?_
        refine z_iload_n (M := M_X12_laysOver) dX12_laysOver_27 rfl ?_
        obtain ⟨σ_24, hc_23, H⟩ := bd_e H
        refine z_callV (M := M_X12_laysOver) (M' := M_X12_boundary) (as := [vi what_0]) (rest := []) rfl rfl dX12_laysOver_28 m_X12_boundary t_3420 t_3422 s_265 (c_X12_boundary hl  hc_23) rfl rfl ly_277 rfl (Nat.le_of_ble_eq_true rfl) (Nat.le_of_ble_eq_true rfl) (Nat.le_of_ble_eq_true rfl) (Nat.le_of_ble_eq_true rfl) ?_
        refine z_st (st' := []) rfl ?_
        refine z_aload_n (M := M_X12_laysOver) dX12_laysOver_31 rfl ?_
        obtain ⟨σ_26, hc_25, H⟩ := bd_e H
        refine z_callV (M := M_X12_laysOver) (M' := M_X12_goesRound) (as := []) (rest := []) rfl rfl dX12_laysOver_32 m_X12_goesRound t_3431 t_3433 s_267 (c_X12_goesRound hl  hc_25) rfl rfl ly_277 rfl (Nat.le_of_ble_eq_true rfl) (Nat.le_of_ble_eq_true rfl) (Nat.le_of_ble_eq_true rfl) (Nat.le_of_ble_eq_true rfl) ?_
        refine z_st (st' := []) rfl ?_
        refine z_aload_n (M := M_X12_laysOver) dX12_laysOver_35 rfl ?_
        obtain ⟨σ_28, hc_27, H⟩ := bd_e H
        refine z_callV (M := M_X12_laysOver) (M' := M_X12_giveHoles) (as := []) (rest := []) rfl rfl dX12_laysOver_36 m_X12_giveHoles t_3454 t_3456 s_272 (c_X12_giveHoles hl  hc_27) rfl rfl ly_277 rfl (Nat.le_of_ble_eq_true rfl) (Nat.le_of_ble_eq_true rfl) (Nat.le_of_ble_eq_true rfl) (Nat.le_of_ble_eq_true rfl) ?_
        refine z_st (st' := []) rfl ?_
        refine z_aload_n (M := M_X12_laysOver) dX12_laysOver_39 rfl ?_
        obtain ⟨⟨x_31, σ_30⟩, hc_29, H⟩ := bd_e H
        refine z_callV (M := M_X12_laysOver) (M' := M_X12_tellResult) (as := []) (rest := []) rfl rfl dX12_laysOver_40 m_X12_tellResult t_3466 t_3468 s_275 (c_X12_tellResult hl  hc_29) rfl rfl ly_277 rfl (Nat.le_of_ble_eq_true rfl) (Nat.le_of_ble_eq_true rfl) (Nat.le_of_ble_eq_true rfl) (Nat.le_of_ble_eq_true rfl) ?_
        refine z_st (st' := [zv x_31]) rfl ?_
        cases H
        exact z_zret (M := M_X12_laysOver) dX12_laysOver_43 rfl (Nat.le_of_ble_eq_true rfl) (Nat.le_of_ble_eq_true rfl) ⟨rfl, rfl⟩
      · refine z_zne_f (M := M_X12_laysOver) (tgt := 26) dX12_laysOver_21 (by decide) h_22 ?_
        refine z_zconst (M := M_X12_laysOver) (b := false) dX12_laysOver_24 rfl ?_
        cases H
        exact z_zret (M := M_X12_laysOver) dX12_laysOver_25 rfl (Nat.le_of_ble_eq_true rfl) (Nat.le_of_ble_eq_true rfl) ⟨rfl, rfl⟩
    · refine z_zeq_t (M := M_X12_laysOver) (tgt := 24) dX12_laysOver_14 (by decide) h_18 ?_
      refine z_zconst (M := M_X12_laysOver) (b := false) dX12_laysOver_24 rfl ?_
      cases H
      exact z_zret (M := M_X12_laysOver) dX12_laysOver_25 rfl (Nat.le_of_ble_eq_true rfl) (Nat.le_of_ble_eq_true rfl) ⟨rfl, rfl⟩
theorem c_X12_overlay (hl : l.stackTraces = false) {σ : SG} {what_0 : Int} {slot_0 : Int} {other_0 : Int} {to_0 : Int} {r : Int} {σ' : SG}  (H : fR_overlay σ what_0 slot_0 other_0 to_0 = some (r, σ')) : en_S l E M_X12_overlay 8 0 0 [vr 277, vi what_0, vi slot_0, vi other_0, vi to_0] σ (pS (some (vi r)) σ') := by
  unfold fR_overlay at H
  refine z_mk (lv := [some (vr 277), some (vi what_0), some (vi slot_0), some (vi other_0), some (vi to_0), none]) m_X12_overlay rfl hl (Nat.le_of_ble_eq_true rfl) rfl ?_
  refine z_aload_n (M := M_X12_overlay) dX12_overlay_0 rfl ?_
  refine z_iconst (M := M_X12_overlay) dX12_overlay_1 ?_
  obtain ⟨σ_1, σ_1_e, H⟩ := wf_e H
  refine z_putI (M := M_X12_overlay) (ci := 15) (C := RX12) (T := TX12) (Nf := 135) (ty := tyX12) cl15 dX12_overlay_2 ly_277 0 (by decide) t_2391 rfl rfl rfl rfl σ_1_e ?_
  refine z_aload_n (M := M_X12_overlay) dX12_overlay_5 rfl ?_
  have J_31 : YY l E M_X12_overlay 8 0 0 (pS (some (vi r)) σ') 33 [some (vr 277), some (vi what_0), some (vi slot_0), some (vi other_0), some (vi to_0), none] [zv (decide (((¬ ((fR_isSlot slot_0) = true)) ∨ (¬ ((fR_isSlot other_0) = true))) ∨ (¬ ((fR_isSlot to_0) = true)))), vr 277] σ_1 0 0 := by
    refine z_iconst (M := M_X12_overlay) dX12_overlay_33 ?_
    obtain ⟨⟨x_34, σ_33⟩, hc_32, H⟩ := bd_e H
    refine z_callV (M := M_X12_overlay) (M' := M_X12_fails) (as := [zv (decide (((¬ ((fR_isSlot slot_0) = true)) ∨ (¬ ((fR_isSlot other_0) = true))) ∨ (¬ ((fR_isSlot to_0) = true)))), vi 1]) (rest := []) rfl rfl dX12_overlay_34 m_X12_fails t_2805 t_2807 s_157 (c_X12_fails hl  hc_32) rfl rfl ly_277 rfl (Nat.le_of_ble_eq_true rfl) (Nat.le_of_ble_eq_true rfl) (Nat.le_of_ble_eq_true rfl) (Nat.le_of_ble_eq_true rfl) ?_
    refine z_st (st' := [zv x_34]) rfl ?_
    rcases if_e H with ⟨h_35, H⟩ | ⟨h_35, H⟩
    · refine z_zne_t (M := M_X12_overlay) (tgt := 69) dX12_overlay_37 (by decide) h_35 ?_
      refine z_iconst (M := M_X12_overlay) dX12_overlay_69 ?_
      cases H
      exact z_iret (M := M_X12_overlay) dX12_overlay_70 rfl (Nat.le_of_ble_eq_true rfl) (Nat.le_of_ble_eq_true rfl) ⟨rfl, rfl⟩
    · refine z_zne_f (M := M_X12_overlay) (tgt := 69) dX12_overlay_37 (by decide) h_35 ?_
      refine z_aload_n (M := M_X12_overlay) dX12_overlay_40 rfl ?_
      obtain ⟨v_139, he_140, hk_141⟩ := bd_e H
      have J_142 : ∀ x_45, v_139 = x_45 → YY l E M_X12_overlay 8 0 0 (pS (some (vi r)) σ') 62 [some (vr 277), some (vi what_0), some (vi slot_0), some (vi other_0), some (vi to_0), none] [zv x_45, vr 277] σ_33 0 0 := by
        intro x_45 e
        have H := hk_141
        rw [e] at H
        refine z_iconst (M := M_X12_overlay) dX12_overlay_62 ?_
        obtain ⟨⟨x_48, σ_47⟩, hc_46, H⟩ := bd_e H
        refine z_callV (M := M_X12_overlay) (M' := M_X12_fails) (as := [zv x_45, vi 2]) (rest := []) rfl rfl dX12_overlay_63 m_X12_fails t_2805 t_2807 s_157 (c_X12_fails hl  hc_46) rfl rfl ly_277 rfl (Nat.le_of_ble_eq_true rfl) (Nat.le_of_ble_eq_true rfl) (Nat.le_of_ble_eq_true rfl) (Nat.le_of_ble_eq_true rfl) ?_
        refine z_st (st' := [zv x_48]) rfl ?_
        rcases if_e H with ⟨h_49, H⟩ | ⟨h_49, H⟩
        · refine z_zeq_f (M := M_X12_overlay) (tgt := 71) dX12_overlay_66 (by decide) h_49 ?_
          refine z_iconst (M := M_X12_overlay) dX12_overlay_69 ?_
          cases H
          exact z_iret (M := M_X12_overlay) dX12_overlay_70 rfl (Nat.le_of_ble_eq_true rfl) (Nat.le_of_ble_eq_true rfl) ⟨rfl, rfl⟩
        · refine z_zeq_t (M := M_X12_overlay) (tgt := 71) dX12_overlay_66 (by decide) h_49 ?_
          refine z_aload_n (M := M_X12_overlay) dX12_overlay_71 rfl ?_
          obtain ⟨v_135, he_136, hk_137⟩ := bd_e H
          have J_138 : ∀ x_61, v_135 = x_61 → YY l E M_X12_overlay 8 0 0 (pS (some (vi r)) σ') 105 [some (vr 277), some (vi what_0), some (vi slot_0), some (vi other_0), some (vi to_0), none] [zv x_61, vr 277] σ_47 0 0 := by
            intro x_61 e
            have H := hk_137
            rw [e] at H
            refine z_iconst (M := M_X12_overlay) dX12_overlay_105 ?_
            obtain ⟨⟨x_64, σ_63⟩, hc_62, H⟩ := bd_e H
            refine z_callV (M := M_X12_overlay) (M' := M_X12_fails) (as := [zv x_61, vi 3]) (rest := []) rfl rfl dX12_overlay_106 m_X12_fails t_2805 t_2807 s_157 (c_X12_fails hl  hc_62) rfl rfl ly_277 rfl (Nat.le_of_ble_eq_true rfl) (Nat.le_of_ble_eq_true rfl) (Nat.le_of_ble_eq_true rfl) (Nat.le_of_ble_eq_true rfl) ?_
            refine z_st (st' := [zv x_64]) rfl ?_
            rcases if_e H with ⟨h_65, H⟩ | ⟨h_65, H⟩
            · refine z_zeq_f (M := M_X12_overlay) (tgt := 114) dX12_overlay_109 (by decide) h_65 ?_
              refine z_iconst (M := M_X12_overlay) dX12_overlay_112 ?_
              cases H
              exact z_iret (M := M_X12_overlay) dX12_overlay_113 rfl (Nat.le_of_ble_eq_true rfl) (Nat.le_of_ble_eq_true rfl) ⟨rfl, rfl⟩
            · refine z_zeq_t (M := M_X12_overlay) (tgt := 114) dX12_overlay_109 (by decide) h_65 ?_
              refine z_aload_n (M := M_X12_overlay) dX12_overlay_114 rfl ?_
              refine z_iconst (M := M_X12_overlay) dX12_overlay_115 ?_
              obtain ⟨σ_66, σ_66_e, H⟩ := wf_e H
              refine z_putI (M := M_X12_overlay) (ci := 15) (C := RX12) (T := TX12) (Nf := 135) (ty := tyX12) cl15 dX12_overlay_116 ly_277 48 (by decide) t_2439 rfl rfl rfl rfl σ_66_e ?_
              refine z_aload_n (M := M_X12_overlay) dX12_overlay_119 rfl ?_
              refine z_iload_n (M := M_X12_overlay) dX12_overlay_120 rfl ?_
              refine z_iconst (M := M_X12_overlay) dX12_overlay_121 ?_
              obtain ⟨⟨x_69, σ_68⟩, hc_67, H⟩ := bd_e H
              refine z_callV (M := M_X12_overlay) (M' := M_X12_layRings) (as := [vi slot_0, vi 0]) (rest := []) rfl rfl dX12_overlay_122 m_X12_layRings t_3365 t_3367 s_252 (c_X12_layRings hl  hc_67) rfl rfl ly_277 rfl (Nat.le_of_ble_eq_true rfl) (Nat.le_of_ble_eq_true rfl) (Nat.le_of_ble_eq_true rfl) (Nat.le_of_ble_eq_true rfl) ?_
              refine z_st (st' := [zv x_69]) rfl ?_
              refine z_zstore (M := M_X12_overlay) (lv' := [some (vr 277), some (vi what_0), some (vi slot_0), some (vi other_0), some (vi to_0), some (zv x_69)]) dX12_overlay_125 (Nat.le_of_ble_eq_true rfl) rfl rfl ?_
              obtain ⟨v_131, he_132, hk_133⟩ := bd_e H
              have J_134 : ∀ x_78 σ_79, v_131 = (x_78, σ_79) → YY l E M_X12_overlay 8 0 0 (pS (some (vi r)) σ') 146 [some (vr 277), some (vi what_0), some (vi slot_0), some (vi other_0), some (vi to_0), some (zv x_69)] [zv x_78] σ_79 0 0 := by
                intro x_78 σ_79 e
                have H := hk_133
                rw [e] at H
                refine z_zstore (M := M_X12_overlay) (lv' := [some (vr 277), some (vi what_0), some (vi slot_0), some (vi other_0), some (vi to_0), some (zv x_78)]) dX12_overlay_146 (Nat.le_of_ble_eq_true rfl) rfl rfl ?_
                refine z_aload_n (M := M_X12_overlay) dX12_overlay_148 rfl ?_
                have J_105 : YY l E M_X12_overlay 8 0 0 (pS (some (vi r)) σ') 159 [some (vr 277), some (vi what_0), some (vi slot_0), some (vi other_0), some (vi to_0), some (zv x_78)] [zv (decide (¬ (x_78 = true))), vr 277] σ_79 0 0 := by
                  refine z_iconst (M := M_X12_overlay) dX12_overlay_159 ?_
                  obtain ⟨⟨x_108, σ_107⟩, hc_106, H⟩ := bd_e H
                  refine z_callV (M := M_X12_overlay) (M' := M_X12_fails) (as := [zv (decide (¬ (x_78 = true))), vi 3]) (rest := []) rfl rfl dX12_overlay_160 m_X12_fails t_2805 t_2807 s_157 (c_X12_fails hl  hc_106) rfl rfl ly_277 rfl (Nat.le_of_ble_eq_true rfl) (Nat.le_of_ble_eq_true rfl) (Nat.le_of_ble_eq_true rfl) (Nat.le_of_ble_eq_true rfl) ?_
                  refine z_st (st' := [zv x_108]) rfl ?_
                  rcases if_e H with ⟨h_109, H⟩ | ⟨h_109, H⟩
                  · refine z_zne_t (M := M_X12_overlay) (tgt := 187) dX12_overlay_163 (by decide) h_109 ?_
                    refine z_iconst (M := M_X12_overlay) dX12_overlay_187 ?_
                    cases H
                    exact z_iret (M := M_X12_overlay) dX12_overlay_188 rfl (Nat.le_of_ble_eq_true rfl) (Nat.le_of_ble_eq_true rfl) ⟨rfl, rfl⟩
                  · refine z_zne_f (M := M_X12_overlay) (tgt := 187) dX12_overlay_163 (by decide) h_109 ?_
                    refine z_aload_n (M := M_X12_overlay) dX12_overlay_166 rfl ?_
                    obtain ⟨v_126, he_127, hk_128⟩ := bd_e H
                    have J_129 : ∀ x_116 σ_117, v_126 = (x_116, σ_117) → YY l E M_X12_overlay 8 0 0 (pS (some (vi r)) σ') 180 [some (vr 277), some (vi what_0), some (vi slot_0), some (vi other_0), some (vi to_0), some (zv x_78)] [zv x_116, vr 277] σ_117 0 0 := by
                      intro x_116 σ_117 e
                      have H := hk_128
                      rw [e] at H
                      refine z_iconst (M := M_X12_overlay) dX12_overlay_180 ?_
                      obtain ⟨⟨x_120, σ_119⟩, hc_118, H⟩ := bd_e H
                      refine z_callV (M := M_X12_overlay) (M' := M_X12_fails) (as := [zv x_116, vi 4]) (rest := []) rfl rfl dX12_overlay_181 m_X12_fails t_2805 t_2807 s_157 (c_X12_fails hl  hc_118) rfl rfl ly_277 rfl (Nat.le_of_ble_eq_true rfl) (Nat.le_of_ble_eq_true rfl) (Nat.le_of_ble_eq_true rfl) (Nat.le_of_ble_eq_true rfl) ?_
                      refine z_st (st' := [zv x_120]) rfl ?_
                      rcases if_e H with ⟨h_121, H⟩ | ⟨h_121, H⟩
                      · refine z_zeq_f (M := M_X12_overlay) (tgt := 189) dX12_overlay_184 (by decide) h_121 ?_
                        refine z_iconst (M := M_X12_overlay) dX12_overlay_187 ?_
                        cases H
                        exact z_iret (M := M_X12_overlay) dX12_overlay_188 rfl (Nat.le_of_ble_eq_true rfl) (Nat.le_of_ble_eq_true rfl) ⟨rfl, rfl⟩
                      · refine z_zeq_t (M := M_X12_overlay) (tgt := 189) dX12_overlay_184 (by decide) h_121 ?_
                        refine z_aload_n (M := M_X12_overlay) dX12_overlay_189 rfl ?_
                        refine z_bipush (M := M_X12_overlay) dX12_overlay_190 (by decide +kernel) ?_
                        refine z_iload (M := M_X12_overlay) dX12_overlay_192 rfl ?_
                        obtain ⟨σ_123, hc_122, H⟩ := bd_e H
                        refine z_callV (M := M_X12_overlay) (M' := M_X12_move) (as := [vi 32, vi to_0]) (rest := []) rfl rfl dX12_overlay_194 m_X12_move t_3021 t_3023 s_196 (c_X12_move hl  hc_122) rfl rfl ly_277 rfl (Nat.le_of_ble_eq_true rfl) (Nat.le_of_ble_eq_true rfl) (Nat.le_of_ble_eq_true rfl) (Nat.le_of_ble_eq_true rfl) ?_
                        refine z_st (st' := []) rfl ?_
                        refine z_aload_n (M := M_X12_overlay) dX12_overlay_197 rfl ?_
                        refine z_getR (M := M_X12_overlay) (ci := 15) (C := RX12) (T := TX12) (Nf := 135) (ty := tyX12) cl15 dX12_overlay_198 ly_277 10 (by decide) t_2401 rfl ?_
                        refine z_sipush (M := M_X12_overlay) dX12_overlay_201 (by decide +kernel) ?_
                        refine z_iload (M := M_X12_overlay) dX12_overlay_204 rfl ?_
                        refine z_imul (M := M_X12_overlay) dX12_overlay_206 ?_
                        refine z_iconst (M := M_X12_overlay) dX12_overlay_207 ?_
                        refine z_iadd (M := M_X12_overlay) dX12_overlay_208 ?_
                        obtain ⟨x_124, x_124_e, hi_125, H⟩ := rd_e H
                        refine z_iald (M := M_X12_overlay) dX12_overlay_209 ly_281 rfl rfl rfl hi_125 x_124_e ?_
                        cases H
                        exact z_iret (M := M_X12_overlay) dX12_overlay_210 rfl (Nat.le_of_ble_eq_true rfl) (Nat.le_of_ble_eq_true rfl) ⟨rfl, rfl⟩
                    have H := he_127
                    refine z_aload_n (M := M_X12_overlay) dX12_overlay_167 rfl ?_
                    refine z_iload_n (M := M_X12_overlay) dX12_overlay_168 rfl ?_
                    obtain ⟨⟨x_112, σ_111⟩, hc_110, H⟩ := bd_e H
                    refine z_callV (M := M_X12_overlay) (M' := M_X12_laysOver) (as := [vi what_0]) (rest := [vr 277]) rfl rfl dX12_overlay_169 m_X12_laysOver t_3369 t_3371 s_253 (c_X12_laysOver hl  hc_110) rfl rfl ly_277 rfl (Nat.le_of_ble_eq_true rfl) (Nat.le_of_ble_eq_true rfl) (Nat.le_of_ble_eq_true rfl) (Nat.le_of_ble_eq_true rfl) ?_
                    refine z_st (st' := [zv x_112, vr 277]) rfl ?_
                    rcases if_e H with ⟨h_113, H⟩ | ⟨h_113, H⟩
                    · refine z_zne_t (M := M_X12_overlay) (tgt := 179) dX12_overlay_172 (by decide) h_113 ?_
                      refine z_zconst (M := M_X12_overlay) (b := false) dX12_overlay_179 rfl ?_
                      exact J_129 _ _ (Option.some.inj H).symm
                    · refine z_zne_f (M := M_X12_overlay) (tgt := 179) dX12_overlay_172 (by decide) h_113 ?_
                      refine z_zconst (M := M_X12_overlay) (b := true) dX12_overlay_175 rfl ?_
                      refine z_goto (M := M_X12_overlay) (tgt := 180) dX12_overlay_176 (by decide) ?_
                      exact J_129 _ _ (Option.some.inj H).symm
                refine z_zload (M := M_X12_overlay) dX12_overlay_149 rfl ?_
                by_cases h_130 : x_78 = true
                · refine z_zne_t (M := M_X12_overlay) (tgt := 158) dX12_overlay_151 (by decide) h_130 ?_
                  refine z_iconst (M := M_X12_overlay) dX12_overlay_158 ?_
                  exact z_st (by rw [zv_f (p := ¬ (x_78 = true)) (not_not_intro h_130)]) J_105
                · refine z_zne_f (M := M_X12_overlay) (tgt := 158) dX12_overlay_151 (by decide) h_130 ?_
                  refine z_iconst (M := M_X12_overlay) dX12_overlay_154 ?_
                  refine z_goto (M := M_X12_overlay) (tgt := 159) dX12_overlay_155 (by decide) ?_
                  exact z_st (by rw [zv_t (p := ¬ (x_78 = true)) h_130]) J_105
              have H := he_132
              refine z_aload_n (M := M_X12_overlay) dX12_overlay_127 rfl ?_
              refine z_iload_n (M := M_X12_overlay) dX12_overlay_128 rfl ?_
              refine z_iconst (M := M_X12_overlay) dX12_overlay_129 ?_
              obtain ⟨⟨x_72, σ_71⟩, hc_70, H⟩ := bd_e H
              refine z_callV (M := M_X12_overlay) (M' := M_X12_layRings) (as := [vi other_0, vi 1]) (rest := []) rfl rfl dX12_overlay_130 m_X12_layRings t_3365 t_3367 s_252 (c_X12_layRings hl  hc_70) rfl rfl ly_277 rfl (Nat.le_of_ble_eq_true rfl) (Nat.le_of_ble_eq_true rfl) (Nat.le_of_ble_eq_true rfl) (Nat.le_of_ble_eq_true rfl) ?_
              refine z_st (st' := [zv x_72]) rfl ?_
              rcases if_e H with ⟨h_73, H⟩ | ⟨h_73, H⟩
              · refine z_zeq_f (M := M_X12_overlay) (tgt := 145) dX12_overlay_133 (by decide) h_73 ?_
                refine z_zload (M := M_X12_overlay) dX12_overlay_136 rfl ?_
                rcases if_e H with ⟨h_74, H⟩ | ⟨h_74, H⟩
                · refine z_zeq_f (M := M_X12_overlay) (tgt := 145) dX12_overlay_138 (by decide) h_74 ?_
                  refine z_zconst (M := M_X12_overlay) (b := true) dX12_overlay_141 rfl ?_
                  refine z_goto (M := M_X12_overlay) (tgt := 146) dX12_overlay_142 (by decide) ?_
                  exact J_134 _ _ (Option.some.inj H).symm
                · refine z_zeq_t (M := M_X12_overlay) (tgt := 145) dX12_overlay_138 (by decide) h_74 ?_
                  refine z_zconst (M := M_X12_overlay) (b := false) dX12_overlay_145 rfl ?_
                  exact J_134 _ _ (Option.some.inj H).symm
              · refine z_zeq_t (M := M_X12_overlay) (tgt := 145) dX12_overlay_133 (by decide) h_73 ?_
                refine z_zconst (M := M_X12_overlay) (b := false) dX12_overlay_145 rfl ?_
                exact J_134 _ _ (Option.some.inj H).symm
          have H := he_136
          refine z_iload_n (M := M_X12_overlay) dX12_overlay_72 rfl ?_
          refine z_i2l (M := M_X12_overlay) dX12_overlay_73 ?_
          refine z_lconst (M := M_X12_overlay) (m := 0) dX12_overlay_74 (by decide +kernel) ?_
          refine z_ldc2 (M := M_X12_overlay) (n := 4) dX12_overlay_75 t_3354 (by decide +kernel) ?_
          refine z_callS (M := M_X12_overlay) (M' := M_X12_in) (as := [vl (w32 what_0), vl 0, vl 4]) (rest := [vr 277]) rfl rfl dX12_overlay_78 m_X12_in t_2818 t_2819 (c_X12_in hl  rfl) rfl rfl (Nat.le_of_ble_eq_true rfl) (Nat.le_of_ble_eq_true rfl) (Nat.le_of_ble_eq_true rfl) (Nat.le_of_ble_eq_true rfl) ?_
          refine z_st (st' := [zv (fR_in (w32 what_0) 0 4), vr 277]) rfl ?_
          rcases if_e H with ⟨h_50, H⟩ | ⟨h_50, H⟩
          · refine z_zeq_f (M := M_X12_overlay) (tgt := 100) dX12_overlay_81 (by decide) h_50 ?_
            refine z_aload_n (M := M_X12_overlay) dX12_overlay_84 rfl ?_
            refine z_iload_n (M := M_X12_overlay) dX12_overlay_85 rfl ?_
            obtain ⟨x_52, hc_51, H⟩ := bd_e H
            refine z_callV (M := M_X12_overlay) (M' := M_X12_isLaid) (as := [vi slot_0]) (rest := [vr 277]) rfl rfl dX12_overlay_86 m_X12_isLaid t_3355 t_3357 s_250 (c_X12_isLaid hl  hc_51) rfl rfl ly_277 rfl (Nat.le_of_ble_eq_true rfl) (Nat.le_of_ble_eq_true rfl) (Nat.le_of_ble_eq_true rfl) (Nat.le_of_ble_eq_true rfl) ?_
            refine z_st (st' := [zv x_52, vr 277]) rfl ?_
            rcases if_e H with ⟨h_53, H⟩ | ⟨h_53, H⟩
            · refine z_zeq_f (M := M_X12_overlay) (tgt := 100) dX12_overlay_89 (by decide) h_53 ?_
              refine z_aload_n (M := M_X12_overlay) dX12_overlay_92 rfl ?_
              refine z_iload_n (M := M_X12_overlay) dX12_overlay_93 rfl ?_
              obtain ⟨x_55, hc_54, H⟩ := bd_e H
              refine z_callV (M := M_X12_overlay) (M' := M_X12_isLaid) (as := [vi other_0]) (rest := [vr 277]) rfl rfl dX12_overlay_94 m_X12_isLaid t_3355 t_3357 s_250 (c_X12_isLaid hl  hc_54) rfl rfl ly_277 rfl (Nat.le_of_ble_eq_true rfl) (Nat.le_of_ble_eq_true rfl) (Nat.le_of_ble_eq_true rfl) (Nat.le_of_ble_eq_true rfl) ?_
              refine z_st (st' := [zv x_55, vr 277]) rfl ?_
              rcases if_e H with ⟨h_56, H⟩ | ⟨h_56, H⟩
              · refine z_zne_t (M := M_X12_overlay) (tgt := 104) dX12_overlay_97 (by decide) h_56 ?_
                refine z_zconst (M := M_X12_overlay) (b := false) dX12_overlay_104 rfl ?_
                exact J_138 _ (Option.some.inj H).symm
              · refine z_zne_f (M := M_X12_overlay) (tgt := 104) dX12_overlay_97 (by decide) h_56 ?_
                refine z_zconst (M := M_X12_overlay) (b := true) dX12_overlay_100 rfl ?_
                refine z_goto (M := M_X12_overlay) (tgt := 105) dX12_overlay_101 (by decide) ?_
                exact J_138 _ (Option.some.inj H).symm
            · refine z_zeq_t (M := M_X12_overlay) (tgt := 100) dX12_overlay_89 (by decide) h_53 ?_
              refine z_zconst (M := M_X12_overlay) (b := true) dX12_overlay_100 rfl ?_
              refine z_goto (M := M_X12_overlay) (tgt := 105) dX12_overlay_101 (by decide) ?_
              exact J_138 _ (Option.some.inj H).symm
          · refine z_zeq_t (M := M_X12_overlay) (tgt := 100) dX12_overlay_81 (by decide) h_50 ?_
            refine z_zconst (M := M_X12_overlay) (b := true) dX12_overlay_100 rfl ?_
            refine z_goto (M := M_X12_overlay) (tgt := 105) dX12_overlay_101 (by decide) ?_
            exact J_138 _ (Option.some.inj H).symm
      have H := he_140
      refine z_aload_n (M := M_X12_overlay) dX12_overlay_41 rfl ?_
      refine z_iload_n (M := M_X12_overlay) dX12_overlay_42 rfl ?_
      obtain ⟨x_37, hc_36, H⟩ := bd_e H
      refine z_callV (M := M_X12_overlay) (M' := M_X12_has) (as := [vi slot_0]) (rest := [vr 277]) rfl rfl dX12_overlay_43 m_X12_has t_3033 t_3035 s_197 (c_X12_has hl  hc_36) rfl rfl ly_277 rfl (Nat.le_of_ble_eq_true rfl) (Nat.le_of_ble_eq_true rfl) (Nat.le_of_ble_eq_true rfl) (Nat.le_of_ble_eq_true rfl) ?_
      refine z_st (st' := [zv x_37, vr 277]) rfl ?_
      rcases if_e H with ⟨h_38, H⟩ | ⟨h_38, H⟩
      · refine z_zeq_f (M := M_X12_overlay) (tgt := 57) dX12_overlay_46 (by decide) h_38 ?_
        refine z_aload_n (M := M_X12_overlay) dX12_overlay_49 rfl ?_
        refine z_iload_n (M := M_X12_overlay) dX12_overlay_50 rfl ?_
        obtain ⟨x_40, hc_39, H⟩ := bd_e H
        refine z_callV (M := M_X12_overlay) (M' := M_X12_has) (as := [vi other_0]) (rest := [vr 277]) rfl rfl dX12_overlay_51 m_X12_has t_3033 t_3035 s_197 (c_X12_has hl  hc_39) rfl rfl ly_277 rfl (Nat.le_of_ble_eq_true rfl) (Nat.le_of_ble_eq_true rfl) (Nat.le_of_ble_eq_true rfl) (Nat.le_of_ble_eq_true rfl) ?_
        refine z_st (st' := [zv x_40, vr 277]) rfl ?_
        rcases if_e H with ⟨h_41, H⟩ | ⟨h_41, H⟩
        · refine z_zne_t (M := M_X12_overlay) (tgt := 61) dX12_overlay_54 (by decide) h_41 ?_
          refine z_zconst (M := M_X12_overlay) (b := false) dX12_overlay_61 rfl ?_
          exact J_142 _ (Option.some.inj H).symm
        · refine z_zne_f (M := M_X12_overlay) (tgt := 61) dX12_overlay_54 (by decide) h_41 ?_
          refine z_zconst (M := M_X12_overlay) (b := true) dX12_overlay_57 rfl ?_
          refine z_goto (M := M_X12_overlay) (tgt := 62) dX12_overlay_58 (by decide) ?_
          exact J_142 _ (Option.some.inj H).symm
      · refine z_zeq_t (M := M_X12_overlay) (tgt := 57) dX12_overlay_46 (by decide) h_38 ?_
        refine z_zconst (M := M_X12_overlay) (b := true) dX12_overlay_57 rfl ?_
        refine z_goto (M := M_X12_overlay) (tgt := 62) dX12_overlay_58 (by decide) ?_
        exact J_142 _ (Option.some.inj H).symm
  refine z_iload_n (M := M_X12_overlay) dX12_overlay_6 rfl ?_
  refine z_callS (M := M_X12_overlay) (M' := M_X12_isSlot) (as := [vi slot_0]) (rest := [vr 277]) rfl rfl dX12_overlay_7 m_X12_isSlot t_2841 t_2842 (c_X12_isSlot hl  rfl) rfl rfl (Nat.le_of_ble_eq_true rfl) (Nat.le_of_ble_eq_true rfl) (Nat.le_of_ble_eq_true rfl) (Nat.le_of_ble_eq_true rfl) ?_
  refine z_st (st' := [zv (fR_isSlot slot_0), vr 277]) rfl ?_
  by_cases h_143 : (fR_isSlot slot_0) = true
  · refine z_zeq_f (M := M_X12_overlay) (tgt := 28) dX12_overlay_10 (by decide) h_143 ?_
    refine z_iload_n (M := M_X12_overlay) dX12_overlay_13 rfl ?_
    refine z_callS (M := M_X12_overlay) (M' := M_X12_isSlot) (as := [vi other_0]) (rest := [vr 277]) rfl rfl dX12_overlay_14 m_X12_isSlot t_2841 t_2842 (c_X12_isSlot hl  rfl) rfl rfl (Nat.le_of_ble_eq_true rfl) (Nat.le_of_ble_eq_true rfl) (Nat.le_of_ble_eq_true rfl) (Nat.le_of_ble_eq_true rfl) ?_
    refine z_st (st' := [zv (fR_isSlot other_0), vr 277]) rfl ?_
    by_cases h_144 : (fR_isSlot other_0) = true
    · refine z_zeq_f (M := M_X12_overlay) (tgt := 28) dX12_overlay_17 (by decide) h_144 ?_
      refine z_iload (M := M_X12_overlay) dX12_overlay_20 rfl ?_
      refine z_callS (M := M_X12_overlay) (M' := M_X12_isSlot) (as := [vi to_0]) (rest := [vr 277]) rfl rfl dX12_overlay_22 m_X12_isSlot t_2841 t_2842 (c_X12_isSlot hl  rfl) rfl rfl (Nat.le_of_ble_eq_true rfl) (Nat.le_of_ble_eq_true rfl) (Nat.le_of_ble_eq_true rfl) (Nat.le_of_ble_eq_true rfl) ?_
      refine z_st (st' := [zv (fR_isSlot to_0), vr 277]) rfl ?_
      by_cases h_145 : (fR_isSlot to_0) = true
      · refine z_zne_t (M := M_X12_overlay) (tgt := 32) dX12_overlay_25 (by decide) h_145 ?_
        refine z_iconst (M := M_X12_overlay) dX12_overlay_32 ?_
        exact z_st (by rw [zv_f (p := ((¬ ((fR_isSlot slot_0) = true)) ∨ (¬ ((fR_isSlot other_0) = true))) ∨ (¬ ((fR_isSlot to_0) = true))) (fun q => q.elim (fun q => q.elim (not_not_intro h_143) (not_not_intro h_144)) (not_not_intro h_145))]) J_31
      · refine z_zne_f (M := M_X12_overlay) (tgt := 32) dX12_overlay_25 (by decide) h_145 ?_
        refine z_iconst (M := M_X12_overlay) dX12_overlay_28 ?_
        refine z_goto (M := M_X12_overlay) (tgt := 33) dX12_overlay_29 (by decide) ?_
        exact z_st (by rw [zv_t (p := ((¬ ((fR_isSlot slot_0) = true)) ∨ (¬ ((fR_isSlot other_0) = true))) ∨ (¬ ((fR_isSlot to_0) = true))) (Or.inr h_145)]) J_31
    · refine z_zeq_t (M := M_X12_overlay) (tgt := 28) dX12_overlay_17 (by decide) h_144 ?_
      refine z_iconst (M := M_X12_overlay) dX12_overlay_28 ?_
      refine z_goto (M := M_X12_overlay) (tgt := 33) dX12_overlay_29 (by decide) ?_
      exact z_st (by rw [zv_t (p := ((¬ ((fR_isSlot slot_0) = true)) ∨ (¬ ((fR_isSlot other_0) = true))) ∨ (¬ ((fR_isSlot to_0) = true))) (Or.inl (Or.inr h_144))]) J_31
  · refine z_zeq_t (M := M_X12_overlay) (tgt := 28) dX12_overlay_10 (by decide) h_143 ?_
    refine z_iconst (M := M_X12_overlay) dX12_overlay_28 ?_
    refine z_goto (M := M_X12_overlay) (tgt := 33) dX12_overlay_29 (by decide) ?_
    exact z_st (by rw [zv_t (p := ((¬ ((fR_isSlot slot_0) = true)) ∨ (¬ ((fR_isSlot other_0) = true))) ∨ (¬ ((fR_isSlot to_0) = true))) (Or.inl (Or.inl h_143))]) J_31
theorem c_X12_typeOfKind (hl : l.stackTraces = false) {σ : SG} {kind_0 : Int} {r : Int}  (H : fR_typeOfKind kind_0 = r) : en_S l E M_X12_typeOfKind 1 0 0 [vi kind_0] σ (pS (some (vi r)) σ) := by
  unfold fR_typeOfKind at H
  refine z_mk (lv := [some (vi kind_0)]) m_X12_typeOfKind rfl hl (Nat.le_of_ble_eq_true rfl) rfl ?_
  have J_1 : YY l E M_X12_typeOfKind 1 0 0 (pS (some (vi r)) σ) 15 [some (vi kind_0)] [vi (if (w32 kind_0) = 7 then (-1) else (q_irm (kind_0 - 1) 3))] σ 0 0 := by
    cases H
    exact z_iret (M := M_X12_typeOfKind) dX12_typeOfKind_15 rfl (Nat.le_of_ble_eq_true rfl) (Nat.le_of_ble_eq_true rfl) ⟨rfl, rfl⟩
  refine z_iload_n (M := M_X12_typeOfKind) dX12_typeOfKind_0 rfl ?_
  refine z_bipush (M := M_X12_typeOfKind) dX12_typeOfKind_1 (by decide +kernel) ?_
  by_cases h_2 : (w32 kind_0) = 7
  · refine z_icmp_ne_f (M := M_X12_typeOfKind) (tgt := 10) dX12_typeOfKind_3 (by decide) rfl (by decide +kernel) h_2 ?_
    refine z_iconst (M := M_X12_typeOfKind) dX12_typeOfKind_6 ?_
    refine z_goto (M := M_X12_typeOfKind) (tgt := 15) dX12_typeOfKind_7 (by decide) ?_
    exact z_st (by rw [if_pos (c := (w32 kind_0) = 7) h_2]) J_1
  · refine z_icmp_ne_t (M := M_X12_typeOfKind) (tgt := 10) dX12_typeOfKind_3 (by decide) rfl (by decide +kernel) h_2 ?_
    refine z_iload_n (M := M_X12_typeOfKind) dX12_typeOfKind_10 rfl ?_
    refine z_iconst (M := M_X12_typeOfKind) dX12_typeOfKind_11 ?_
    refine z_isub (M := M_X12_typeOfKind) dX12_typeOfKind_12 ?_
    refine z_iconst (M := M_X12_typeOfKind) dX12_typeOfKind_13 ?_
    refine z_irem (M := M_X12_typeOfKind) dX12_typeOfKind_14 (by decide +kernel) ?_
    exact z_st (by rw [if_neg (c := (w32 kind_0) = 7) h_2]) J_1
theorem c_X12_canRelate (hl : l.stackTraces = false) {σ : SG} {slot_0 : Int} {r : Bool}  (H : fR_canRelate σ slot_0 = some r) : en_S l E M_X12_canRelate 3 0 0 [vr 277, vi slot_0] σ (pS (some (zv r)) σ) := by
  unfold fR_canRelate at H
  refine z_mk (lv := [some (vr 277), some (vi slot_0)]) m_X12_canRelate rfl hl (Nat.le_of_ble_eq_true rfl) rfl ?_
  obtain ⟨v_11, he_12, hk_13⟩ := bd_e H
  have J_14 : ∀ x_10, v_11 = x_10 → YY l E M_X12_canRelate 3 0 0 (pS (some (zv r)) σ) 28 [some (vr 277), some (vi slot_0)] [zv x_10] σ 0 0 := by
    intro x_10 e
    have H := hk_13
    rw [e] at H
    cases H
    exact z_zret (M := M_X12_canRelate) dX12_canRelate_28 rfl (Nat.le_of_ble_eq_true rfl) (Nat.le_of_ble_eq_true rfl) ⟨rfl, rfl⟩
  have H := he_12
  refine z_aload_n (M := M_X12_canRelate) dX12_canRelate_0 rfl ?_
  refine z_getR (M := M_X12_canRelate) (ci := 15) (C := RX12) (T := TX12) (Nf := 135) (ty := tyX12) cl15 dX12_canRelate_1 ly_277 10 (by decide) t_2401 rfl ?_
  refine z_sipush (M := M_X12_canRelate) dX12_canRelate_4 (by decide +kernel) ?_
  refine z_iload_n (M := M_X12_canRelate) dX12_canRelate_7 rfl ?_
  refine z_imul (M := M_X12_canRelate) dX12_canRelate_8 ?_
  obtain ⟨x_1, x_1_e, hi_2, H⟩ := rd_e H
  refine z_iald (M := M_X12_canRelate) dX12_canRelate_9 ly_281 rfl rfl rfl hi_2 x_1_e ?_
  refine z_bipush (M := M_X12_canRelate) dX12_canRelate_10 (by decide +kernel) ?_
  rcases if_e H with ⟨h_3, H⟩ | ⟨h_3, H⟩
  · refine z_icmp_eq_f (M := M_X12_canRelate) (tgt := 27) dX12_canRelate_12 (by decide) rfl (by decide +kernel) h_3 ?_
    refine z_aload_n (M := M_X12_canRelate) dX12_canRelate_15 rfl ?_
    refine z_iload_n (M := M_X12_canRelate) dX12_canRelate_16 rfl ?_
    obtain ⟨x_5, hc_4, H⟩ := bd_e H
    refine z_callV (M := M_X12_canRelate) (M' := M_X12_isNear) (as := [vi slot_0]) (rest := []) rfl rfl dX12_canRelate_17 m_X12_isNear t_3359 t_3361 s_251 (c_X12_isNear hl  hc_4) rfl rfl ly_277 rfl (Nat.le_of_ble_eq_true rfl) (Nat.le_of_ble_eq_true rfl) (Nat.le_of_ble_eq_true rfl) (Nat.le_of_ble_eq_true rfl) ?_
    refine z_st (st' := [zv x_5]) rfl ?_
    rcases if_e H with ⟨h_6, H⟩ | ⟨h_6, H⟩
    · refine z_zeq_f (M := M_X12_canRelate) (tgt := 27) dX12_canRelate_20 (by decide) h_6 ?_
      refine z_zconst (M := M_X12_canRelate) (b := true) dX12_canRelate_23 rfl ?_
      refine z_goto (M := M_X12_canRelate) (tgt := 28) dX12_canRelate_24 (by decide) ?_
      exact J_14 _ (Option.some.inj H).symm
    · refine z_zeq_t (M := M_X12_canRelate) (tgt := 27) dX12_canRelate_20 (by decide) h_6 ?_
      refine z_zconst (M := M_X12_canRelate) (b := false) dX12_canRelate_27 rfl ?_
      exact J_14 _ (Option.some.inj H).symm
  · refine z_icmp_eq_t (M := M_X12_canRelate) (tgt := 27) dX12_canRelate_12 (by decide) rfl (by decide +kernel) (Decidable.not_not.mp h_3) ?_
    refine z_zconst (M := M_X12_canRelate) (b := false) dX12_canRelate_27 rfl ?_
    exact J_14 _ (Option.some.inj H).symm
theorem c_X12_lineEnds (hl : l.stackTraces = false) {σ : SG} {shape_0 : Int} {from_0 : Int} {n_0 : Int} {σ' : SG}  (H : fR_lineEnds σ shape_0 from_0 n_0 = some σ') : en_S l E M_X12_lineEnds 1 0 0 [vr 277, vi shape_0, vi from_0, vi n_0] σ (pS (none) σ') := by
  unfold fR_lineEnds at H
  refine z_mk (lv := [some (vr 277), some (vi shape_0), some (vi from_0), some (vi n_0)]) m_X12_lineEnds rfl hl (Nat.le_of_ble_eq_true rfl) rfl ?_
  refine z_aload_n (M := M_X12_lineEnds) dX12_lineEnds_0 rfl ?_
  refine z_getR (M := M_X12_lineEnds) (ci := 15) (C := RX12) (T := TX12) (Nf := 135) (ty := tyX12) cl15 dX12_lineEnds_1 ly_277 106 (by decide) t_2497 rfl ?_
  refine z_iload_n (M := M_X12_lineEnds) dX12_lineEnds_4 rfl ?_
  obtain ⟨x_8, x_8_e, hi_9, H⟩ := rd_e H
  refine z_iald (M := M_X12_lineEnds) dX12_lineEnds_5 ly_342 rfl rfl rfl hi_9 x_8_e ?_
  refine z_iconst (M := M_X12_lineEnds) dX12_lineEnds_6 ?_
  refine z_iadd (M := M_X12_lineEnds) dX12_lineEnds_7 ?_
  refine z_sipush (M := M_X12_lineEnds) dX12_lineEnds_8 (by decide +kernel) ?_
  rcases if_e H with ⟨h_10, H⟩ | ⟨h_10, H⟩
  · refine z_icmp_gt_t (M := M_X12_lineEnds) (tgt := 18) dX12_lineEnds_11 (by decide) rfl (by decide +kernel) h_10 ?_
    cases H
    exact z_vret (M := M_X12_lineEnds) dX12_lineEnds_18 rfl (Nat.le_of_ble_eq_true rfl) (Nat.le_of_ble_eq_true rfl) ⟨rfl, rfl⟩
  · refine z_icmp_gt_f (M := M_X12_lineEnds) (tgt := 18) dX12_lineEnds_11 (by decide) rfl (by decide +kernel) (Int.not_lt.mp h_10) ?_
    refine z_iload_n (M := M_X12_lineEnds) dX12_lineEnds_14 rfl ?_
    rcases if_e H with ⟨h_11, H⟩ | ⟨h_11, H⟩
    · refine z_if_ne_f (M := M_X12_lineEnds) (tgt := 19) dX12_lineEnds_15 (by decide) rfl h_11 ?_
      cases H
      exact z_vret (M := M_X12_lineEnds) dX12_lineEnds_18 rfl (Nat.le_of_ble_eq_true rfl) (Nat.le_of_ble_eq_true rfl) ⟨rfl, rfl⟩
    · refine z_if_ne_t (M := M_X12_lineEnds) (tgt := 19) dX12_lineEnds_15 (by decide) rfl h_11 ?_
      refine z_aload_n (M := M_X12_lineEnds) dX12_lineEnds_19 rfl ?_
      refine z_getR (M := M_X12_lineEnds) (ci := 15) (C := RX12) (T := TX12) (Nf := 135) (ty := tyX12) cl15 dX12_lineEnds_20 ly_277 105 (by decide) t_2496 rfl ?_
      refine z_sipush (M := M_X12_lineEnds) dX12_lineEnds_23 (by decide +kernel) ?_
      refine z_iload_n (M := M_X12_lineEnds) dX12_lineEnds_26 rfl ?_
      refine z_imul (M := M_X12_lineEnds) dX12_lineEnds_27 ?_
      refine z_aload_n (M := M_X12_lineEnds) dX12_lineEnds_28 rfl ?_
      refine z_getR (M := M_X12_lineEnds) (ci := 15) (C := RX12) (T := TX12) (Nf := 135) (ty := tyX12) cl15 dX12_lineEnds_29 ly_277 106 (by decide) t_2497 rfl ?_
      refine z_iload_n (M := M_X12_lineEnds) dX12_lineEnds_32 rfl ?_
      obtain ⟨x_12, x_12_e, hi_13, H⟩ := rd_e H
      refine z_iald (M := M_X12_lineEnds) dX12_lineEnds_33 ly_342 rfl rfl rfl hi_13 x_12_e ?_
      refine z_iadd (M := M_X12_lineEnds) dX12_lineEnds_34 ?_
      refine z_iload_n (M := M_X12_lineEnds) dX12_lineEnds_35 rfl ?_
      obtain ⟨σ_14, σ_14_e, hi_15, H⟩ := wa_e H
      refine z_iast (M := M_X12_lineEnds) dX12_lineEnds_36 ly_341 rfl rfl rfl hi_15 σ_14_e ?_
      refine z_aload_n (M := M_X12_lineEnds) dX12_lineEnds_37 rfl ?_
      refine z_getR (M := M_X12_lineEnds) (ci := 15) (C := RX12) (T := TX12) (Nf := 135) (ty := tyX12) cl15 dX12_lineEnds_38 ly_277 105 (by decide) t_2496 rfl ?_
      refine z_sipush (M := M_X12_lineEnds) dX12_lineEnds_41 (by decide +kernel) ?_
      refine z_iload_n (M := M_X12_lineEnds) dX12_lineEnds_44 rfl ?_
      refine z_imul (M := M_X12_lineEnds) dX12_lineEnds_45 ?_
      refine z_aload_n (M := M_X12_lineEnds) dX12_lineEnds_46 rfl ?_
      refine z_getR (M := M_X12_lineEnds) (ci := 15) (C := RX12) (T := TX12) (Nf := 135) (ty := tyX12) cl15 dX12_lineEnds_47 ly_277 106 (by decide) t_2497 rfl ?_
      refine z_iload_n (M := M_X12_lineEnds) dX12_lineEnds_50 rfl ?_
      obtain ⟨x_16, x_16_e, hi_17, H⟩ := rd_e H
      refine z_iald (M := M_X12_lineEnds) dX12_lineEnds_51 ly_342 rfl rfl rfl hi_17 x_16_e ?_
      refine z_iadd (M := M_X12_lineEnds) dX12_lineEnds_52 ?_
      refine z_iconst (M := M_X12_lineEnds) dX12_lineEnds_53 ?_
      refine z_iadd (M := M_X12_lineEnds) dX12_lineEnds_54 ?_
      refine z_iload_n (M := M_X12_lineEnds) dX12_lineEnds_55 rfl ?_
      refine z_iload_n (M := M_X12_lineEnds) dX12_lineEnds_56 rfl ?_
      refine z_iadd (M := M_X12_lineEnds) dX12_lineEnds_57 ?_
      refine z_iconst (M := M_X12_lineEnds) dX12_lineEnds_58 ?_
      refine z_isub (M := M_X12_lineEnds) dX12_lineEnds_59 ?_
      obtain ⟨σ_18, σ_18_e, hi_19, H⟩ := wa_e H
      refine z_iast (M := M_X12_lineEnds) dX12_lineEnds_60 ly_341 rfl rfl rfl hi_19 σ_18_e ?_
      refine z_aload_n (M := M_X12_lineEnds) dX12_lineEnds_61 rfl ?_
      refine z_getR (M := M_X12_lineEnds) (ci := 15) (C := RX12) (T := TX12) (Nf := 135) (ty := tyX12) cl15 dX12_lineEnds_62 ly_277 106 (by decide) t_2497 rfl ?_
      refine z_iload_n (M := M_X12_lineEnds) dX12_lineEnds_65 rfl ?_
      refine z_dup2 (M := M_X12_lineEnds) dX12_lineEnds_66 rfl rfl ?_
      obtain ⟨x_20, x_20_e, hi_21, H⟩ := rd_e H
      refine z_iald (M := M_X12_lineEnds) dX12_lineEnds_67 ly_342 rfl rfl rfl hi_21 x_20_e ?_
      refine z_iconst (M := M_X12_lineEnds) dX12_lineEnds_68 ?_
      refine z_iadd (M := M_X12_lineEnds) dX12_lineEnds_69 ?_
      obtain ⟨σ_22, σ_22_e, hi_23, H⟩ := wa_e H
      refine z_iast (M := M_X12_lineEnds) dX12_lineEnds_70 ly_342 rfl rfl rfl hi_23 σ_22_e ?_
      cases H
      exact z_vret (M := M_X12_lineEnds) dX12_lineEnds_71 rfl (Nat.le_of_ble_eq_true rfl) (Nat.le_of_ble_eq_true rfl) ⟨rfl, rfl⟩
theorem c_X12_rowOfSegments (hl : l.stackTraces = false) {σ : SG} {shape_0 : Int} {from_0 : Int} {n_0 : Int} {closes_0 : Bool} {σ' : SG}  (H : fR_rowOfSegments σ shape_0 from_0 n_0 closes_0 = some σ') : en_S l E M_X12_rowOfSegments 2 0 0 [vr 277, vi shape_0, vi from_0, vi n_0, zv closes_0] σ (pS (none) σ') := by
  unfold fR_rowOfSegments at H
  refine z_mk (lv := [some (vr 277), some (vi shape_0), some (vi from_0), some (vi n_0), some (zv closes_0), none]) m_X12_rowOfSegments rfl hl (Nat.le_of_ble_eq_true rfl) rfl ?_
  refine z_iconst (M := M_X12_rowOfSegments) dX12_rowOfSegments_0 ?_
  refine z_istore (M := M_X12_rowOfSegments) (lv' := [some (vr 277), some (vi shape_0), some (vi from_0), some (vi n_0), some (zv closes_0), some (vi 0)]) dX12_rowOfSegments_1 (Nat.le_of_ble_eq_true rfl) rfl rfl ?_
  obtain ⟨rl_6, hw_3, hk_4⟩ := bd_e H
  have J_55 : ∀ k_26 σ_27, rl_6 = (k_26, σ_27) → YY l E M_X12_rowOfSegments 2 0 0 (pS (none) σ') 52 [some (vr 277), some (vi shape_0), some (vi from_0), some (vi n_0), some (zv closes_0), some (vi k_26)] [] σ_27 0 0 := by
    intro k_26 σ_27 e
    have H := hk_4
    rw [e] at H
    obtain ⟨v_31, he_28, hk_29⟩ := bd_e H
    have J_54 : ∀ σ_53, v_31 = σ_53 → YY l E M_X12_rowOfSegments 2 0 0 (pS (none) σ') 89 [some (vr 277), some (vi shape_0), some (vi from_0), some (vi n_0), some (zv closes_0), none] [] σ_53 0 0 := by
      intro σ_53 e
      have H := hk_29
      rw [e] at H
      cases H
      exact z_vret (M := M_X12_rowOfSegments) dX12_rowOfSegments_89 rfl (Nat.le_of_ble_eq_true rfl) (Nat.le_of_ble_eq_true rfl) ⟨rfl, rfl⟩
    have H := he_28
    refine z_zload (M := M_X12_rowOfSegments) dX12_rowOfSegments_52 rfl ?_
    rcases if_e H with ⟨h_42, H⟩ | ⟨h_42, H⟩
    · refine z_zeq_f (M := M_X12_rowOfSegments) (tgt := 89) dX12_rowOfSegments_54 (by decide) h_42 ?_
      refine z_iload_n (M := M_X12_rowOfSegments) dX12_rowOfSegments_57 rfl ?_
      rcases if_e H with ⟨h_43, H⟩ | ⟨h_43, H⟩
      · refine z_if_le_f (M := M_X12_rowOfSegments) (tgt := 89) dX12_rowOfSegments_58 (by decide) rfl h_43 ?_
        refine z_aload_n (M := M_X12_rowOfSegments) dX12_rowOfSegments_61 rfl ?_
        refine z_iload_n (M := M_X12_rowOfSegments) dX12_rowOfSegments_62 rfl ?_
        refine z_iload_n (M := M_X12_rowOfSegments) dX12_rowOfSegments_63 rfl ?_
        refine z_iload_n (M := M_X12_rowOfSegments) dX12_rowOfSegments_64 rfl ?_
        refine z_iadd (M := M_X12_rowOfSegments) dX12_rowOfSegments_65 ?_
        refine z_iconst (M := M_X12_rowOfSegments) dX12_rowOfSegments_66 ?_
        refine z_isub (M := M_X12_rowOfSegments) dX12_rowOfSegments_67 ?_
        obtain ⟨x_45, hc_44, H⟩ := bd_e H
        refine z_callV (M := M_X12_rowOfSegments) (M' := M_X12_isSame) (as := [vi from_0, vi ((from_0 + n_0) - 1)]) (rest := []) rfl rfl dX12_rowOfSegments_68 m_X12_isSame t_3230 t_3232 s_226 (c_X12_isSame hl  hc_44) rfl rfl ly_277 rfl (Nat.le_of_ble_eq_true rfl) (Nat.le_of_ble_eq_true rfl) (Nat.le_of_ble_eq_true rfl) (Nat.le_of_ble_eq_true rfl) ?_
        refine z_st (st' := [zv x_45]) rfl ?_
        rcases if_e H with ⟨h_46, H⟩ | ⟨h_46, H⟩
        · refine z_zne_t (M := M_X12_rowOfSegments) (tgt := 89) dX12_rowOfSegments_71 (by decide) h_46 ?_
          refine z_le (lv' := [some (vr 277), some (vi shape_0), some (vi from_0), some (vi n_0), some (zv closes_0), none]) ⟨Or.inr rfl, Or.inr rfl, Or.inr rfl, Or.inr rfl, Or.inr rfl, Or.inl rfl, trivial⟩ ?_
          exact J_54 _ (Option.some.inj H).symm
        · refine z_zne_f (M := M_X12_rowOfSegments) (tgt := 89) dX12_rowOfSegments_71 (by decide) h_46 ?_
          refine z_aload_n (M := M_X12_rowOfSegments) dX12_rowOfSegments_74 rfl ?_
          refine z_iload_n (M := M_X12_rowOfSegments) dX12_rowOfSegments_75 rfl ?_
          refine z_iload_n (M := M_X12_rowOfSegments) dX12_rowOfSegments_76 rfl ?_
          refine z_iadd (M := M_X12_rowOfSegments) dX12_rowOfSegments_77 ?_
          refine z_iconst (M := M_X12_rowOfSegments) dX12_rowOfSegments_78 ?_
          refine z_isub (M := M_X12_rowOfSegments) dX12_rowOfSegments_79 ?_
          refine z_iload_n (M := M_X12_rowOfSegments) dX12_rowOfSegments_80 rfl ?_
          refine z_iconst (M := M_X12_rowOfSegments) dX12_rowOfSegments_81 ?_
          refine z_iload_n (M := M_X12_rowOfSegments) dX12_rowOfSegments_82 rfl ?_
          refine z_iconst (M := M_X12_rowOfSegments) dX12_rowOfSegments_83 ?_
          refine z_isub (M := M_X12_rowOfSegments) dX12_rowOfSegments_84 ?_
          refine z_iload_n (M := M_X12_rowOfSegments) dX12_rowOfSegments_85 rfl ?_
          obtain ⟨σ_49, hc_48, H⟩ := bd_e H
          refine z_callV (M := M_X12_rowOfSegments) (M' := M_X12_segment) (as := [vi ((from_0 + n_0) - 1), vi from_0, vi 0, vi (n_0 - 1), vi shape_0]) (rest := []) rfl rfl dX12_rowOfSegments_86 m_X12_segment t_3238 t_3240 s_228 (c_X12_segment hl  hc_48) rfl rfl ly_277 rfl (Nat.le_of_ble_eq_true rfl) (Nat.le_of_ble_eq_true rfl) (Nat.le_of_ble_eq_true rfl) (Nat.le_of_ble_eq_true rfl) ?_
          refine z_st (st' := []) rfl ?_
          refine z_le (lv' := [some (vr 277), some (vi shape_0), some (vi from_0), some (vi n_0), some (zv closes_0), none]) ⟨Or.inr rfl, Or.inr rfl, Or.inr rfl, Or.inr rfl, Or.inr rfl, Or.inl rfl, trivial⟩ ?_
          exact J_54 _ (Option.some.inj H).symm
      · refine z_if_le_t (M := M_X12_rowOfSegments) (tgt := 89) dX12_rowOfSegments_58 (by decide) rfl (Int.not_lt.mp h_43) ?_
        refine z_le (lv' := [some (vr 277), some (vi shape_0), some (vi from_0), some (vi n_0), some (zv closes_0), none]) ⟨Or.inr rfl, Or.inr rfl, Or.inr rfl, Or.inr rfl, Or.inr rfl, Or.inl rfl, trivial⟩ ?_
        exact J_54 _ (Option.some.inj H).symm
    · refine z_zeq_t (M := M_X12_rowOfSegments) (tgt := 89) dX12_rowOfSegments_54 (by decide) h_42 ?_
      refine z_le (lv' := [some (vr 277), some (vi shape_0), some (vi from_0), some (vi n_0), some (zv closes_0), none]) ⟨Or.inr rfl, Or.inr rfl, Or.inr rfl, Or.inr rfl, Or.inr rfl, Or.inl rfl, trivial⟩ ?_
      exact J_54 _ (Option.some.inj H).symm
  refine whl_go hw_3 (fun (k_1, σ_2) => YY l E M_X12_rowOfSegments 2 0 0 (pS (none) σ') 3 [some (vr 277), some (vi shape_0), some (vi from_0), some (vi n_0), some (zv closes_0), some (vi k_1)] [] σ_2 0 0) ?_
  rintro ⟨k_1, σ_2⟩ o_7 H K_8 K_9
  refine z_iload (M := M_X12_rowOfSegments) dX12_rowOfSegments_3 rfl ?_
  refine z_iconst (M := M_X12_rowOfSegments) dX12_rowOfSegments_5 ?_
  refine z_iadd (M := M_X12_rowOfSegments) dX12_rowOfSegments_6 ?_
  refine z_iload_n (M := M_X12_rowOfSegments) dX12_rowOfSegments_7 rfl ?_
  rcases if_e H with ⟨h_10, H⟩ | ⟨h_10, H⟩
  · refine z_icmp_ge_f (M := M_X12_rowOfSegments) (tgt := 52) dX12_rowOfSegments_8 (by decide) rfl rfl h_10 ?_
    obtain ⟨v_14, he_11, hk_12⟩ := bd_e H
    have J_24 : ∀ σ_22, v_14 = σ_22 → YY l E M_X12_rowOfSegments 2 0 0 (pS (none) σ') 46 [some (vr 277), some (vi shape_0), some (vi from_0), some (vi n_0), some (zv closes_0), some (vi k_1)] [] σ_22 0 0 := by
      intro σ_22 e
      have H := hk_12
      rw [e] at H
      refine z_iinc (M := M_X12_rowOfSegments) (lv' := [some (vr 277), some (vi shape_0), some (vi from_0), some (vi n_0), some (zv closes_0), some (vi (k_1 + 1))]) dX12_rowOfSegments_46 rfl (Nat.le_of_ble_eq_true rfl) rfl rfl ?_
      refine z_goto (M := M_X12_rowOfSegments) (tgt := 3) dX12_rowOfSegments_49 (by decide) ?_
      exact K_8 _ (Option.some.inj H).symm
    have H := he_11
    refine z_aload_n (M := M_X12_rowOfSegments) dX12_rowOfSegments_11 rfl ?_
    refine z_iload_n (M := M_X12_rowOfSegments) dX12_rowOfSegments_12 rfl ?_
    refine z_iload (M := M_X12_rowOfSegments) dX12_rowOfSegments_13 rfl ?_
    refine z_iadd (M := M_X12_rowOfSegments) dX12_rowOfSegments_15 ?_
    refine z_iload_n (M := M_X12_rowOfSegments) dX12_rowOfSegments_16 rfl ?_
    refine z_iload (M := M_X12_rowOfSegments) dX12_rowOfSegments_17 rfl ?_
    refine z_iadd (M := M_X12_rowOfSegments) dX12_rowOfSegments_19 ?_
    refine z_iconst (M := M_X12_rowOfSegments) dX12_rowOfSegments_20 ?_
    refine z_iadd (M := M_X12_rowOfSegments) dX12_rowOfSegments_21 ?_
    obtain ⟨x_16, hc_15, H⟩ := bd_e H
    refine z_callV (M := M_X12_rowOfSegments) (M' := M_X12_isSame) (as := [vi (from_0 + k_1), vi ((from_0 + k_1) + 1)]) (rest := []) rfl rfl dX12_rowOfSegments_22 m_X12_isSame t_3230 t_3232 s_226 (c_X12_isSame hl  hc_15) rfl rfl ly_277 rfl (Nat.le_of_ble_eq_true rfl) (Nat.le_of_ble_eq_true rfl) (Nat.le_of_ble_eq_true rfl) (Nat.le_of_ble_eq_true rfl) ?_
    refine z_st (st' := [zv x_16]) rfl ?_
    rcases if_e H with ⟨h_17, H⟩ | ⟨h_17, H⟩
    · refine z_zne_t (M := M_X12_rowOfSegments) (tgt := 46) dX12_rowOfSegments_25 (by decide) h_17 ?_
      exact J_24 _ (Option.some.inj H).symm
    · refine z_zne_f (M := M_X12_rowOfSegments) (tgt := 46) dX12_rowOfSegments_25 (by decide) h_17 ?_
      refine z_aload_n (M := M_X12_rowOfSegments) dX12_rowOfSegments_28 rfl ?_
      refine z_iload_n (M := M_X12_rowOfSegments) dX12_rowOfSegments_29 rfl ?_
      refine z_iload (M := M_X12_rowOfSegments) dX12_rowOfSegments_30 rfl ?_
      refine z_iadd (M := M_X12_rowOfSegments) dX12_rowOfSegments_32 ?_
      refine z_iload_n (M := M_X12_rowOfSegments) dX12_rowOfSegments_33 rfl ?_
      refine z_iload (M := M_X12_rowOfSegments) dX12_rowOfSegments_34 rfl ?_
      refine z_iadd (M := M_X12_rowOfSegments) dX12_rowOfSegments_36 ?_
      refine z_iconst (M := M_X12_rowOfSegments) dX12_rowOfSegments_37 ?_
      refine z_iadd (M := M_X12_rowOfSegments) dX12_rowOfSegments_38 ?_
      refine z_iconst (M := M_X12_rowOfSegments) dX12_rowOfSegments_39 ?_
      refine z_iload (M := M_X12_rowOfSegments) dX12_rowOfSegments_40 rfl ?_
      refine z_iload_n (M := M_X12_rowOfSegments) dX12_rowOfSegments_42 rfl ?_
      obtain ⟨σ_20, hc_19, H⟩ := bd_e H
      refine z_callV (M := M_X12_rowOfSegments) (M' := M_X12_segment) (as := [vi (from_0 + k_1), vi ((from_0 + k_1) + 1), vi 0, vi k_1, vi shape_0]) (rest := []) rfl rfl dX12_rowOfSegments_43 m_X12_segment t_3238 t_3240 s_228 (c_X12_segment hl  hc_19) rfl rfl ly_277 rfl (Nat.le_of_ble_eq_true rfl) (Nat.le_of_ble_eq_true rfl) (Nat.le_of_ble_eq_true rfl) (Nat.le_of_ble_eq_true rfl) ?_
      refine z_st (st' := []) rfl ?_
      exact J_24 _ (Option.some.inj H).symm
  · refine z_icmp_ge_t (M := M_X12_rowOfSegments) (tgt := 52) dX12_rowOfSegments_8 (by decide) rfl rfl (Int.not_lt.mp h_10) ?_
    exact J_55 _ _ (K_9 _ (Option.some.inj H).symm).symm
theorem c_X12_gatherShape (hl : l.stackTraces = false) {σ : SG} {slot_0 : Int} {shape_0 : Int} {σ' : SG}  (H : fR_gatherShape σ slot_0 shape_0 = some σ') : en_S l E M_X12_gatherShape 3 0 0 [vr 277, vi slot_0, vi shape_0] σ (pS (none) σ') := by
  unfold fR_gatherShape at H
  refine z_mk (lv := [some (vr 277), some (vi slot_0), some (vi shape_0), none, none, none, none, none, none, none]) m_X12_gatherShape rfl hl (Nat.le_of_ble_eq_true rfl) rfl ?_
  refine z_aload_n (M := M_X12_gatherShape) dX12_gatherShape_0 rfl ?_
  refine z_getI (M := M_X12_gatherShape) (ci := 15) (C := RX12) (T := TX12) (Nf := 135) (ty := tyX12) cl15 dX12_gatherShape_1 ly_277 48 (by decide) t_2439 rfl rfl ?_
  refine z_istore_n (M := M_X12_gatherShape) (lv' := [some (vr 277), some (vi slot_0), some (vi shape_0), some (vi (σ kR_segments 0)), none, none, none, none, none, none]) dX12_gatherShape_4 (Nat.le_of_ble_eq_true rfl) rfl rfl ?_
  refine z_aload_n (M := M_X12_gatherShape) dX12_gatherShape_5 rfl ?_
  refine z_getR (M := M_X12_gatherShape) (ci := 15) (C := RX12) (T := TX12) (Nf := 135) (ty := tyX12) cl15 dX12_gatherShape_6 ly_277 100 (by decide) t_2491 rfl ?_
  refine z_iload_n (M := M_X12_gatherShape) dX12_gatherShape_9 rfl ?_
  refine z_iload_n (M := M_X12_gatherShape) dX12_gatherShape_10 rfl ?_
  obtain ⟨σ_1, σ_1_e, hi_2, H⟩ := wa_e H
  refine z_iast (M := M_X12_gatherShape) dX12_gatherShape_11 ly_336 rfl rfl rfl hi_2 σ_1_e ?_
  refine z_aload_n (M := M_X12_gatherShape) dX12_gatherShape_12 rfl ?_
  refine z_getR (M := M_X12_gatherShape) (ci := 15) (C := RX12) (T := TX12) (Nf := 135) (ty := tyX12) cl15 dX12_gatherShape_13 ly_277 101 (by decide) t_2492 rfl ?_
  refine z_iload_n (M := M_X12_gatherShape) dX12_gatherShape_16 rfl ?_
  refine z_aload_n (M := M_X12_gatherShape) dX12_gatherShape_17 rfl ?_
  refine z_getR (M := M_X12_gatherShape) (ci := 15) (C := RX12) (T := TX12) (Nf := 135) (ty := tyX12) cl15 dX12_gatherShape_18 ly_277 10 (by decide) t_2401 rfl ?_
  refine z_sipush (M := M_X12_gatherShape) dX12_gatherShape_21 (by decide +kernel) ?_
  refine z_iload_n (M := M_X12_gatherShape) dX12_gatherShape_24 rfl ?_
  refine z_imul (M := M_X12_gatherShape) dX12_gatherShape_25 ?_
  obtain ⟨x_3, x_3_e, hi_4, H⟩ := rd_e H
  refine z_iald (M := M_X12_gatherShape) dX12_gatherShape_26 ly_281 rfl rfl rfl hi_4 x_3_e ?_
  refine z_callS (M := M_X12_gatherShape) (M' := M_X12_typeOfKind) (as := [vi x_3]) (rest := [vi shape_0, vr 337]) rfl rfl dX12_gatherShape_27 m_X12_typeOfKind t_3502 t_3503 (c_X12_typeOfKind hl  rfl) rfl rfl (Nat.le_of_ble_eq_true rfl) (Nat.le_of_ble_eq_true rfl) (Nat.le_of_ble_eq_true rfl) (Nat.le_of_ble_eq_true rfl) ?_
  refine z_st (st' := [vi (fR_typeOfKind x_3), vi shape_0, vr 337]) rfl ?_
  obtain ⟨σ_5, σ_5_e, hi_6, H⟩ := wa_e H
  refine z_iast (M := M_X12_gatherShape) dX12_gatherShape_30 ly_337 rfl rfl rfl hi_6 σ_5_e ?_
  refine z_aload_n (M := M_X12_gatherShape) dX12_gatherShape_31 rfl ?_
  refine z_getR (M := M_X12_gatherShape) (ci := 15) (C := RX12) (T := TX12) (Nf := 135) (ty := tyX12) cl15 dX12_gatherShape_32 ly_277 102 (by decide) t_2493 rfl ?_
  refine z_iload_n (M := M_X12_gatherShape) dX12_gatherShape_35 rfl ?_
  refine z_iconst (M := M_X12_gatherShape) dX12_gatherShape_36 ?_
  obtain ⟨σ_7, σ_7_e, hi_8, H⟩ := wa_e H
  refine z_iast (M := M_X12_gatherShape) dX12_gatherShape_37 ly_338 rfl rfl rfl hi_8 σ_7_e ?_
  refine z_aload_n (M := M_X12_gatherShape) dX12_gatherShape_38 rfl ?_
  refine z_getR (M := M_X12_gatherShape) (ci := 15) (C := RX12) (T := TX12) (Nf := 135) (ty := tyX12) cl15 dX12_gatherShape_39 ly_277 106 (by decide) t_2497 rfl ?_
  refine z_iload_n (M := M_X12_gatherShape) dX12_gatherShape_42 rfl ?_
  refine z_iconst (M := M_X12_gatherShape) dX12_gatherShape_43 ?_
  obtain ⟨σ_9, σ_9_e, hi_10, H⟩ := wa_e H
  refine z_iast (M := M_X12_gatherShape) dX12_gatherShape_44 ly_342 rfl rfl rfl hi_10 σ_9_e ?_
  refine z_aload_n (M := M_X12_gatherShape) dX12_gatherShape_45 rfl ?_
  refine z_getR (M := M_X12_gatherShape) (ci := 15) (C := RX12) (T := TX12) (Nf := 135) (ty := tyX12) cl15 dX12_gatherShape_46 ly_277 104 (by decide) t_2495 rfl ?_
  refine z_iload_n (M := M_X12_gatherShape) dX12_gatherShape_49 rfl ?_
  refine z_zconst (M := M_X12_gatherShape) (b := false) dX12_gatherShape_50 rfl ?_
  obtain ⟨σ_11, σ_11_e, hi_12, H⟩ := wa_e H
  refine z_zast (M := M_X12_gatherShape) dX12_gatherShape_51 ly_340 rfl rfl rfl hi_12 σ_11_e ?_
  refine z_sipush (M := M_X12_gatherShape) dX12_gatherShape_52 (by decide +kernel) ?_
  refine z_iload_n (M := M_X12_gatherShape) dX12_gatherShape_55 rfl ?_
  refine z_imul (M := M_X12_gatherShape) dX12_gatherShape_56 ?_
  refine z_istore (M := M_X12_gatherShape) (lv' := [some (vr 277), some (vi slot_0), some (vi shape_0), some (vi (σ kR_segments 0)), some (vi (2048 * slot_0)), none, none, none, none, none]) dX12_gatherShape_57 (Nat.le_of_ble_eq_true rfl) rfl rfl ?_
  refine z_iload (M := M_X12_gatherShape) dX12_gatherShape_59 rfl ?_
  refine z_aload_n (M := M_X12_gatherShape) dX12_gatherShape_61 rfl ?_
  refine z_getR (M := M_X12_gatherShape) (ci := 15) (C := RX12) (T := TX12) (Nf := 135) (ty := tyX12) cl15 dX12_gatherShape_62 ly_277 9 (by decide) t_2400 rfl ?_
  refine z_iload_n (M := M_X12_gatherShape) dX12_gatherShape_65 rfl ?_
  obtain ⟨x_13, x_13_e, hi_14, H⟩ := rd_e H
  refine z_iald (M := M_X12_gatherShape) dX12_gatherShape_66 ly_280 rfl rfl rfl hi_14 x_13_e ?_
  refine z_iadd (M := M_X12_gatherShape) dX12_gatherShape_67 ?_
  refine z_istore (M := M_X12_gatherShape) (lv' := [some (vr 277), some (vi slot_0), some (vi shape_0), some (vi (σ kR_segments 0)), some (vi (2048 * slot_0)), some (vi ((2048 * slot_0) + x_13)), none, none, none, none]) dX12_gatherShape_68 (Nat.le_of_ble_eq_true rfl) rfl rfl ?_
  refine z_sipush (M := M_X12_gatherShape) dX12_gatherShape_70 (by decide +kernel) ?_
  refine z_iload_n (M := M_X12_gatherShape) dX12_gatherShape_73 rfl ?_
  refine z_imul (M := M_X12_gatherShape) dX12_gatherShape_74 ?_
  refine z_istore (M := M_X12_gatherShape) (lv' := [some (vr 277), some (vi slot_0), some (vi shape_0), some (vi (σ kR_segments 0)), some (vi (2048 * slot_0)), some (vi ((2048 * slot_0) + x_13)), some (vi (2048 * slot_0)), none, none, none]) dX12_gatherShape_75 (Nat.le_of_ble_eq_true rfl) rfl rfl ?_
  obtain ⟨rl_21, hw_18, hk_19⟩ := bd_e H
  have J_91 : ∀ p_86 point_87 σ_88, rl_21 = (p_86, point_87, σ_88) → YY l E M_X12_gatherShape 3 0 0 (pS (none) σ') 224 [some (vr 277), some (vi slot_0), some (vi shape_0), some (vi (σ kR_segments 0)), some (vi p_86), some (vi ((2048 * slot_0) + x_13)), some (vi point_87), none, none, none] [] σ_88 0 0 := by
    intro p_86 point_87 σ_88 e
    have H := hk_19
    rw [e] at H
    refine z_aload_n (M := M_X12_gatherShape) dX12_gatherShape_224 rfl ?_
    refine z_getR (M := M_X12_gatherShape) (ci := 15) (C := RX12) (T := TX12) (Nf := 135) (ty := tyX12) cl15 dX12_gatherShape_225 ly_277 103 (by decide) t_2494 rfl ?_
    refine z_iload_n (M := M_X12_gatherShape) dX12_gatherShape_228 rfl ?_
    refine z_aload_n (M := M_X12_gatherShape) dX12_gatherShape_229 rfl ?_
    refine z_getI (M := M_X12_gatherShape) (ci := 15) (C := RX12) (T := TX12) (Nf := 135) (ty := tyX12) cl15 dX12_gatherShape_230 ly_277 48 (by decide) t_2439 rfl rfl ?_
    refine z_iload_n (M := M_X12_gatherShape) dX12_gatherShape_233 rfl ?_
    refine z_isub (M := M_X12_gatherShape) dX12_gatherShape_234 ?_
    obtain ⟨σ_89, σ_89_e, hi_90, H⟩ := wa_e H
    refine z_iast (M := M_X12_gatherShape) dX12_gatherShape_235 ly_339 rfl rfl rfl hi_90 σ_89_e ?_
    cases H
    exact z_vret (M := M_X12_gatherShape) dX12_gatherShape_236 rfl (Nat.le_of_ble_eq_true rfl) (Nat.le_of_ble_eq_true rfl) ⟨rfl, rfl⟩
  refine whl_go hw_18 (fun (p_15, point_16, σ_17) => YY l E M_X12_gatherShape 3 0 0 (pS (none) σ') 77 [some (vr 277), some (vi slot_0), some (vi shape_0), some (vi (σ kR_segments 0)), some (vi p_15), some (vi ((2048 * slot_0) + x_13)), some (vi point_16), none, none, none] [] σ_17 0 0) ?_
  rintro ⟨p_15, point_16, σ_17⟩ o_22 H K_23 K_24
  refine z_iload (M := M_X12_gatherShape) dX12_gatherShape_77 rfl ?_
  refine z_iload (M := M_X12_gatherShape) dX12_gatherShape_79 rfl ?_
  rcases if_e H with ⟨h_25, H⟩ | ⟨h_25, H⟩
  · refine z_icmp_ge_f (M := M_X12_gatherShape) (tgt := 224) dX12_gatherShape_81 (by decide) rfl rfl h_25 ?_
    refine z_aload_n (M := M_X12_gatherShape) dX12_gatherShape_84 rfl ?_
    refine z_getR (M := M_X12_gatherShape) (ci := 15) (C := RX12) (T := TX12) (Nf := 135) (ty := tyX12) cl15 dX12_gatherShape_85 ly_277 10 (by decide) t_2401 rfl ?_
    refine z_iload (M := M_X12_gatherShape) dX12_gatherShape_88 rfl ?_
    obtain ⟨x_26, x_26_e, hi_27, H⟩ := rd_e H
    refine z_iald (M := M_X12_gatherShape) dX12_gatherShape_90 ly_281 rfl rfl rfl hi_27 x_26_e ?_
    refine z_istore (M := M_X12_gatherShape) (lv' := [some (vr 277), some (vi slot_0), some (vi shape_0), some (vi (σ kR_segments 0)), some (vi p_15), some (vi ((2048 * slot_0) + x_13)), some (vi point_16), some (vi x_26), none, none]) dX12_gatherShape_91 (Nat.le_of_ble_eq_true rfl) rfl rfl ?_
    refine z_aload_n (M := M_X12_gatherShape) dX12_gatherShape_93 rfl ?_
    refine z_getR (M := M_X12_gatherShape) (ci := 15) (C := RX12) (T := TX12) (Nf := 135) (ty := tyX12) cl15 dX12_gatherShape_94 ly_277 10 (by decide) t_2401 rfl ?_
    refine z_iload (M := M_X12_gatherShape) dX12_gatherShape_97 rfl ?_
    refine z_iconst (M := M_X12_gatherShape) dX12_gatherShape_99 ?_
    refine z_iadd (M := M_X12_gatherShape) dX12_gatherShape_100 ?_
    obtain ⟨x_28, x_28_e, hi_29, H⟩ := rd_e H
    refine z_iald (M := M_X12_gatherShape) dX12_gatherShape_101 ly_281 rfl rfl rfl hi_29 x_28_e ?_
    refine z_istore (M := M_X12_gatherShape) (lv' := [some (vr 277), some (vi slot_0), some (vi shape_0), some (vi (σ kR_segments 0)), some (vi p_15), some (vi ((2048 * slot_0) + x_13)), some (vi point_16), some (vi x_26), some (vi x_28), none]) dX12_gatherShape_102 (Nat.le_of_ble_eq_true rfl) rfl rfl ?_
    refine z_iinc (M := M_X12_gatherShape) (lv' := [some (vr 277), some (vi slot_0), some (vi shape_0), some (vi (σ kR_segments 0)), some (vi (p_15 + 2)), some (vi ((2048 * slot_0) + x_13)), some (vi point_16), some (vi x_26), some (vi x_28), none]) dX12_gatherShape_104 rfl (Nat.le_of_ble_eq_true rfl) rfl rfl ?_
    obtain ⟨v_33, he_30, hk_31⟩ := bd_e H
    have J_84 : ∀ σ_45, v_33 = σ_45 → YY l E M_X12_gatherShape 3 0 0 (pS (none) σ') 142 [some (vr 277), some (vi slot_0), some (vi shape_0), some (vi (σ kR_segments 0)), some (vi (p_15 + 2)), some (vi ((2048 * slot_0) + x_13)), some (vi point_16), some (vi x_26), some (vi x_28), none] [] σ_45 0 0 := by
      intro σ_45 e
      have H := hk_31
      rw [e] at H
      refine z_iload (M := M_X12_gatherShape) dX12_gatherShape_142 rfl ?_
      have J_46 : YY l E M_X12_gatherShape 3 0 0 (pS (none) σ') 156 [some (vr 277), some (vi slot_0), some (vi shape_0), some (vi (σ kR_segments 0)), some (vi (p_15 + 2)), some (vi ((2048 * slot_0) + x_13)), some (vi point_16), some (vi x_26), some (vi x_28), none] [vi (if (w32 x_26) < 3 then x_28 else 0), vi point_16] σ_45 0 0 := by
        refine z_iadd (M := M_X12_gatherShape) dX12_gatherShape_156 ?_
        refine z_istore (M := M_X12_gatherShape) (lv' := [some (vr 277), some (vi slot_0), some (vi shape_0), some (vi (σ kR_segments 0)), some (vi (p_15 + 2)), some (vi ((2048 * slot_0) + x_13)), some (vi (point_16 + (if (w32 x_26) < 3 then x_28 else 0))), some (vi x_26), some (vi x_28), none]) dX12_gatherShape_157 (Nat.le_of_ble_eq_true rfl) rfl rfl ?_
        refine z_iconst (M := M_X12_gatherShape) dX12_gatherShape_159 ?_
        refine z_istore (M := M_X12_gatherShape) (lv' := [some (vr 277), some (vi slot_0), some (vi shape_0), some (vi (σ kR_segments 0)), some (vi (p_15 + 2)), some (vi ((2048 * slot_0) + x_13)), some (vi (point_16 + (if (w32 x_26) < 3 then x_28 else 0))), some (vi x_26), some (vi x_28), some (vi 0)]) dX12_gatherShape_160 (Nat.le_of_ble_eq_true rfl) rfl rfl ?_
        obtain ⟨rl_54, hw_51, hk_52⟩ := bd_e H
        have J_82 : ∀ p_77 point_78 k_79 σ_80, rl_54 = (p_77, point_78, k_79, σ_80) → YY l E M_X12_gatherShape 3 0 0 (pS (none) σ') 221 [some (vr 277), some (vi slot_0), some (vi shape_0), some (vi (σ kR_segments 0)), some (vi p_77), some (vi ((2048 * slot_0) + x_13)), some (vi point_78), some (vi x_26), some (vi x_28), some (vi k_79)] [] σ_80 0 0 := by
          intro p_77 point_78 k_79 σ_80 e
          have H := hk_52
          rw [e] at H
          refine z_goto (M := M_X12_gatherShape) (tgt := 77) dX12_gatherShape_221 (by decide) ?_
          refine z_le (lv' := [some (vr 277), some (vi slot_0), some (vi shape_0), some (vi (σ kR_segments 0)), some (vi p_77), some (vi ((2048 * slot_0) + x_13)), some (vi point_78), none, none, none]) ⟨Or.inr rfl, Or.inr rfl, Or.inr rfl, Or.inr rfl, Or.inr rfl, Or.inr rfl, Or.inr rfl, Or.inl rfl, Or.inl rfl, Or.inl rfl, trivial⟩ ?_
          exact K_23 _ (Option.some.inj H).symm
        refine whl_go hw_51 (fun (p_47, point_48, k_49, σ_50) => YY l E M_X12_gatherShape 3 0 0 (pS (none) σ') 162 [some (vr 277), some (vi slot_0), some (vi shape_0), some (vi (σ kR_segments 0)), some (vi p_47), some (vi ((2048 * slot_0) + x_13)), some (vi point_48), some (vi x_26), some (vi x_28), some (vi k_49)] [] σ_50 0 0) ?_
        rintro ⟨p_47, point_48, k_49, σ_50⟩ o_55 H K_56 K_57
        rcases if_e H with ⟨h_70, H⟩ | ⟨h_70, H⟩
        · have J_71 : YY l E M_X12_gatherShape 3 0 0 (pS (none) σ') 175 [some (vr 277), some (vi slot_0), some (vi shape_0), some (vi (σ kR_segments 0)), some (vi p_47), some (vi ((2048 * slot_0) + x_13)), some (vi point_48), some (vi x_26), some (vi x_28), some (vi k_49)] [] σ_50 0 0 := by
            refine z_aload_n (M := M_X12_gatherShape) dX12_gatherShape_175 rfl ?_
            refine z_getR (M := M_X12_gatherShape) (ci := 15) (C := RX12) (T := TX12) (Nf := 135) (ty := tyX12) cl15 dX12_gatherShape_176 ly_277 102 (by decide) t_2493 rfl ?_
            refine z_iload_n (M := M_X12_gatherShape) dX12_gatherShape_179 rfl ?_
            refine z_dup2 (M := M_X12_gatherShape) dX12_gatherShape_180 rfl rfl ?_
            obtain ⟨x_58, x_58_e, hi_59, H⟩ := rd_e H
            refine z_iald (M := M_X12_gatherShape) dX12_gatherShape_181 ly_338 rfl rfl rfl hi_59 x_58_e ?_
            refine z_iconst (M := M_X12_gatherShape) dX12_gatherShape_182 ?_
            refine z_iadd (M := M_X12_gatherShape) dX12_gatherShape_183 ?_
            obtain ⟨σ_60, σ_60_e, hi_61, H⟩ := wa_e H
            refine z_iast (M := M_X12_gatherShape) dX12_gatherShape_184 ly_338 rfl rfl rfl hi_61 σ_60_e ?_
            refine z_aload_n (M := M_X12_gatherShape) dX12_gatherShape_185 rfl ?_
            refine z_iload_n (M := M_X12_gatherShape) dX12_gatherShape_186 rfl ?_
            refine z_iload (M := M_X12_gatherShape) dX12_gatherShape_187 rfl ?_
            refine z_aload_n (M := M_X12_gatherShape) dX12_gatherShape_189 rfl ?_
            refine z_getR (M := M_X12_gatherShape) (ci := 15) (C := RX12) (T := TX12) (Nf := 135) (ty := tyX12) cl15 dX12_gatherShape_190 ly_277 10 (by decide) t_2401 rfl ?_
            refine z_iload (M := M_X12_gatherShape) dX12_gatherShape_193 rfl ?_
            obtain ⟨x_62, x_62_e, hi_63, H⟩ := rd_e H
            refine z_iald (M := M_X12_gatherShape) dX12_gatherShape_195 ly_281 rfl rfl rfl hi_63 x_62_e ?_
            refine z_zconst (M := M_X12_gatherShape) (b := true) dX12_gatherShape_196 rfl ?_
            obtain ⟨σ_65, hc_64, H⟩ := bd_e H
            refine z_callV (M := M_X12_gatherShape) (M' := M_X12_rowOfSegments) (as := [vi shape_0, vi point_48, vi x_62, zv true]) (rest := []) rfl rfl dX12_gatherShape_197 m_X12_rowOfSegments t_3509 t_3511 s_284 (c_X12_rowOfSegments hl  hc_64) rfl rfl ly_277 rfl (Nat.le_of_ble_eq_true rfl) (Nat.le_of_ble_eq_true rfl) (Nat.le_of_ble_eq_true rfl) (Nat.le_of_ble_eq_true rfl) ?_
            refine z_st (st' := []) rfl ?_
            refine z_iload (M := M_X12_gatherShape) dX12_gatherShape_200 rfl ?_
            refine z_aload_n (M := M_X12_gatherShape) dX12_gatherShape_202 rfl ?_
            refine z_getR (M := M_X12_gatherShape) (ci := 15) (C := RX12) (T := TX12) (Nf := 135) (ty := tyX12) cl15 dX12_gatherShape_203 ly_277 10 (by decide) t_2401 rfl ?_
            refine z_iload (M := M_X12_gatherShape) dX12_gatherShape_206 rfl ?_
            obtain ⟨x_66, x_66_e, hi_67, H⟩ := rd_e H
            refine z_iald (M := M_X12_gatherShape) dX12_gatherShape_208 ly_281 rfl rfl rfl hi_67 x_66_e ?_
            refine z_iadd (M := M_X12_gatherShape) dX12_gatherShape_209 ?_
            refine z_istore (M := M_X12_gatherShape) (lv' := [some (vr 277), some (vi slot_0), some (vi shape_0), some (vi (σ kR_segments 0)), some (vi p_47), some (vi ((2048 * slot_0) + x_13)), some (vi (point_48 + x_66)), some (vi x_26), some (vi x_28), some (vi k_49)]) dX12_gatherShape_210 (Nat.le_of_ble_eq_true rfl) rfl rfl ?_
            refine z_iinc (M := M_X12_gatherShape) (lv' := [some (vr 277), some (vi slot_0), some (vi shape_0), some (vi (σ kR_segments 0)), some (vi (p_47 + 1)), some (vi ((2048 * slot_0) + x_13)), some (vi (point_48 + x_66)), some (vi x_26), some (vi x_28), some (vi k_49)]) dX12_gatherShape_212 rfl (Nat.le_of_ble_eq_true rfl) rfl rfl ?_
            refine z_iinc (M := M_X12_gatherShape) (lv' := [some (vr 277), some (vi slot_0), some (vi shape_0), some (vi (σ kR_segments 0)), some (vi (p_47 + 1)), some (vi ((2048 * slot_0) + x_13)), some (vi (point_48 + x_66)), some (vi x_26), some (vi x_28), some (vi (k_49 + 1))]) dX12_gatherShape_215 rfl (Nat.le_of_ble_eq_true rfl) rfl rfl ?_
            refine z_goto (M := M_X12_gatherShape) (tgt := 162) dX12_gatherShape_218 (by decide) ?_
            exact K_56 _ (Option.some.inj H).symm
          refine z_iload (M := M_X12_gatherShape) dX12_gatherShape_162 rfl ?_
          refine z_iconst (M := M_X12_gatherShape) dX12_gatherShape_164 ?_
          by_cases h_73 : (w32 x_26) = 3
          · refine z_icmp_ne_f (M := M_X12_gatherShape) (tgt := 221) dX12_gatherShape_165 (by decide) rfl (by decide +kernel) h_73 ?_
            refine z_iload (M := M_X12_gatherShape) dX12_gatherShape_168 rfl ?_
            refine z_iload (M := M_X12_gatherShape) dX12_gatherShape_170 rfl ?_
            by_cases h_74 : (w32 k_49) < (w32 x_28)
            · refine z_icmp_ge_f (M := M_X12_gatherShape) (tgt := 221) dX12_gatherShape_172 (by decide) rfl rfl h_74 ?_
              exact J_71
            · refine z_icmp_ge_t (M := M_X12_gatherShape) (tgt := 221) dX12_gatherShape_172 (by decide) rfl rfl (Int.not_lt.mp h_74) ?_
              exact absurd h_70 (fun q => h_74 q.2)
          · refine z_icmp_ne_t (M := M_X12_gatherShape) (tgt := 221) dX12_gatherShape_165 (by decide) rfl (by decide +kernel) h_73 ?_
            exact absurd h_70 (fun q => h_73 q.1)
        · have J_72 : YY l E M_X12_gatherShape 3 0 0 (pS (none) σ') 221 [some (vr 277), some (vi slot_0), some (vi shape_0), some (vi (σ kR_segments 0)), some (vi p_47), some (vi ((2048 * slot_0) + x_13)), some (vi point_48), some (vi x_26), some (vi x_28), some (vi k_49)] [] σ_50 0 0 := by
            exact J_82 _ _ _ _ (K_57 _ (Option.some.inj H).symm).symm
          refine z_iload (M := M_X12_gatherShape) dX12_gatherShape_162 rfl ?_
          refine z_iconst (M := M_X12_gatherShape) dX12_gatherShape_164 ?_
          by_cases h_75 : (w32 x_26) = 3
          · refine z_icmp_ne_f (M := M_X12_gatherShape) (tgt := 221) dX12_gatherShape_165 (by decide) rfl (by decide +kernel) h_75 ?_
            refine z_iload (M := M_X12_gatherShape) dX12_gatherShape_168 rfl ?_
            refine z_iload (M := M_X12_gatherShape) dX12_gatherShape_170 rfl ?_
            by_cases h_76 : (w32 k_49) < (w32 x_28)
            · refine z_icmp_ge_f (M := M_X12_gatherShape) (tgt := 221) dX12_gatherShape_172 (by decide) rfl rfl h_76 ?_
              exact absurd ⟨h_75, h_76⟩ h_70
            · refine z_icmp_ge_t (M := M_X12_gatherShape) (tgt := 221) dX12_gatherShape_172 (by decide) rfl rfl (Int.not_lt.mp h_76) ?_
              exact J_72
          · refine z_icmp_ne_t (M := M_X12_gatherShape) (tgt := 221) dX12_gatherShape_165 (by decide) rfl (by decide +kernel) h_75 ?_
            exact J_72
      refine z_iload (M := M_X12_gatherShape) dX12_gatherShape_144 rfl ?_
      refine z_iconst (M := M_X12_gatherShape) dX12_gatherShape_146 ?_
      by_cases h_83 : (w32 x_26) < 3
      · refine z_icmp_ge_f (M := M_X12_gatherShape) (tgt := 155) dX12_gatherShape_147 (by decide) rfl (by decide +kernel) h_83 ?_
        refine z_iload (M := M_X12_gatherShape) dX12_gatherShape_150 rfl ?_
        refine z_goto (M := M_X12_gatherShape) (tgt := 156) dX12_gatherShape_152 (by decide) ?_
        exact z_st (by rw [if_pos (c := (w32 x_26) < 3) h_83]) J_46
      · refine z_icmp_ge_t (M := M_X12_gatherShape) (tgt := 155) dX12_gatherShape_147 (by decide) rfl (by decide +kernel) (Int.not_lt.mp h_83) ?_
        refine z_iconst (M := M_X12_gatherShape) dX12_gatherShape_155 ?_
        exact z_st (by rw [if_neg (c := (w32 x_26) < 3) h_83]) J_46
    have H := he_30
    refine z_iload (M := M_X12_gatherShape) dX12_gatherShape_107 rfl ?_
    refine z_iconst (M := M_X12_gatherShape) dX12_gatherShape_109 ?_
    rcases if_e H with ⟨h_34, H⟩ | ⟨h_34, H⟩
    · refine z_icmp_ne_f (M := M_X12_gatherShape) (tgt := 142) dX12_gatherShape_110 (by decide) rfl (by decide +kernel) h_34 ?_
      refine z_aload_n (M := M_X12_gatherShape) dX12_gatherShape_113 rfl ?_
      refine z_getR (M := M_X12_gatherShape) (ci := 15) (C := RX12) (T := TX12) (Nf := 135) (ty := tyX12) cl15 dX12_gatherShape_114 ly_277 102 (by decide) t_2493 rfl ?_
      refine z_iload_n (M := M_X12_gatherShape) dX12_gatherShape_117 rfl ?_
      refine z_dup2 (M := M_X12_gatherShape) dX12_gatherShape_118 rfl rfl ?_
      obtain ⟨x_35, x_35_e, hi_36, H⟩ := rd_e H
      refine z_iald (M := M_X12_gatherShape) dX12_gatherShape_119 ly_338 rfl rfl rfl hi_36 x_35_e ?_
      refine z_iconst (M := M_X12_gatherShape) dX12_gatherShape_120 ?_
      refine z_iadd (M := M_X12_gatherShape) dX12_gatherShape_121 ?_
      obtain ⟨σ_37, σ_37_e, hi_38, H⟩ := wa_e H
      refine z_iast (M := M_X12_gatherShape) dX12_gatherShape_122 ly_338 rfl rfl rfl hi_38 σ_37_e ?_
      refine z_aload_n (M := M_X12_gatherShape) dX12_gatherShape_123 rfl ?_
      refine z_iload_n (M := M_X12_gatherShape) dX12_gatherShape_124 rfl ?_
      refine z_iload (M := M_X12_gatherShape) dX12_gatherShape_125 rfl ?_
      refine z_iload (M := M_X12_gatherShape) dX12_gatherShape_127 rfl ?_
      obtain ⟨σ_40, hc_39, H⟩ := bd_e H
      refine z_callV (M := M_X12_gatherShape) (M' := M_X12_lineEnds) (as := [vi shape_0, vi point_16, vi x_28]) (rest := []) rfl rfl dX12_gatherShape_129 m_X12_lineEnds t_3505 t_3507 s_283 (c_X12_lineEnds hl  hc_39) rfl rfl ly_277 rfl (Nat.le_of_ble_eq_true rfl) (Nat.le_of_ble_eq_true rfl) (Nat.le_of_ble_eq_true rfl) (Nat.le_of_ble_eq_true rfl) ?_
      refine z_st (st' := []) rfl ?_
      refine z_aload_n (M := M_X12_gatherShape) dX12_gatherShape_132 rfl ?_
      refine z_iload_n (M := M_X12_gatherShape) dX12_gatherShape_133 rfl ?_
      refine z_iload (M := M_X12_gatherShape) dX12_gatherShape_134 rfl ?_
      refine z_iload (M := M_X12_gatherShape) dX12_gatherShape_136 rfl ?_
      refine z_zconst (M := M_X12_gatherShape) (b := false) dX12_gatherShape_138 rfl ?_
      obtain ⟨σ_42, hc_41, H⟩ := bd_e H
      refine z_callV (M := M_X12_gatherShape) (M' := M_X12_rowOfSegments) (as := [vi shape_0, vi point_16, vi x_28, zv false]) (rest := []) rfl rfl dX12_gatherShape_139 m_X12_rowOfSegments t_3509 t_3511 s_284 (c_X12_rowOfSegments hl  hc_41) rfl rfl ly_277 rfl (Nat.le_of_ble_eq_true rfl) (Nat.le_of_ble_eq_true rfl) (Nat.le_of_ble_eq_true rfl) (Nat.le_of_ble_eq_true rfl) ?_
      refine z_st (st' := []) rfl ?_
      exact J_84 _ (Option.some.inj H).symm
    · refine z_icmp_ne_t (M := M_X12_gatherShape) (tgt := 142) dX12_gatherShape_110 (by decide) rfl (by decide +kernel) h_34 ?_
      exact J_84 _ (Option.some.inj H).symm
  · refine z_icmp_ge_t (M := M_X12_gatherShape) (tgt := 224) dX12_gatherShape_81 (by decide) rfl rfl (Int.not_lt.mp h_25) ?_
    exact J_91 _ _ _ (K_24 _ (Option.some.inj H).symm).symm
theorem c_X12_linear (hl : l.stackTraces = false) {σ : SG} {a_0 : Int} {b_0 : Int} {r : Int} {σ' : SG}  (H : fR_linear σ a_0 b_0 = some (r, σ')) : en_S l E M_X12_linear 4 0 0 [vr 277, vl a_0, vl b_0] σ (pS (some (vi r)) σ') := by
  unfold fR_linear at H
  refine z_mk (lv := [some (vr 277), some (vl a_0), none, some (vl b_0), none]) m_X12_linear rfl hl (Nat.le_of_ble_eq_true rfl) rfl ?_
  refine z_lload_n (M := M_X12_linear) dX12_linear_0 rfl ?_
  refine z_lconst (M := M_X12_linear) (m := 0) dX12_linear_1 (by decide +kernel) ?_
  refine z_lcmp (M := M_X12_linear) dX12_linear_2 ?_
  rcases if_e H with ⟨h_8, H⟩ | ⟨h_8, H⟩
  · refine z_lif_eq_t (M := M_X12_linear) (tgt := 15) dX12_linear_3 (by decide) rfl (by decide +kernel) h_8 ?_
    refine z_lload_n (M := M_X12_linear) dX12_linear_15 rfl ?_
    refine z_callS (M := M_X12_linear) (M' := M_X12_signOf) (as := [vl a_0]) (rest := []) rfl rfl dX12_linear_16 m_X12_signOf t_3268 t_3269 (c_X12_signOf hl  rfl) rfl rfl (Nat.le_of_ble_eq_true rfl) (Nat.le_of_ble_eq_true rfl) (Nat.le_of_ble_eq_true rfl) (Nat.le_of_ble_eq_true rfl) ?_
    refine z_st (st' := [vi (fR_signOf a_0)]) rfl ?_
    cases H
    exact z_iret (M := M_X12_linear) dX12_linear_19 rfl (Nat.le_of_ble_eq_true rfl) (Nat.le_of_ble_eq_true rfl) ⟨rfl, rfl⟩
  · refine z_lif_eq_f (M := M_X12_linear) (tgt := 15) dX12_linear_3 (by decide) rfl (by decide +kernel) h_8 ?_
    refine z_aload_n (M := M_X12_linear) dX12_linear_6 rfl ?_
    refine z_getR (M := M_X12_linear) (ci := 15) (C := RX12) (T := TX12) (Nf := 135) (ty := tyX12) cl15 dX12_linear_7 ly_277 37 (by decide) t_2428 rfl ?_
    refine z_iconst (M := M_X12_linear) dX12_linear_10 ?_
    obtain ⟨x_9, x_9_e, hi_10, H⟩ := rd_e H
    refine z_iald (M := M_X12_linear) dX12_linear_11 ly_295 rfl (by decide +kernel) rfl hi_10 x_9_e ?_
    rcases if_e H with ⟨h_11, H⟩ | ⟨h_11, H⟩
    · refine z_if_ne_f (M := M_X12_linear) (tgt := 20) dX12_linear_12 (by decide) rfl h_11 ?_
      refine z_lload_n (M := M_X12_linear) dX12_linear_15 rfl ?_
      refine z_callS (M := M_X12_linear) (M' := M_X12_signOf) (as := [vl a_0]) (rest := []) rfl rfl dX12_linear_16 m_X12_signOf t_3268 t_3269 (c_X12_signOf hl  rfl) rfl rfl (Nat.le_of_ble_eq_true rfl) (Nat.le_of_ble_eq_true rfl) (Nat.le_of_ble_eq_true rfl) (Nat.le_of_ble_eq_true rfl) ?_
      refine z_st (st' := [vi (fR_signOf a_0)]) rfl ?_
      cases H
      exact z_iret (M := M_X12_linear) dX12_linear_19 rfl (Nat.le_of_ble_eq_true rfl) (Nat.le_of_ble_eq_true rfl) ⟨rfl, rfl⟩
    · refine z_if_ne_t (M := M_X12_linear) (tgt := 20) dX12_linear_12 (by decide) rfl h_11 ?_
      refine z_aload_n (M := M_X12_linear) dX12_linear_20 rfl ?_
      refine z_iconst (M := M_X12_linear) dX12_linear_21 ?_
      refine z_lload_n (M := M_X12_linear) dX12_linear_22 rfl ?_
      obtain ⟨σ_13, hc_12, H⟩ := bd_e H
      refine z_callV (M := M_X12_linear) (M' := M_X12_set) (as := [vi 2, vl a_0]) (rest := []) rfl rfl dX12_linear_23 m_X12_set t_3210 t_3212 s_222 (c_X12_set hl  hc_12) rfl rfl ly_277 rfl (Nat.le_of_ble_eq_true rfl) (Nat.le_of_ble_eq_true rfl) (Nat.le_of_ble_eq_true rfl) (Nat.le_of_ble_eq_true rfl) ?_
      refine z_st (st' := []) rfl ?_
      refine z_aload_n (M := M_X12_linear) dX12_linear_26 rfl ?_
      refine z_iconst (M := M_X12_linear) dX12_linear_27 ?_
      refine z_iconst (M := M_X12_linear) dX12_linear_28 ?_
      refine z_iconst (M := M_X12_linear) dX12_linear_29 ?_
      obtain ⟨σ_15, hc_14, H⟩ := bd_e H
      refine z_callV (M := M_X12_linear) (M' := M_X12_times) (as := [vi 3, vi 2, vi 1]) (rest := []) rfl rfl dX12_linear_30 m_X12_times t_3194 t_3196 s_219 (c_X12_times hl  hc_14) rfl rfl ly_277 rfl (Nat.le_of_ble_eq_true rfl) (Nat.le_of_ble_eq_true rfl) (Nat.le_of_ble_eq_true rfl) (Nat.le_of_ble_eq_true rfl) ?_
      refine z_st (st' := []) rfl ?_
      refine z_aload_n (M := M_X12_linear) dX12_linear_33 rfl ?_
      refine z_iconst (M := M_X12_linear) dX12_linear_34 ?_
      refine z_lload_n (M := M_X12_linear) dX12_linear_35 rfl ?_
      obtain ⟨σ_17, hc_16, H⟩ := bd_e H
      refine z_callV (M := M_X12_linear) (M' := M_X12_set) (as := [vi 4, vl b_0]) (rest := []) rfl rfl dX12_linear_36 m_X12_set t_3210 t_3212 s_222 (c_X12_set hl  hc_16) rfl rfl ly_277 rfl (Nat.le_of_ble_eq_true rfl) (Nat.le_of_ble_eq_true rfl) (Nat.le_of_ble_eq_true rfl) (Nat.le_of_ble_eq_true rfl) ?_
      refine z_st (st' := []) rfl ?_
      refine z_aload_n (M := M_X12_linear) dX12_linear_39 rfl ?_
      refine z_iconst (M := M_X12_linear) dX12_linear_40 ?_
      refine z_iconst (M := M_X12_linear) dX12_linear_41 ?_
      refine z_iconst (M := M_X12_linear) dX12_linear_42 ?_
      obtain ⟨σ_19, hc_18, H⟩ := bd_e H
      refine z_callV (M := M_X12_linear) (M' := M_X12_times) (as := [vi 5, vi 4, vi 0]) (rest := []) rfl rfl dX12_linear_43 m_X12_times t_3194 t_3196 s_219 (c_X12_times hl  hc_18) rfl rfl ly_277 rfl (Nat.le_of_ble_eq_true rfl) (Nat.le_of_ble_eq_true rfl) (Nat.le_of_ble_eq_true rfl) (Nat.le_of_ble_eq_true rfl) ?_
      refine z_st (st' := []) rfl ?_
      refine z_aload_n (M := M_X12_linear) dX12_linear_46 rfl ?_
      refine z_bipush (M := M_X12_linear) dX12_linear_47 (by decide +kernel) ?_
      refine z_iconst (M := M_X12_linear) dX12_linear_49 ?_
      refine z_iconst (M := M_X12_linear) dX12_linear_50 ?_
      refine z_zconst (M := M_X12_linear) (b := false) dX12_linear_51 rfl ?_
      obtain ⟨σ_21, hc_20, H⟩ := bd_e H
      refine z_callV (M := M_X12_linear) (M' := M_X12_add) (as := [vi 6, vi 3, vi 5, zv false]) (rest := []) rfl rfl dX12_linear_52 m_X12_add t_3174 t_3176 s_214 (c_X12_add hl  hc_20) rfl rfl ly_277 rfl (Nat.le_of_ble_eq_true rfl) (Nat.le_of_ble_eq_true rfl) (Nat.le_of_ble_eq_true rfl) (Nat.le_of_ble_eq_true rfl) ?_
      refine z_st (st' := []) rfl ?_
      refine z_aload_n (M := M_X12_linear) dX12_linear_55 rfl ?_
      refine z_getR (M := M_X12_linear) (ci := 15) (C := RX12) (T := TX12) (Nf := 135) (ty := tyX12) cl15 dX12_linear_56 ly_277 38 (by decide) t_2429 rfl ?_
      refine z_bipush (M := M_X12_linear) dX12_linear_59 (by decide +kernel) ?_
      obtain ⟨x_22, x_22_e, hi_23, H⟩ := rd_e H
      refine z_iald (M := M_X12_linear) dX12_linear_61 ly_296 rfl (by decide +kernel) rfl hi_23 x_22_e ?_
      cases H
      exact z_iret (M := M_X12_linear) dX12_linear_62 rfl (Nat.le_of_ble_eq_true rfl) (Nat.le_of_ble_eq_true rfl) ⟨rfl, rfl⟩
theorem c_X12_besideX (hl : l.stackTraces = false) {σ : SG} {x_0 : Int} {r : Int} {σ' : SG}  (H : fR_besideX σ x_0 = some (r, σ')) : en_S l E M_X12_besideX 5 0 0 [vr 277, vl x_0] σ (pS (some (vi r)) σ') := by
  unfold fR_besideX at H
  refine z_mk (lv := [some (vr 277), some (vl x_0), none]) m_X12_besideX rfl hl (Nat.le_of_ble_eq_true rfl) rfl ?_
  refine z_aload_n (M := M_X12_besideX) dX12_besideX_0 rfl ?_
  refine z_aload_n (M := M_X12_besideX) dX12_besideX_1 rfl ?_
  refine z_getL (M := M_X12_besideX) (ci := 15) (C := RX12) (T := TX12) (Nf := 135) (ty := tyX12) cl15 dX12_besideX_2 ly_277 108 (by decide) t_2499 rfl rfl ?_
  refine z_lload_n (M := M_X12_besideX) dX12_besideX_5 rfl ?_
  refine z_lsub (M := M_X12_besideX) dX12_besideX_6 ?_
  refine z_aload_n (M := M_X12_besideX) dX12_besideX_7 rfl ?_
  refine z_getL (M := M_X12_besideX) (ci := 15) (C := RX12) (T := TX12) (Nf := 135) (ty := tyX12) cl15 dX12_besideX_8 ly_277 110 (by decide) t_2501 rfl rfl ?_
  obtain ⟨⟨x_3, σ_2⟩, hc_1, H⟩ := bd_e H
  refine z_callV (M := M_X12_besideX) (M' := M_X12_linear) (as := [vl ((σ kR_baseX 0) - x_0), vl (σ kR_wayX 0)]) (rest := []) rfl rfl dX12_besideX_11 m_X12_linear t_3552 t_3554 s_294 (c_X12_linear hl  hc_1) rfl rfl ly_277 rfl (Nat.le_of_ble_eq_true rfl) (Nat.le_of_ble_eq_true rfl) (Nat.le_of_ble_eq_true rfl) (Nat.le_of_ble_eq_true rfl) ?_
  refine z_st (st' := [vi x_3]) rfl ?_
  cases H
  exact z_iret (M := M_X12_besideX) dX12_besideX_14 rfl (Nat.le_of_ble_eq_true rfl) (Nat.le_of_ble_eq_true rfl) ⟨rfl, rfl⟩
theorem c_X12_besideY (hl : l.stackTraces = false) {σ : SG} {y_0 : Int} {r : Int} {σ' : SG}  (H : fR_besideY σ y_0 = some (r, σ')) : en_S l E M_X12_besideY 5 0 0 [vr 277, vl y_0] σ (pS (some (vi r)) σ') := by
  unfold fR_besideY at H
  refine z_mk (lv := [some (vr 277), some (vl y_0), none]) m_X12_besideY rfl hl (Nat.le_of_ble_eq_true rfl) rfl ?_
  refine z_aload_n (M := M_X12_besideY) dX12_besideY_0 rfl ?_
  refine z_aload_n (M := M_X12_besideY) dX12_besideY_1 rfl ?_
  refine z_getL (M := M_X12_besideY) (ci := 15) (C := RX12) (T := TX12) (Nf := 135) (ty := tyX12) cl15 dX12_besideY_2 ly_277 109 (by decide) t_2500 rfl rfl ?_
  refine z_lload_n (M := M_X12_besideY) dX12_besideY_5 rfl ?_
  refine z_lsub (M := M_X12_besideY) dX12_besideY_6 ?_
  refine z_aload_n (M := M_X12_besideY) dX12_besideY_7 rfl ?_
  refine z_getL (M := M_X12_besideY) (ci := 15) (C := RX12) (T := TX12) (Nf := 135) (ty := tyX12) cl15 dX12_besideY_8 ly_277 111 (by decide) t_2502 rfl rfl ?_
  obtain ⟨⟨x_3, σ_2⟩, hc_1, H⟩ := bd_e H
  refine z_callV (M := M_X12_besideY) (M' := M_X12_linear) (as := [vl ((σ kR_baseY 0) - y_0), vl (σ kR_wayY 0)]) (rest := []) rfl rfl dX12_besideY_11 m_X12_linear t_3552 t_3554 s_294 (c_X12_linear hl  hc_1) rfl rfl ly_277 rfl (Nat.le_of_ble_eq_true rfl) (Nat.le_of_ble_eq_true rfl) (Nat.le_of_ble_eq_true rfl) (Nat.le_of_ble_eq_true rfl) ?_
  refine z_st (st' := [vi x_3]) rfl ?_
  cases H
  exact z_iret (M := M_X12_besideY) dX12_besideY_14 rfl (Nat.le_of_ble_eq_true rfl) (Nat.le_of_ble_eq_true rfl) ⟨rfl, rfl⟩
theorem c_X12_sideOf (hl : l.stackTraces = false) {σ : SG} {ax_0 : Int} {ay_0 : Int} {bx_0 : Int} {by_0 : Int} {r : Int} {σ' : SG}  (H : fR_sideOf σ ax_0 ay_0 bx_0 by_0 = some (r, σ')) : en_S l E M_X12_sideOf 5 0 0 [vr 277, vl ax_0, vl ay_0, vl bx_0, vl by_0] σ (pS (some (vi r)) σ') := by
  unfold fR_sideOf at H
  refine z_mk (lv := [some (vr 277), some (vl ax_0), none, some (vl ay_0), none, some (vl bx_0), none, some (vl by_0), none, none, none]) m_X12_sideOf rfl hl (Nat.le_of_ble_eq_true rfl) rfl ?_
  refine z_lload (M := M_X12_sideOf) dX12_sideOf_0 rfl ?_
  refine z_lload_n (M := M_X12_sideOf) dX12_sideOf_2 rfl ?_
  refine z_lsub (M := M_X12_sideOf) dX12_sideOf_3 ?_
  refine z_lload (M := M_X12_sideOf) dX12_sideOf_4 rfl ?_
  refine z_lload_n (M := M_X12_sideOf) dX12_sideOf_6 rfl ?_
  refine z_lsub (M := M_X12_sideOf) dX12_sideOf_7 ?_
  refine z_aload_n (M := M_X12_sideOf) dX12_sideOf_8 rfl ?_
  refine z_getL (M := M_X12_sideOf) (ci := 15) (C := RX12) (T := TX12) (Nf := 135) (ty := tyX12) cl15 dX12_sideOf_9 ly_277 108 (by decide) t_2499 rfl rfl ?_
  refine z_lload_n (M := M_X12_sideOf) dX12_sideOf_12 rfl ?_
  refine z_lsub (M := M_X12_sideOf) dX12_sideOf_13 ?_
  refine z_aload_n (M := M_X12_sideOf) dX12_sideOf_14 rfl ?_
  refine z_getL (M := M_X12_sideOf) (ci := 15) (C := RX12) (T := TX12) (Nf := 135) (ty := tyX12) cl15 dX12_sideOf_15 ly_277 109 (by decide) t_2500 rfl rfl ?_
  refine z_lload_n (M := M_X12_sideOf) dX12_sideOf_18 rfl ?_
  refine z_lsub (M := M_X12_sideOf) dX12_sideOf_19 ?_
  refine z_callS (M := M_X12_sideOf) (M' := M_X12_cross) (as := [vl (bx_0 - ax_0), vl (by_0 - ay_0), vl ((σ kR_baseX 0) - ax_0), vl ((σ kR_baseY 0) - ay_0)]) (rest := []) rfl rfl dX12_sideOf_20 m_X12_cross t_3265 t_3266 (c_X12_cross hl  rfl) rfl rfl (Nat.le_of_ble_eq_true rfl) (Nat.le_of_ble_eq_true rfl) (Nat.le_of_ble_eq_true rfl) (Nat.le_of_ble_eq_true rfl) ?_
  refine z_st (st' := [vl (fR_cross (bx_0 - ax_0) (by_0 - ay_0) ((σ kR_baseX 0) - ax_0) ((σ kR_baseY 0) - ay_0))]) rfl ?_
  obtain ⟨x_1, x_1_e, H⟩ := lt_e H
  refine z_st (congrArg (fun z => vl z :: []) x_1_e) ?_
  refine z_lstore (M := M_X12_sideOf) (lv' := [some (vr 277), some (vl ax_0), none, some (vl ay_0), none, some (vl bx_0), none, some (vl by_0), none, some (vl x_1), none]) dX12_sideOf_23 (Nat.le_of_ble_eq_true rfl) rfl rfl ?_
  refine z_aload_n (M := M_X12_sideOf) dX12_sideOf_25 rfl ?_
  refine z_lload (M := M_X12_sideOf) dX12_sideOf_26 rfl ?_
  refine z_lload (M := M_X12_sideOf) dX12_sideOf_28 rfl ?_
  refine z_lload_n (M := M_X12_sideOf) dX12_sideOf_30 rfl ?_
  refine z_lsub (M := M_X12_sideOf) dX12_sideOf_31 ?_
  refine z_lload (M := M_X12_sideOf) dX12_sideOf_32 rfl ?_
  refine z_lload_n (M := M_X12_sideOf) dX12_sideOf_34 rfl ?_
  refine z_lsub (M := M_X12_sideOf) dX12_sideOf_35 ?_
  refine z_aload_n (M := M_X12_sideOf) dX12_sideOf_36 rfl ?_
  refine z_getL (M := M_X12_sideOf) (ci := 15) (C := RX12) (T := TX12) (Nf := 135) (ty := tyX12) cl15 dX12_sideOf_37 ly_277 110 (by decide) t_2501 rfl rfl ?_
  refine z_aload_n (M := M_X12_sideOf) dX12_sideOf_40 rfl ?_
  refine z_getL (M := M_X12_sideOf) (ci := 15) (C := RX12) (T := TX12) (Nf := 135) (ty := tyX12) cl15 dX12_sideOf_41 ly_277 111 (by decide) t_2502 rfl rfl ?_
  refine z_callS (M := M_X12_sideOf) (M' := M_X12_cross) (as := [vl (bx_0 - ax_0), vl (by_0 - ay_0), vl (σ kR_wayX 0), vl (σ kR_wayY 0)]) (rest := [vl x_1, vr 277]) rfl rfl dX12_sideOf_44 m_X12_cross t_3265 t_3266 (c_X12_cross hl  rfl) rfl rfl (Nat.le_of_ble_eq_true rfl) (Nat.le_of_ble_eq_true rfl) (Nat.le_of_ble_eq_true rfl) (Nat.le_of_ble_eq_true rfl) ?_
  refine z_st (st' := [vl (fR_cross (bx_0 - ax_0) (by_0 - ay_0) (σ kR_wayX 0) (σ kR_wayY 0)), vl x_1, vr 277]) rfl ?_
  obtain ⟨⟨x_4, σ_3⟩, hc_2, H⟩ := bd_e H
  refine z_callV (M := M_X12_sideOf) (M' := M_X12_linear) (as := [vl x_1, vl (fR_cross (bx_0 - ax_0) (by_0 - ay_0) (σ kR_wayX 0) (σ kR_wayY 0))]) (rest := []) rfl rfl dX12_sideOf_47 m_X12_linear t_3552 t_3554 s_294 (c_X12_linear hl  hc_2) rfl rfl ly_277 rfl (Nat.le_of_ble_eq_true rfl) (Nat.le_of_ble_eq_true rfl) (Nat.le_of_ble_eq_true rfl) (Nat.le_of_ble_eq_true rfl) ?_
  refine z_st (st' := [vi x_4]) rfl ?_
  cases H
  exact z_iret (M := M_X12_sideOf) dX12_sideOf_50 rfl (Nat.le_of_ble_eq_true rfl) (Nat.le_of_ble_eq_true rfl) ⟨rfl, rfl⟩
theorem c_X12_isHereOn (hl : l.stackTraces = false) {σ : SG} {i_0 : Int} {r : Bool} {σ' : SG}  (H : fR_isHereOn σ i_0 = some (r, σ')) : en_S l E M_X12_isHereOn 6 0 0 [vr 277, vi i_0] σ (pS (some (zv r)) σ') := by
  unfold fR_isHereOn at H
  refine z_mk (lv := [some (vr 277), some (vi i_0)]) m_X12_isHereOn rfl hl (Nat.le_of_ble_eq_true rfl) rfl ?_
  refine z_aload_n (M := M_X12_isHereOn) dX12_isHereOn_0 rfl ?_
  refine z_aload_n (M := M_X12_isHereOn) dX12_isHereOn_1 rfl ?_
  refine z_getR (M := M_X12_isHereOn) (ci := 15) (C := RX12) (T := TX12) (Nf := 135) (ty := tyX12) cl15 dX12_isHereOn_2 ly_277 41 (by decide) t_2432 rfl ?_
  refine z_iload_n (M := M_X12_isHereOn) dX12_isHereOn_5 rfl ?_
  obtain ⟨x_1, x_1_e, hi_2, H⟩ := rd_e H
  refine z_lald (M := M_X12_isHereOn) dX12_isHereOn_6 ly_299 rfl rfl rfl hi_2 x_1_e ?_
  refine z_aload_n (M := M_X12_isHereOn) dX12_isHereOn_7 rfl ?_
  refine z_getR (M := M_X12_isHereOn) (ci := 15) (C := RX12) (T := TX12) (Nf := 135) (ty := tyX12) cl15 dX12_isHereOn_8 ly_277 42 (by decide) t_2433 rfl ?_
  refine z_iload_n (M := M_X12_isHereOn) dX12_isHereOn_11 rfl ?_
  obtain ⟨x_3, x_3_e, hi_4, H⟩ := rd_e H
  refine z_lald (M := M_X12_isHereOn) dX12_isHereOn_12 ly_300 rfl rfl rfl hi_4 x_3_e ?_
  refine z_aload_n (M := M_X12_isHereOn) dX12_isHereOn_13 rfl ?_
  refine z_getR (M := M_X12_isHereOn) (ci := 15) (C := RX12) (T := TX12) (Nf := 135) (ty := tyX12) cl15 dX12_isHereOn_14 ly_277 43 (by decide) t_2434 rfl ?_
  refine z_iload_n (M := M_X12_isHereOn) dX12_isHereOn_17 rfl ?_
  obtain ⟨x_5, x_5_e, hi_6, H⟩ := rd_e H
  refine z_lald (M := M_X12_isHereOn) dX12_isHereOn_18 ly_301 rfl rfl rfl hi_6 x_5_e ?_
  refine z_aload_n (M := M_X12_isHereOn) dX12_isHereOn_19 rfl ?_
  refine z_getR (M := M_X12_isHereOn) (ci := 15) (C := RX12) (T := TX12) (Nf := 135) (ty := tyX12) cl15 dX12_isHereOn_20 ly_277 44 (by decide) t_2435 rfl ?_
  refine z_iload_n (M := M_X12_isHereOn) dX12_isHereOn_23 rfl ?_
  obtain ⟨x_7, x_7_e, hi_8, H⟩ := rd_e H
  refine z_lald (M := M_X12_isHereOn) dX12_isHereOn_24 ly_302 rfl rfl rfl hi_8 x_7_e ?_
  obtain ⟨⟨x_11, σ_10⟩, hc_9, H⟩ := bd_e H
  refine z_callV (M := M_X12_isHereOn) (M' := M_X12_sideOf) (as := [vl x_1, vl x_3, vl x_5, vl x_7]) (rest := []) rfl rfl dX12_isHereOn_25 m_X12_sideOf t_3568 t_3570 s_298 (c_X12_sideOf hl  hc_9) rfl rfl ly_277 rfl (Nat.le_of_ble_eq_true rfl) (Nat.le_of_ble_eq_true rfl) (Nat.le_of_ble_eq_true rfl) (Nat.le_of_ble_eq_true rfl) ?_
  refine z_st (st' := [vi x_11]) rfl ?_
  rcases if_e H with ⟨h_12, H⟩ | ⟨h_12, H⟩
  · refine z_if_eq_f (M := M_X12_isHereOn) (tgt := 33) dX12_isHereOn_28 (by decide) rfl h_12 ?_
    refine z_zconst (M := M_X12_isHereOn) (b := false) dX12_isHereOn_31 rfl ?_
    cases H
    exact z_zret (M := M_X12_isHereOn) dX12_isHereOn_32 rfl (Nat.le_of_ble_eq_true rfl) (Nat.le_of_ble_eq_true rfl) ⟨rfl, rfl⟩
  · refine z_if_eq_t (M := M_X12_isHereOn) (tgt := 33) dX12_isHereOn_28 (by decide) rfl (Decidable.not_not.mp h_12) ?_
    obtain ⟨v_40, he_41, hk_42⟩ := bd_e H
    have J_43 : ∀ x_38 σ_39, v_40 = (x_38, σ_39) → YY l E M_X12_isHereOn 6 0 0 (pS (some (zv r)) σ') 86 [some (vr 277), some (vi i_0)] [zv x_38] σ_39 0 0 := by
      intro x_38 σ_39 e
      have H := hk_42
      rw [e] at H
      cases H
      exact z_zret (M := M_X12_isHereOn) dX12_isHereOn_86 rfl (Nat.le_of_ble_eq_true rfl) (Nat.le_of_ble_eq_true rfl) ⟨rfl, rfl⟩
    have H := he_41
    refine z_aload_n (M := M_X12_isHereOn) dX12_isHereOn_33 rfl ?_
    refine z_aload_n (M := M_X12_isHereOn) dX12_isHereOn_34 rfl ?_
    refine z_getR (M := M_X12_isHereOn) (ci := 15) (C := RX12) (T := TX12) (Nf := 135) (ty := tyX12) cl15 dX12_isHereOn_35 ly_277 41 (by decide) t_2432 rfl ?_
    refine z_iload_n (M := M_X12_isHereOn) dX12_isHereOn_38 rfl ?_
    obtain ⟨x_13, x_13_e, hi_14, H⟩ := rd_e H
    refine z_lald (M := M_X12_isHereOn) dX12_isHereOn_39 ly_299 rfl rfl rfl hi_14 x_13_e ?_
    obtain ⟨⟨x_17, σ_16⟩, hc_15, H⟩ := bd_e H
    refine z_callV (M := M_X12_isHereOn) (M' := M_X12_besideX) (as := [vl x_13]) (rest := []) rfl rfl dX12_isHereOn_40 m_X12_besideX t_3548 t_3550 s_293 (c_X12_besideX hl  hc_15) rfl rfl ly_277 rfl (Nat.le_of_ble_eq_true rfl) (Nat.le_of_ble_eq_true rfl) (Nat.le_of_ble_eq_true rfl) (Nat.le_of_ble_eq_true rfl) ?_
    refine z_st (st' := [vi x_17]) rfl ?_
    refine z_aload_n (M := M_X12_isHereOn) dX12_isHereOn_43 rfl ?_
    refine z_aload_n (M := M_X12_isHereOn) dX12_isHereOn_44 rfl ?_
    refine z_getR (M := M_X12_isHereOn) (ci := 15) (C := RX12) (T := TX12) (Nf := 135) (ty := tyX12) cl15 dX12_isHereOn_45 ly_277 43 (by decide) t_2434 rfl ?_
    refine z_iload_n (M := M_X12_isHereOn) dX12_isHereOn_48 rfl ?_
    obtain ⟨x_18, x_18_e, hi_19, H⟩ := rd_e H
    refine z_lald (M := M_X12_isHereOn) dX12_isHereOn_49 ly_301 rfl rfl rfl hi_19 x_18_e ?_
    obtain ⟨⟨x_22, σ_21⟩, hc_20, H⟩ := bd_e H
    refine z_callV (M := M_X12_isHereOn) (M' := M_X12_besideX) (as := [vl x_18]) (rest := [vi x_17]) rfl rfl dX12_isHereOn_50 m_X12_besideX t_3548 t_3550 s_293 (c_X12_besideX hl  hc_20) rfl rfl ly_277 rfl (Nat.le_of_ble_eq_true rfl) (Nat.le_of_ble_eq_true rfl) (Nat.le_of_ble_eq_true rfl) (Nat.le_of_ble_eq_true rfl) ?_
    refine z_st (st' := [vi x_22, vi x_17]) rfl ?_
    refine z_imul (M := M_X12_isHereOn) dX12_isHereOn_53 ?_
    rcases if_e H with ⟨h_23, H⟩ | ⟨h_23, H⟩
    · refine z_if_gt_f (M := M_X12_isHereOn) (tgt := 85) dX12_isHereOn_54 (by decide) rfl h_23 ?_
      refine z_aload_n (M := M_X12_isHereOn) dX12_isHereOn_57 rfl ?_
      refine z_aload_n (M := M_X12_isHereOn) dX12_isHereOn_58 rfl ?_
      refine z_getR (M := M_X12_isHereOn) (ci := 15) (C := RX12) (T := TX12) (Nf := 135) (ty := tyX12) cl15 dX12_isHereOn_59 ly_277 42 (by decide) t_2433 rfl ?_
      refine z_iload_n (M := M_X12_isHereOn) dX12_isHereOn_62 rfl ?_
      obtain ⟨x_24, x_24_e, hi_25, H⟩ := rd_e H
      refine z_lald (M := M_X12_isHereOn) dX12_isHereOn_63 ly_300 rfl rfl rfl hi_25 x_24_e ?_
      obtain ⟨⟨x_28, σ_27⟩, hc_26, H⟩ := bd_e H
      refine z_callV (M := M_X12_isHereOn) (M' := M_X12_besideY) (as := [vl x_24]) (rest := []) rfl rfl dX12_isHereOn_64 m_X12_besideY t_3556 t_3558 s_295 (c_X12_besideY hl  hc_26) rfl rfl ly_277 rfl (Nat.le_of_ble_eq_true rfl) (Nat.le_of_ble_eq_true rfl) (Nat.le_of_ble_eq_true rfl) (Nat.le_of_ble_eq_true rfl) ?_
      refine z_st (st' := [vi x_28]) rfl ?_
      refine z_aload_n (M := M_X12_isHereOn) dX12_isHereOn_67 rfl ?_
      refine z_aload_n (M := M_X12_isHereOn) dX12_isHereOn_68 rfl ?_
      refine z_getR (M := M_X12_isHereOn) (ci := 15) (C := RX12) (T := TX12) (Nf := 135) (ty := tyX12) cl15 dX12_isHereOn_69 ly_277 44 (by decide) t_2435 rfl ?_
      refine z_iload_n (M := M_X12_isHereOn) dX12_isHereOn_72 rfl ?_
      obtain ⟨x_29, x_29_e, hi_30, H⟩ := rd_e H
      refine z_lald (M := M_X12_isHereOn) dX12_isHereOn_73 ly_302 rfl rfl rfl hi_30 x_29_e ?_
      obtain ⟨⟨x_33, σ_32⟩, hc_31, H⟩ := bd_e H
      refine z_callV (M := M_X12_isHereOn) (M' := M_X12_besideY) (as := [vl x_29]) (rest := [vi x_28]) rfl rfl dX12_isHereOn_74 m_X12_besideY t_3556 t_3558 s_295 (c_X12_besideY hl  hc_31) rfl rfl ly_277 rfl (Nat.le_of_ble_eq_true rfl) (Nat.le_of_ble_eq_true rfl) (Nat.le_of_ble_eq_true rfl) (Nat.le_of_ble_eq_true rfl) ?_
      refine z_st (st' := [vi x_33, vi x_28]) rfl ?_
      refine z_imul (M := M_X12_isHereOn) dX12_isHereOn_77 ?_
      rcases if_e H with ⟨h_34, H⟩ | ⟨h_34, H⟩
      · refine z_if_gt_f (M := M_X12_isHereOn) (tgt := 85) dX12_isHereOn_78 (by decide) rfl h_34 ?_
        refine z_zconst (M := M_X12_isHereOn) (b := true) dX12_isHereOn_81 rfl ?_
        refine z_goto (M := M_X12_isHereOn) (tgt := 86) dX12_isHereOn_82 (by decide) ?_
        exact J_43 _ _ (Option.some.inj H).symm
      · refine z_if_gt_t (M := M_X12_isHereOn) (tgt := 85) dX12_isHereOn_78 (by decide) rfl (Int.not_le.mp h_34) ?_
        refine z_zconst (M := M_X12_isHereOn) (b := false) dX12_isHereOn_85 rfl ?_
        exact J_43 _ _ (Option.some.inj H).symm
    · refine z_if_gt_t (M := M_X12_isHereOn) (tgt := 85) dX12_isHereOn_54 (by decide) rfl (Int.not_le.mp h_23) ?_
      refine z_zconst (M := M_X12_isHereOn) (b := false) dX12_isHereOn_85 rfl ?_
      exact J_43 _ _ (Option.some.inj H).symm
theorem c_X12_isHere (hl : l.stackTraces = false) {σ : SG} {point_0 : Int} {r : Bool} {σ' : SG}  (H : fR_isHere σ point_0 = some (r, σ')) : en_S l E M_X12_isHere 6 0 0 [vr 277, vi point_0] σ (pS (some (zv r)) σ') := by
  unfold fR_isHere at H
  refine z_mk (lv := [some (vr 277), some (vi point_0)]) m_X12_isHere rfl hl (Nat.le_of_ble_eq_true rfl) rfl ?_
  obtain ⟨v_18, he_19, hk_20⟩ := bd_e H
  have J_21 : ∀ x_16 σ_17, v_18 = (x_16, σ_17) → YY l E M_X12_isHere 6 0 0 (pS (some (zv r)) σ') 33 [some (vr 277), some (vi point_0)] [zv x_16] σ_17 0 0 := by
    intro x_16 σ_17 e
    have H := hk_20
    rw [e] at H
    cases H
    exact z_zret (M := M_X12_isHere) dX12_isHere_33 rfl (Nat.le_of_ble_eq_true rfl) (Nat.le_of_ble_eq_true rfl) ⟨rfl, rfl⟩
  have H := he_19
  refine z_aload_n (M := M_X12_isHere) dX12_isHere_0 rfl ?_
  refine z_aload_n (M := M_X12_isHere) dX12_isHere_1 rfl ?_
  refine z_getR (M := M_X12_isHere) (ci := 15) (C := RX12) (T := TX12) (Nf := 135) (ty := tyX12) cl15 dX12_isHere_2 ly_277 12 (by decide) t_2403 rfl ?_
  refine z_iload_n (M := M_X12_isHere) dX12_isHere_5 rfl ?_
  obtain ⟨x_1, x_1_e, hi_2, H⟩ := rd_e H
  refine z_iald (M := M_X12_isHere) dX12_isHere_6 ly_283 rfl rfl rfl hi_2 x_1_e ?_
  refine z_i2l (M := M_X12_isHere) dX12_isHere_7 ?_
  obtain ⟨⟨x_5, σ_4⟩, hc_3, H⟩ := bd_e H
  refine z_callV (M := M_X12_isHere) (M' := M_X12_besideX) (as := [vl (w32 x_1)]) (rest := []) rfl rfl dX12_isHere_8 m_X12_besideX t_3548 t_3550 s_293 (c_X12_besideX hl  hc_3) rfl rfl ly_277 rfl (Nat.le_of_ble_eq_true rfl) (Nat.le_of_ble_eq_true rfl) (Nat.le_of_ble_eq_true rfl) (Nat.le_of_ble_eq_true rfl) ?_
  refine z_st (st' := [vi x_5]) rfl ?_
  rcases if_e H with ⟨h_6, H⟩ | ⟨h_6, H⟩
  · refine z_if_ne_f (M := M_X12_isHere) (tgt := 32) dX12_isHere_11 (by decide) rfl h_6 ?_
    refine z_aload_n (M := M_X12_isHere) dX12_isHere_14 rfl ?_
    refine z_aload_n (M := M_X12_isHere) dX12_isHere_15 rfl ?_
    refine z_getR (M := M_X12_isHere) (ci := 15) (C := RX12) (T := TX12) (Nf := 135) (ty := tyX12) cl15 dX12_isHere_16 ly_277 13 (by decide) t_2404 rfl ?_
    refine z_iload_n (M := M_X12_isHere) dX12_isHere_19 rfl ?_
    obtain ⟨x_7, x_7_e, hi_8, H⟩ := rd_e H
    refine z_iald (M := M_X12_isHere) dX12_isHere_20 ly_284 rfl rfl rfl hi_8 x_7_e ?_
    refine z_i2l (M := M_X12_isHere) dX12_isHere_21 ?_
    obtain ⟨⟨x_11, σ_10⟩, hc_9, H⟩ := bd_e H
    refine z_callV (M := M_X12_isHere) (M' := M_X12_besideY) (as := [vl (w32 x_7)]) (rest := []) rfl rfl dX12_isHere_22 m_X12_besideY t_3556 t_3558 s_295 (c_X12_besideY hl  hc_9) rfl rfl ly_277 rfl (Nat.le_of_ble_eq_true rfl) (Nat.le_of_ble_eq_true rfl) (Nat.le_of_ble_eq_true rfl) (Nat.le_of_ble_eq_true rfl) ?_
    refine z_st (st' := [vi x_11]) rfl ?_
    rcases if_e H with ⟨h_12, H⟩ | ⟨h_12, H⟩
    · refine z_if_ne_f (M := M_X12_isHere) (tgt := 32) dX12_isHere_25 (by decide) rfl h_12 ?_
      refine z_zconst (M := M_X12_isHere) (b := true) dX12_isHere_28 rfl ?_
      refine z_goto (M := M_X12_isHere) (tgt := 33) dX12_isHere_29 (by decide) ?_
      exact J_21 _ _ (Option.some.inj H).symm
    · refine z_if_ne_t (M := M_X12_isHere) (tgt := 32) dX12_isHere_25 (by decide) rfl h_12 ?_
      refine z_zconst (M := M_X12_isHere) (b := false) dX12_isHere_32 rfl ?_
      exact J_21 _ _ (Option.some.inj H).symm
  · refine z_if_ne_t (M := M_X12_isHere) (tgt := 32) dX12_isHere_11 (by decide) rfl h_6 ?_
    refine z_zconst (M := M_X12_isHere) (b := false) dX12_isHere_32 rfl ?_
    exact J_21 _ _ (Option.some.inj H).symm
theorem c_X12_isOnSegments (hl : l.stackTraces = false) {σ : SG} {shape_0 : Int} {r : Bool} {σ' : SG}  (H : fR_isOnSegments σ shape_0 = some (r, σ')) : en_S l E M_X12_isOnSegments 7 0 0 [vr 277, vi shape_0] σ (pS (some (zv r)) σ') := by
  unfold fR_isOnSegments at H
  refine z_mk (lv := [some (vr 277), some (vi shape_0), none, none]) m_X12_isOnSegments rfl hl (Nat.le_of_ble_eq_true rfl) rfl ?_
  refine z_zconst (M := M_X12_isOnSegments) (b := false) dX12_isOnSegments_0 rfl ?_
  refine z_zstore_n (M := M_X12_isOnSegments) (lv' := [some (vr 277), some (vi shape_0), some (zv false), none]) dX12_isOnSegments_1 (Nat.le_of_ble_eq_true rfl) rfl rfl ?_
  refine z_iconst (M := M_X12_isOnSegments) dX12_isOnSegments_2 ?_
  refine z_istore_n (M := M_X12_isOnSegments) (lv' := [some (vr 277), some (vi shape_0), some (zv false), some (vi 0)]) dX12_isOnSegments_3 (Nat.le_of_ble_eq_true rfl) rfl rfl ?_
  obtain ⟨rl_7, hw_4, hk_5⟩ := bd_e H
  have J_39 : ∀ on_36 i_37 σ_38, rl_7 = (on_36, i_37, σ_38) → YY l E M_X12_isOnSegments 7 0 0 (pS (some (zv r)) σ') 46 [some (vr 277), some (vi shape_0), some (zv on_36), some (vi i_37)] [] σ_38 0 0 := by
    intro on_36 i_37 σ_38 e
    have H := hk_5
    rw [e] at H
    refine z_zload_n (M := M_X12_isOnSegments) dX12_isOnSegments_46 rfl ?_
    cases H
    exact z_zret (M := M_X12_isOnSegments) dX12_isOnSegments_47 rfl (Nat.le_of_ble_eq_true rfl) (Nat.le_of_ble_eq_true rfl) ⟨rfl, rfl⟩
  refine whl_go hw_4 (fun (on_1, i_2, σ_3) => YY l E M_X12_isOnSegments 7 0 0 (pS (some (zv r)) σ') 4 [some (vr 277), some (vi shape_0), some (zv on_1), some (vi i_2)] [] σ_3 0 0) ?_
  rintro ⟨on_1, i_2, σ_3⟩ o_8 H K_9 K_10
  rcases if_e H with ⟨h_29, H⟩ | ⟨h_29, H⟩
  · have J_30 : YY l E M_X12_isOnSegments 7 0 0 (pS (some (zv r)) σ') 16 [some (vr 277), some (vi shape_0), some (zv on_1), some (vi i_2)] [] σ_3 0 0 := by
      obtain ⟨v_24, he_25, hk_26⟩ := bd_e H
      have J_27 : ∀ x_21 σ_22, v_24 = (x_21, σ_22) → YY l E M_X12_isOnSegments 7 0 0 (pS (some (zv r)) σ') 39 [some (vr 277), some (vi shape_0), some (zv on_1), some (vi i_2)] [zv x_21] σ_22 0 0 := by
        intro x_21 σ_22 e
        have H := hk_26
        rw [e] at H
        refine z_zstore_n (M := M_X12_isOnSegments) (lv' := [some (vr 277), some (vi shape_0), some (zv x_21), some (vi i_2)]) dX12_isOnSegments_39 (Nat.le_of_ble_eq_true rfl) rfl rfl ?_
        refine z_iinc (M := M_X12_isOnSegments) (lv' := [some (vr 277), some (vi shape_0), some (zv x_21), some (vi (i_2 + 1))]) dX12_isOnSegments_40 rfl (Nat.le_of_ble_eq_true rfl) rfl rfl ?_
        refine z_goto (M := M_X12_isOnSegments) (tgt := 4) dX12_isOnSegments_43 (by decide) ?_
        exact K_9 _ (Option.some.inj H).symm
      have H := he_25
      refine z_aload_n (M := M_X12_isOnSegments) dX12_isOnSegments_16 rfl ?_
      refine z_getR (M := M_X12_isOnSegments) (ci := 15) (C := RX12) (T := TX12) (Nf := 135) (ty := tyX12) cl15 dX12_isOnSegments_17 ly_277 47 (by decide) t_2438 rfl ?_
      refine z_iload_n (M := M_X12_isOnSegments) dX12_isOnSegments_20 rfl ?_
      obtain ⟨x_11, x_11_e, hi_12, H⟩ := rd_e H
      refine z_iald (M := M_X12_isOnSegments) dX12_isOnSegments_21 ly_305 rfl rfl rfl hi_12 x_11_e ?_
      refine z_iload_n (M := M_X12_isOnSegments) dX12_isOnSegments_22 rfl ?_
      rcases if_e H with ⟨h_13, H⟩ | ⟨h_13, H⟩
      · refine z_icmp_ne_f (M := M_X12_isOnSegments) (tgt := 38) dX12_isOnSegments_23 (by decide) rfl rfl h_13 ?_
        refine z_aload_n (M := M_X12_isOnSegments) dX12_isOnSegments_26 rfl ?_
        refine z_iload_n (M := M_X12_isOnSegments) dX12_isOnSegments_27 rfl ?_
        obtain ⟨⟨x_16, σ_15⟩, hc_14, H⟩ := bd_e H
        refine z_callV (M := M_X12_isOnSegments) (M' := M_X12_isHereOn) (as := [vi i_2]) (rest := []) rfl rfl dX12_isOnSegments_28 m_X12_isHereOn t_3564 t_3566 s_297 (c_X12_isHereOn hl  hc_14) rfl rfl ly_277 rfl (Nat.le_of_ble_eq_true rfl) (Nat.le_of_ble_eq_true rfl) (Nat.le_of_ble_eq_true rfl) (Nat.le_of_ble_eq_true rfl) ?_
        refine z_st (st' := [zv x_16]) rfl ?_
        rcases if_e H with ⟨h_17, H⟩ | ⟨h_17, H⟩
        · refine z_zeq_f (M := M_X12_isOnSegments) (tgt := 38) dX12_isOnSegments_31 (by decide) h_17 ?_
          refine z_zconst (M := M_X12_isOnSegments) (b := true) dX12_isOnSegments_34 rfl ?_
          refine z_goto (M := M_X12_isOnSegments) (tgt := 39) dX12_isOnSegments_35 (by decide) ?_
          exact J_27 _ _ (Option.some.inj H).symm
        · refine z_zeq_t (M := M_X12_isOnSegments) (tgt := 38) dX12_isOnSegments_31 (by decide) h_17 ?_
          refine z_zconst (M := M_X12_isOnSegments) (b := false) dX12_isOnSegments_38 rfl ?_
          exact J_27 _ _ (Option.some.inj H).symm
      · refine z_icmp_ne_t (M := M_X12_isOnSegments) (tgt := 38) dX12_isOnSegments_23 (by decide) rfl rfl h_13 ?_
        refine z_zconst (M := M_X12_isOnSegments) (b := false) dX12_isOnSegments_38 rfl ?_
        exact J_27 _ _ (Option.some.inj H).symm
    refine z_iload_n (M := M_X12_isOnSegments) dX12_isOnSegments_4 rfl ?_
    refine z_aload_n (M := M_X12_isOnSegments) dX12_isOnSegments_5 rfl ?_
    refine z_getI (M := M_X12_isOnSegments) (ci := 15) (C := RX12) (T := TX12) (Nf := 135) (ty := tyX12) cl15 dX12_isOnSegments_6 ly_277 48 (by decide) t_2439 rfl rfl ?_
    by_cases h_32 : (w32 i_2) < (w32 (σ_3 kR_segments 0))
    · refine z_icmp_ge_f (M := M_X12_isOnSegments) (tgt := 46) dX12_isOnSegments_9 (by decide) rfl rfl h_32 ?_
      refine z_zload_n (M := M_X12_isOnSegments) dX12_isOnSegments_12 rfl ?_
      by_cases h_33 : on_1 = true
      · refine z_zne_t (M := M_X12_isOnSegments) (tgt := 46) dX12_isOnSegments_13 (by decide) h_33 ?_
        exact absurd h_29 (fun q => (not_not_intro h_33) q.2)
      · refine z_zne_f (M := M_X12_isOnSegments) (tgt := 46) dX12_isOnSegments_13 (by decide) h_33 ?_
        exact J_30
    · refine z_icmp_ge_t (M := M_X12_isOnSegments) (tgt := 46) dX12_isOnSegments_9 (by decide) rfl rfl (Int.not_lt.mp h_32) ?_
      exact absurd h_29 (fun q => h_32 q.1)
  · have J_31 : YY l E M_X12_isOnSegments 7 0 0 (pS (some (zv r)) σ') 46 [some (vr 277), some (vi shape_0), some (zv on_1), some (vi i_2)] [] σ_3 0 0 := by
      exact J_39 _ _ _ (K_10 _ (Option.some.inj H).symm).symm
    refine z_iload_n (M := M_X12_isOnSegments) dX12_isOnSegments_4 rfl ?_
    refine z_aload_n (M := M_X12_isOnSegments) dX12_isOnSegments_5 rfl ?_
    refine z_getI (M := M_X12_isOnSegments) (ci := 15) (C := RX12) (T := TX12) (Nf := 135) (ty := tyX12) cl15 dX12_isOnSegments_6 ly_277 48 (by decide) t_2439 rfl rfl ?_
    by_cases h_34 : (w32 i_2) < (w32 (σ_3 kR_segments 0))
    · refine z_icmp_ge_f (M := M_X12_isOnSegments) (tgt := 46) dX12_isOnSegments_9 (by decide) rfl rfl h_34 ?_
      refine z_zload_n (M := M_X12_isOnSegments) dX12_isOnSegments_12 rfl ?_
      by_cases h_35 : on_1 = true
      · refine z_zne_t (M := M_X12_isOnSegments) (tgt := 46) dX12_isOnSegments_13 (by decide) h_35 ?_
        exact J_31
      · refine z_zne_f (M := M_X12_isOnSegments) (tgt := 46) dX12_isOnSegments_13 (by decide) h_35 ?_
        exact absurd ⟨h_34, h_35⟩ h_29
    · refine z_icmp_ge_t (M := M_X12_isOnSegments) (tgt := 46) dX12_isOnSegments_9 (by decide) rfl rfl (Int.not_lt.mp h_34) ?_
      exact J_31
theorem c_X12_isAbove (hl : l.stackTraces = false) {σ : SG} {y_0 : Int} {r : Bool} {σ' : SG}  (H : fR_isAbove σ y_0 = some (r, σ')) : en_S l E M_X12_isAbove 6 0 0 [vr 277, vl y_0] σ (pS (some (zv r)) σ') := by
  unfold fR_isAbove at H
  refine z_mk (lv := [some (vr 277), some (vl y_0), none, none]) m_X12_isAbove rfl hl (Nat.le_of_ble_eq_true rfl) rfl ?_
  refine z_aload_n (M := M_X12_isAbove) dX12_isAbove_0 rfl ?_
  refine z_lload_n (M := M_X12_isAbove) dX12_isAbove_1 rfl ?_
  obtain ⟨⟨x_3, σ_2⟩, hc_1, H⟩ := bd_e H
  refine z_callV (M := M_X12_isAbove) (M' := M_X12_besideY) (as := [vl y_0]) (rest := []) rfl rfl dX12_isAbove_2 m_X12_besideY t_3556 t_3558 s_295 (c_X12_besideY hl  hc_1) rfl rfl ly_277 rfl (Nat.le_of_ble_eq_true rfl) (Nat.le_of_ble_eq_true rfl) (Nat.le_of_ble_eq_true rfl) (Nat.le_of_ble_eq_true rfl) ?_
  refine z_st (st' := [vi x_3]) rfl ?_
  refine z_istore_n (M := M_X12_isAbove) (lv' := [some (vr 277), some (vl y_0), none, some (vi x_3)]) dX12_isAbove_5 (Nat.le_of_ble_eq_true rfl) rfl rfl ?_
  have J_4 : YY l E M_X12_isAbove 6 0 0 (pS (some (zv r)) σ') 28 [some (vr 277), some (vl y_0), none, some (vi x_3)] [zv (decide (((w32 x_3) < 0) ∨ (((w32 x_3) = 0) ∧ ((w64 (σ_2 kR_offY 0)) < 0))))] σ_2 0 0 := by
    cases H
    exact z_zret (M := M_X12_isAbove) dX12_isAbove_28 rfl (Nat.le_of_ble_eq_true rfl) (Nat.le_of_ble_eq_true rfl) ⟨rfl, rfl⟩
  refine z_iload_n (M := M_X12_isAbove) dX12_isAbove_6 rfl ?_
  by_cases h_5 : (w32 x_3) < 0
  · refine z_if_lt_t (M := M_X12_isAbove) (tgt := 23) dX12_isAbove_7 (by decide) rfl h_5 ?_
    refine z_iconst (M := M_X12_isAbove) dX12_isAbove_23 ?_
    refine z_goto (M := M_X12_isAbove) (tgt := 28) dX12_isAbove_24 (by decide) ?_
    exact z_st (by rw [zv_t (p := ((w32 x_3) < 0) ∨ (((w32 x_3) = 0) ∧ ((w64 (σ_2 kR_offY 0)) < 0))) (Or.inl h_5)]) J_4
  · refine z_if_lt_f (M := M_X12_isAbove) (tgt := 23) dX12_isAbove_7 (by decide) rfl (Int.not_lt.mp h_5) ?_
    refine z_iload_n (M := M_X12_isAbove) dX12_isAbove_10 rfl ?_
    by_cases h_6 : (w32 x_3) = 0
    · refine z_if_ne_f (M := M_X12_isAbove) (tgt := 27) dX12_isAbove_11 (by decide) rfl h_6 ?_
      refine z_aload_n (M := M_X12_isAbove) dX12_isAbove_14 rfl ?_
      refine z_getL (M := M_X12_isAbove) (ci := 15) (C := RX12) (T := TX12) (Nf := 135) (ty := tyX12) cl15 dX12_isAbove_15 ly_277 113 (by decide) t_2504 rfl rfl ?_
      refine z_lconst (M := M_X12_isAbove) (m := 0) dX12_isAbove_18 (by decide +kernel) ?_
      refine z_lcmp (M := M_X12_isAbove) dX12_isAbove_19 ?_
      by_cases h_7 : (w64 (σ_2 kR_offY 0)) < 0
      · refine z_lif_ge_f (M := M_X12_isAbove) (tgt := 27) dX12_isAbove_20 (by decide) rfl (by decide +kernel) h_7 ?_
        refine z_iconst (M := M_X12_isAbove) dX12_isAbove_23 ?_
        refine z_goto (M := M_X12_isAbove) (tgt := 28) dX12_isAbove_24 (by decide) ?_
        exact z_st (by rw [zv_t (p := ((w32 x_3) < 0) ∨ (((w32 x_3) = 0) ∧ ((w64 (σ_2 kR_offY 0)) < 0))) (Or.inr ⟨h_6, h_7⟩)]) J_4
      · refine z_lif_ge_t (M := M_X12_isAbove) (tgt := 27) dX12_isAbove_20 (by decide) rfl (by decide +kernel) (Int.not_lt.mp h_7) ?_
        refine z_iconst (M := M_X12_isAbove) dX12_isAbove_27 ?_
        exact z_st (by rw [zv_f (p := ((w32 x_3) < 0) ∨ (((w32 x_3) = 0) ∧ ((w64 (σ_2 kR_offY 0)) < 0))) (fun q => q.elim h_5 (fun q => h_7 q.2))]) J_4
    · refine z_if_ne_t (M := M_X12_isAbove) (tgt := 27) dX12_isAbove_11 (by decide) rfl h_6 ?_
      refine z_iconst (M := M_X12_isAbove) dX12_isAbove_27 ?_
      exact z_st (by rw [zv_f (p := ((w32 x_3) < 0) ∨ (((w32 x_3) = 0) ∧ ((w64 (σ_2 kR_offY 0)) < 0))) (fun q => q.elim h_5 (fun q => h_6 q.1))]) J_4
theorem c_X12_isOdd (hl : l.stackTraces = false) {σ : SG} {shape_0 : Int} {r : Bool} {σ' : SG}  (H : fR_isOdd σ shape_0 = some (r, σ')) : en_S l E M_X12_isOdd 7 0 0 [vr 277, vi shape_0] σ (pS (some (zv r)) σ') := by
  unfold fR_isOdd at H
  refine z_mk (lv := [some (vr 277), some (vi shape_0), none, none, none, none, none, none, none, none, none, none, none, none]) m_X12_isOdd rfl hl (Nat.le_of_ble_eq_true rfl) rfl ?_
  refine z_zconst (M := M_X12_isOdd) (b := false) dX12_isOdd_0 rfl ?_
  refine z_zstore_n (M := M_X12_isOdd) (lv' := [some (vr 277), some (vi shape_0), some (zv false), none, none, none, none, none, none, none, none, none, none, none]) dX12_isOdd_1 (Nat.le_of_ble_eq_true rfl) rfl rfl ?_
  refine z_iconst (M := M_X12_isOdd) dX12_isOdd_2 ?_
  refine z_istore_n (M := M_X12_isOdd) (lv' := [some (vr 277), some (vi shape_0), some (zv false), some (vi 0), none, none, none, none, none, none, none, none, none, none]) dX12_isOdd_3 (Nat.le_of_ble_eq_true rfl) rfl rfl ?_
  obtain ⟨rl_7, hw_4, hk_5⟩ := bd_e H
  have J_110 : ∀ odd_107 i_108 σ_109, rl_7 = (odd_107, i_108, σ_109) → YY l E M_X12_isOdd 7 0 0 (pS (some (zv r)) σ') 218 [some (vr 277), some (vi shape_0), some (zv odd_107), some (vi i_108), none, none, none, none, none, none, none, none, none, none] [] σ_109 0 0 := by
    intro odd_107 i_108 σ_109 e
    have H := hk_5
    rw [e] at H
    refine z_zload_n (M := M_X12_isOdd) dX12_isOdd_218 rfl ?_
    cases H
    exact z_zret (M := M_X12_isOdd) dX12_isOdd_219 rfl (Nat.le_of_ble_eq_true rfl) (Nat.le_of_ble_eq_true rfl) ⟨rfl, rfl⟩
  refine whl_go hw_4 (fun (odd_1, i_2, σ_3) => YY l E M_X12_isOdd 7 0 0 (pS (some (zv r)) σ') 4 [some (vr 277), some (vi shape_0), some (zv odd_1), some (vi i_2), none, none, none, none, none, none, none, none, none, none] [] σ_3 0 0) ?_
  rintro ⟨odd_1, i_2, σ_3⟩ o_8 H K_9 K_10
  refine z_iload_n (M := M_X12_isOdd) dX12_isOdd_4 rfl ?_
  refine z_aload_n (M := M_X12_isOdd) dX12_isOdd_5 rfl ?_
  refine z_getI (M := M_X12_isOdd) (ci := 15) (C := RX12) (T := TX12) (Nf := 135) (ty := tyX12) cl15 dX12_isOdd_6 ly_277 48 (by decide) t_2439 rfl rfl ?_
  rcases if_e H with ⟨h_11, H⟩ | ⟨h_11, H⟩
  · refine z_icmp_ge_f (M := M_X12_isOdd) (tgt := 218) dX12_isOdd_9 (by decide) rfl rfl h_11 ?_
    refine z_aload_n (M := M_X12_isOdd) dX12_isOdd_12 rfl ?_
    refine z_getR (M := M_X12_isOdd) (ci := 15) (C := RX12) (T := TX12) (Nf := 135) (ty := tyX12) cl15 dX12_isOdd_13 ly_277 47 (by decide) t_2438 rfl ?_
    refine z_iload_n (M := M_X12_isOdd) dX12_isOdd_16 rfl ?_
    obtain ⟨x_12, x_12_e, hi_13, H⟩ := rd_e H
    refine z_iald (M := M_X12_isOdd) dX12_isOdd_17 ly_305 rfl rfl rfl hi_13 x_12_e ?_
    refine z_iload_n (M := M_X12_isOdd) dX12_isOdd_18 rfl ?_
    rcases if_e H with ⟨h_14, H⟩ | ⟨h_14, H⟩
    · refine z_icmp_eq_f (M := M_X12_isOdd) (tgt := 25) dX12_isOdd_19 (by decide) rfl rfl h_14 ?_
      refine z_goto (M := M_X12_isOdd) (tgt := 212) dX12_isOdd_22 (by decide) ?_
      refine z_iinc (M := M_X12_isOdd) (lv' := [some (vr 277), some (vi shape_0), some (zv odd_1), some (vi (i_2 + 1)), none, none, none, none, none, none, none, none, none, none]) dX12_isOdd_212 rfl (Nat.le_of_ble_eq_true rfl) rfl rfl ?_
      refine z_goto (M := M_X12_isOdd) (tgt := 4) dX12_isOdd_215 (by decide) ?_
      exact K_9 _ (Option.some.inj H).symm
    · refine z_icmp_eq_t (M := M_X12_isOdd) (tgt := 25) dX12_isOdd_19 (by decide) rfl rfl (Decidable.not_not.mp h_14) ?_
      refine z_aload_n (M := M_X12_isOdd) dX12_isOdd_25 rfl ?_
      refine z_aload_n (M := M_X12_isOdd) dX12_isOdd_26 rfl ?_
      refine z_getR (M := M_X12_isOdd) (ci := 15) (C := RX12) (T := TX12) (Nf := 135) (ty := tyX12) cl15 dX12_isOdd_27 ly_277 42 (by decide) t_2433 rfl ?_
      refine z_iload_n (M := M_X12_isOdd) dX12_isOdd_30 rfl ?_
      obtain ⟨x_16, x_16_e, hi_17, H⟩ := rd_e H
      refine z_lald (M := M_X12_isOdd) dX12_isOdd_31 ly_300 rfl rfl rfl hi_17 x_16_e ?_
      obtain ⟨⟨x_20, σ_19⟩, hc_18, H⟩ := bd_e H
      refine z_callV (M := M_X12_isOdd) (M' := M_X12_isAbove) (as := [vl x_16]) (rest := []) rfl rfl dX12_isOdd_32 m_X12_isAbove t_3576 t_3578 s_300 (c_X12_isAbove hl  hc_18) rfl rfl ly_277 rfl (Nat.le_of_ble_eq_true rfl) (Nat.le_of_ble_eq_true rfl) (Nat.le_of_ble_eq_true rfl) (Nat.le_of_ble_eq_true rfl) ?_
      refine z_st (st' := [zv x_20]) rfl ?_
      refine z_zstore (M := M_X12_isOdd) (lv' := [some (vr 277), some (vi shape_0), some (zv odd_1), some (vi i_2), some (zv x_20), none, none, none, none, none, none, none, none, none]) dX12_isOdd_35 (Nat.le_of_ble_eq_true rfl) rfl rfl ?_
      refine z_zload (M := M_X12_isOdd) dX12_isOdd_37 rfl ?_
      refine z_aload_n (M := M_X12_isOdd) dX12_isOdd_39 rfl ?_
      refine z_aload_n (M := M_X12_isOdd) dX12_isOdd_40 rfl ?_
      refine z_getR (M := M_X12_isOdd) (ci := 15) (C := RX12) (T := TX12) (Nf := 135) (ty := tyX12) cl15 dX12_isOdd_41 ly_277 44 (by decide) t_2435 rfl ?_
      refine z_iload_n (M := M_X12_isOdd) dX12_isOdd_44 rfl ?_
      obtain ⟨x_21, x_21_e, hi_22, H⟩ := rd_e H
      refine z_lald (M := M_X12_isOdd) dX12_isOdd_45 ly_302 rfl rfl rfl hi_22 x_21_e ?_
      obtain ⟨⟨x_25, σ_24⟩, hc_23, H⟩ := bd_e H
      refine z_callV (M := M_X12_isOdd) (M' := M_X12_isAbove) (as := [vl x_21]) (rest := [zv x_20]) rfl rfl dX12_isOdd_46 m_X12_isAbove t_3576 t_3578 s_300 (c_X12_isAbove hl  hc_23) rfl rfl ly_277 rfl (Nat.le_of_ble_eq_true rfl) (Nat.le_of_ble_eq_true rfl) (Nat.le_of_ble_eq_true rfl) (Nat.le_of_ble_eq_true rfl) ?_
      refine z_st (st' := [zv x_25, zv x_20]) rfl ?_
      rcases if_e H with ⟨h_26, H⟩ | ⟨h_26, H⟩
      · refine z_cne_f (M := M_X12_isOdd) (tgt := 55) dX12_isOdd_49 (by decide)  h_26 ?_
        refine z_goto (M := M_X12_isOdd) (tgt := 212) dX12_isOdd_52 (by decide) ?_
        refine z_iinc (M := M_X12_isOdd) (lv' := [some (vr 277), some (vi shape_0), some (zv odd_1), some (vi (i_2 + 1)), some (zv x_20), none, none, none, none, none, none, none, none, none]) dX12_isOdd_212 rfl (Nat.le_of_ble_eq_true rfl) rfl rfl ?_
        refine z_goto (M := M_X12_isOdd) (tgt := 4) dX12_isOdd_215 (by decide) ?_
        refine z_le (lv' := [some (vr 277), some (vi shape_0), some (zv odd_1), some (vi (i_2 + 1)), none, none, none, none, none, none, none, none, none, none]) ⟨Or.inr rfl, Or.inr rfl, Or.inr rfl, Or.inr rfl, Or.inl rfl, Or.inl rfl, Or.inl rfl, Or.inl rfl, Or.inl rfl, Or.inl rfl, Or.inl rfl, Or.inl rfl, Or.inl rfl, Or.inl rfl, trivial⟩ ?_
        exact K_9 _ (Option.some.inj H).symm
      · refine z_cne_t (M := M_X12_isOdd) (tgt := 55) dX12_isOdd_49 (by decide)  h_26 ?_
        obtain ⟨v_102, he_103, hk_104⟩ := bd_e H
        have J_105 : ∀ x_39, v_102 = x_39 → YY l E M_X12_isOdd 7 0 0 (pS (some (zv r)) σ') 75 [some (vr 277), some (vi shape_0), some (zv odd_1), some (vi i_2), some (zv x_20), none, none, none, none, none, none, none, none, none] [vl x_39] σ_24 0 0 := by
          intro x_39 e
          have H := hk_104
          rw [e] at H
          refine z_lstore (M := M_X12_isOdd) (lv' := [some (vr 277), some (vi shape_0), some (zv odd_1), some (vi i_2), some (zv x_20), some (vl x_39), none, none, none, none, none, none, none, none]) dX12_isOdd_75 (Nat.le_of_ble_eq_true rfl) rfl rfl ?_
          obtain ⟨v_98, he_99, hk_100⟩ := bd_e H
          have J_101 : ∀ x_51, v_98 = x_51 → YY l E M_X12_isOdd 7 0 0 (pS (some (zv r)) σ') 97 [some (vr 277), some (vi shape_0), some (zv odd_1), some (vi i_2), some (zv x_20), some (vl x_39), none, none, none, none, none, none, none, none] [vl x_51] σ_24 0 0 := by
            intro x_51 e
            have H := hk_100
            rw [e] at H
            refine z_lstore (M := M_X12_isOdd) (lv' := [some (vr 277), some (vi shape_0), some (zv odd_1), some (vi i_2), some (zv x_20), some (vl x_39), none, some (vl x_51), none, none, none, none, none, none]) dX12_isOdd_97 (Nat.le_of_ble_eq_true rfl) rfl rfl ?_
            obtain ⟨v_94, he_95, hk_96⟩ := bd_e H
            have J_97 : ∀ x_63, v_94 = x_63 → YY l E M_X12_isOdd 7 0 0 (pS (some (zv r)) σ') 119 [some (vr 277), some (vi shape_0), some (zv odd_1), some (vi i_2), some (zv x_20), some (vl x_39), none, some (vl x_51), none, none, none, none, none, none] [vl x_63] σ_24 0 0 := by
              intro x_63 e
              have H := hk_96
              rw [e] at H
              refine z_lstore (M := M_X12_isOdd) (lv' := [some (vr 277), some (vi shape_0), some (zv odd_1), some (vi i_2), some (zv x_20), some (vl x_39), none, some (vl x_51), none, some (vl x_63), none, none, none, none]) dX12_isOdd_119 (Nat.le_of_ble_eq_true rfl) rfl rfl ?_
              obtain ⟨v_90, he_91, hk_92⟩ := bd_e H
              have J_93 : ∀ x_75, v_90 = x_75 → YY l E M_X12_isOdd 7 0 0 (pS (some (zv r)) σ') 141 [some (vr 277), some (vi shape_0), some (zv odd_1), some (vi i_2), some (zv x_20), some (vl x_39), none, some (vl x_51), none, some (vl x_63), none, none, none, none] [vl x_75] σ_24 0 0 := by
                intro x_75 e
                have H := hk_92
                rw [e] at H
                refine z_lstore (M := M_X12_isOdd) (lv' := [some (vr 277), some (vi shape_0), some (zv odd_1), some (vi i_2), some (zv x_20), some (vl x_39), none, some (vl x_51), none, some (vl x_63), none, some (vl x_75), none, none]) dX12_isOdd_141 (Nat.le_of_ble_eq_true rfl) rfl rfl ?_
                refine z_aload_n (M := M_X12_isOdd) dX12_isOdd_143 rfl ?_
                refine z_lload (M := M_X12_isOdd) dX12_isOdd_144 rfl ?_
                refine z_lload (M := M_X12_isOdd) dX12_isOdd_146 rfl ?_
                refine z_lload (M := M_X12_isOdd) dX12_isOdd_148 rfl ?_
                refine z_lload (M := M_X12_isOdd) dX12_isOdd_150 rfl ?_
                obtain ⟨⟨x_78, σ_77⟩, hc_76, H⟩ := bd_e H
                refine z_callV (M := M_X12_isOdd) (M' := M_X12_sideOf) (as := [vl x_39, vl x_51, vl x_63, vl x_75]) (rest := []) rfl rfl dX12_isOdd_152 m_X12_sideOf t_3568 t_3570 s_298 (c_X12_sideOf hl  hc_76) rfl rfl ly_277 rfl (Nat.le_of_ble_eq_true rfl) (Nat.le_of_ble_eq_true rfl) (Nat.le_of_ble_eq_true rfl) (Nat.le_of_ble_eq_true rfl) ?_
                refine z_st (st' := [vi x_78]) rfl ?_
                refine z_istore (M := M_X12_isOdd) (lv' := [some (vr 277), some (vi shape_0), some (zv odd_1), some (vi i_2), some (zv x_20), some (vl x_39), none, some (vl x_51), none, some (vl x_63), none, some (vl x_75), none, some (vi x_78)]) dX12_isOdd_155 (Nat.le_of_ble_eq_true rfl) rfl rfl ?_
                have J_79 : YY l E M_X12_isOdd 7 0 0 (pS (some (zv r)) σ') 191 [some (vr 277), some (vi shape_0), some (zv odd_1), some (vi i_2), some (zv x_20), some (vl x_39), none, some (vl x_51), none, some (vl x_63), none, some (vl x_75), none, some (vi x_78)] [vi (if (w32 x_78) = 0 then (fR_signOf (fR_cross (x_63 - x_39) (x_75 - x_51) (σ_77 kR_offX 0) (σ_77 kR_offY 0))) else x_78)] σ_77 0 0 := by
                  obtain ⟨x_80, x_80_e, H⟩ := lt_e H
                  refine z_st (congrArg (fun z => vi z :: []) x_80_e) ?_
                  refine z_istore (M := M_X12_isOdd) (lv' := [some (vr 277), some (vi shape_0), some (zv odd_1), some (vi i_2), some (zv x_20), some (vl x_39), none, some (vl x_51), none, some (vl x_63), none, some (vl x_75), none, some (vi x_80)]) dX12_isOdd_191 (Nat.le_of_ble_eq_true rfl) rfl rfl ?_
                  have J_83 : YY l E M_X12_isOdd 7 0 0 (pS (some (zv r)) σ') 211 [some (vr 277), some (vi shape_0), some (zv odd_1), some (vi i_2), some (zv x_20), some (vl x_39), none, some (vl x_51), none, some (vl x_63), none, some (vl x_75), none, some (vi x_80)] [zv (if 0 < (w32 x_80) then (decide (¬ (odd_1 = true))) else odd_1 : Bool)] σ_77 0 0 := by
                    obtain ⟨x_84, x_84_e, H⟩ := lt_e H
                    refine z_st (congrArg (fun z => zv z :: []) x_84_e) ?_
                    refine z_zstore_n (M := M_X12_isOdd) (lv' := [some (vr 277), some (vi shape_0), some (zv x_84), some (vi i_2), some (zv x_20), some (vl x_39), none, some (vl x_51), none, some (vl x_63), none, some (vl x_75), none, some (vi x_80)]) dX12_isOdd_211 (Nat.le_of_ble_eq_true rfl) rfl rfl ?_
                    refine z_iinc (M := M_X12_isOdd) (lv' := [some (vr 277), some (vi shape_0), some (zv x_84), some (vi (i_2 + 1)), some (zv x_20), some (vl x_39), none, some (vl x_51), none, some (vl x_63), none, some (vl x_75), none, some (vi x_80)]) dX12_isOdd_212 rfl (Nat.le_of_ble_eq_true rfl) rfl rfl ?_
                    refine z_goto (M := M_X12_isOdd) (tgt := 4) dX12_isOdd_215 (by decide) ?_
                    refine z_le (lv' := [some (vr 277), some (vi shape_0), some (zv x_84), some (vi (i_2 + 1)), none, none, none, none, none, none, none, none, none, none]) ⟨Or.inr rfl, Or.inr rfl, Or.inr rfl, Or.inr rfl, Or.inl rfl, Or.inl rfl, Or.inl rfl, Or.inl rfl, Or.inl rfl, Or.inl rfl, Or.inl rfl, Or.inl rfl, Or.inl rfl, Or.inl rfl, trivial⟩ ?_
                    exact K_9 _ (Option.some.inj H).symm
                  refine z_iload (M := M_X12_isOdd) dX12_isOdd_193 rfl ?_
                  by_cases h_86 : 0 < (w32 x_80)
                  · refine z_if_le_f (M := M_X12_isOdd) (tgt := 210) dX12_isOdd_195 (by decide) rfl h_86 ?_
                    have J_87 : YY l E M_X12_isOdd 7 0 0 (pS (some (zv r)) σ') 211 [some (vr 277), some (vi shape_0), some (zv odd_1), some (vi i_2), some (zv x_20), some (vl x_39), none, some (vl x_51), none, some (vl x_63), none, some (vl x_75), none, some (vi x_80)] [zv (decide (¬ (odd_1 = true)))] σ_77 0 0 := by
                      exact z_st (by rw [if_pos (c := 0 < (w32 x_80)) h_86]) J_83
                    refine z_zload_n (M := M_X12_isOdd) dX12_isOdd_198 rfl ?_
                    by_cases h_88 : odd_1 = true
                    · refine z_zne_t (M := M_X12_isOdd) (tgt := 206) dX12_isOdd_199 (by decide) h_88 ?_
                      refine z_iconst (M := M_X12_isOdd) dX12_isOdd_206 ?_
                      refine z_goto (M := M_X12_isOdd) (tgt := 211) dX12_isOdd_207 (by decide) ?_
                      exact z_st (by rw [zv_f (p := ¬ (odd_1 = true)) (not_not_intro h_88)]) J_87
                    · refine z_zne_f (M := M_X12_isOdd) (tgt := 206) dX12_isOdd_199 (by decide) h_88 ?_
                      refine z_iconst (M := M_X12_isOdd) dX12_isOdd_202 ?_
                      refine z_goto (M := M_X12_isOdd) (tgt := 211) dX12_isOdd_203 (by decide) ?_
                      exact z_st (by rw [zv_t (p := ¬ (odd_1 = true)) h_88]) J_87
                  · refine z_if_le_t (M := M_X12_isOdd) (tgt := 210) dX12_isOdd_195 (by decide) rfl (Int.not_lt.mp h_86) ?_
                    refine z_zload_n (M := M_X12_isOdd) dX12_isOdd_210 rfl ?_
                    exact z_st (by rw [if_neg (c := 0 < (w32 x_80)) h_86]) J_83
                refine z_iload (M := M_X12_isOdd) dX12_isOdd_157 rfl ?_
                by_cases h_89 : (w32 x_78) = 0
                · refine z_if_ne_f (M := M_X12_isOdd) (tgt := 189) dX12_isOdd_159 (by decide) rfl h_89 ?_
                  refine z_lload (M := M_X12_isOdd) dX12_isOdd_162 rfl ?_
                  refine z_lload (M := M_X12_isOdd) dX12_isOdd_164 rfl ?_
                  refine z_lsub (M := M_X12_isOdd) dX12_isOdd_166 ?_
                  refine z_lload (M := M_X12_isOdd) dX12_isOdd_167 rfl ?_
                  refine z_lload (M := M_X12_isOdd) dX12_isOdd_169 rfl ?_
                  refine z_lsub (M := M_X12_isOdd) dX12_isOdd_171 ?_
                  refine z_aload_n (M := M_X12_isOdd) dX12_isOdd_172 rfl ?_
                  refine z_getL (M := M_X12_isOdd) (ci := 15) (C := RX12) (T := TX12) (Nf := 135) (ty := tyX12) cl15 dX12_isOdd_173 ly_277 112 (by decide) t_2503 rfl rfl ?_
                  refine z_aload_n (M := M_X12_isOdd) dX12_isOdd_176 rfl ?_
                  refine z_getL (M := M_X12_isOdd) (ci := 15) (C := RX12) (T := TX12) (Nf := 135) (ty := tyX12) cl15 dX12_isOdd_177 ly_277 113 (by decide) t_2504 rfl rfl ?_
                  refine z_callS (M := M_X12_isOdd) (M' := M_X12_cross) (as := [vl (x_63 - x_39), vl (x_75 - x_51), vl (σ_77 kR_offX 0), vl (σ_77 kR_offY 0)]) (rest := []) rfl rfl dX12_isOdd_180 m_X12_cross t_3265 t_3266 (c_X12_cross hl  rfl) rfl rfl (Nat.le_of_ble_eq_true rfl) (Nat.le_of_ble_eq_true rfl) (Nat.le_of_ble_eq_true rfl) (Nat.le_of_ble_eq_true rfl) ?_
                  refine z_st (st' := [vl (fR_cross (x_63 - x_39) (x_75 - x_51) (σ_77 kR_offX 0) (σ_77 kR_offY 0))]) rfl ?_
                  refine z_callS (M := M_X12_isOdd) (M' := M_X12_signOf) (as := [vl (fR_cross (x_63 - x_39) (x_75 - x_51) (σ_77 kR_offX 0) (σ_77 kR_offY 0))]) (rest := []) rfl rfl dX12_isOdd_183 m_X12_signOf t_3268 t_3269 (c_X12_signOf hl  rfl) rfl rfl (Nat.le_of_ble_eq_true rfl) (Nat.le_of_ble_eq_true rfl) (Nat.le_of_ble_eq_true rfl) (Nat.le_of_ble_eq_true rfl) ?_
                  refine z_st (st' := [vi (fR_signOf (fR_cross (x_63 - x_39) (x_75 - x_51) (σ_77 kR_offX 0) (σ_77 kR_offY 0)))]) rfl ?_
                  refine z_goto (M := M_X12_isOdd) (tgt := 191) dX12_isOdd_186 (by decide) ?_
                  exact z_st (by rw [if_pos (c := (w32 x_78) = 0) h_89]) J_79
                · refine z_if_ne_t (M := M_X12_isOdd) (tgt := 189) dX12_isOdd_159 (by decide) rfl h_89 ?_
                  refine z_iload (M := M_X12_isOdd) dX12_isOdd_189 rfl ?_
                  exact z_st (by rw [if_neg (c := (w32 x_78) = 0) h_89]) J_79
              have H := he_91
              refine z_zload (M := M_X12_isOdd) dX12_isOdd_121 rfl ?_
              rcases if_e H with ⟨h_68, H⟩ | ⟨h_68, H⟩
              · refine z_zeq_f (M := M_X12_isOdd) (tgt := 135) dX12_isOdd_123 (by decide) h_68 ?_
                refine z_aload_n (M := M_X12_isOdd) dX12_isOdd_126 rfl ?_
                refine z_getR (M := M_X12_isOdd) (ci := 15) (C := RX12) (T := TX12) (Nf := 135) (ty := tyX12) cl15 dX12_isOdd_127 ly_277 42 (by decide) t_2433 rfl ?_
                refine z_iload_n (M := M_X12_isOdd) dX12_isOdd_130 rfl ?_
                obtain ⟨x_69, x_69_e, hi_70, H⟩ := rd_e H
                refine z_lald (M := M_X12_isOdd) dX12_isOdd_131 ly_300 rfl rfl rfl hi_70 x_69_e ?_
                refine z_goto (M := M_X12_isOdd) (tgt := 141) dX12_isOdd_132 (by decide) ?_
                exact J_93 _ (Option.some.inj H).symm
              · refine z_zeq_t (M := M_X12_isOdd) (tgt := 135) dX12_isOdd_123 (by decide) h_68 ?_
                refine z_aload_n (M := M_X12_isOdd) dX12_isOdd_135 rfl ?_
                refine z_getR (M := M_X12_isOdd) (ci := 15) (C := RX12) (T := TX12) (Nf := 135) (ty := tyX12) cl15 dX12_isOdd_136 ly_277 44 (by decide) t_2435 rfl ?_
                refine z_iload_n (M := M_X12_isOdd) dX12_isOdd_139 rfl ?_
                obtain ⟨x_72, x_72_e, hi_73, H⟩ := rd_e H
                refine z_lald (M := M_X12_isOdd) dX12_isOdd_140 ly_302 rfl rfl rfl hi_73 x_72_e ?_
                exact J_93 _ (Option.some.inj H).symm
            have H := he_95
            refine z_zload (M := M_X12_isOdd) dX12_isOdd_99 rfl ?_
            rcases if_e H with ⟨h_56, H⟩ | ⟨h_56, H⟩
            · refine z_zeq_f (M := M_X12_isOdd) (tgt := 113) dX12_isOdd_101 (by decide) h_56 ?_
              refine z_aload_n (M := M_X12_isOdd) dX12_isOdd_104 rfl ?_
              refine z_getR (M := M_X12_isOdd) (ci := 15) (C := RX12) (T := TX12) (Nf := 135) (ty := tyX12) cl15 dX12_isOdd_105 ly_277 41 (by decide) t_2432 rfl ?_
              refine z_iload_n (M := M_X12_isOdd) dX12_isOdd_108 rfl ?_
              obtain ⟨x_57, x_57_e, hi_58, H⟩ := rd_e H
              refine z_lald (M := M_X12_isOdd) dX12_isOdd_109 ly_299 rfl rfl rfl hi_58 x_57_e ?_
              refine z_goto (M := M_X12_isOdd) (tgt := 119) dX12_isOdd_110 (by decide) ?_
              exact J_97 _ (Option.some.inj H).symm
            · refine z_zeq_t (M := M_X12_isOdd) (tgt := 113) dX12_isOdd_101 (by decide) h_56 ?_
              refine z_aload_n (M := M_X12_isOdd) dX12_isOdd_113 rfl ?_
              refine z_getR (M := M_X12_isOdd) (ci := 15) (C := RX12) (T := TX12) (Nf := 135) (ty := tyX12) cl15 dX12_isOdd_114 ly_277 43 (by decide) t_2434 rfl ?_
              refine z_iload_n (M := M_X12_isOdd) dX12_isOdd_117 rfl ?_
              obtain ⟨x_60, x_60_e, hi_61, H⟩ := rd_e H
              refine z_lald (M := M_X12_isOdd) dX12_isOdd_118 ly_301 rfl rfl rfl hi_61 x_60_e ?_
              exact J_97 _ (Option.some.inj H).symm
          have H := he_99
          refine z_zload (M := M_X12_isOdd) dX12_isOdd_77 rfl ?_
          rcases if_e H with ⟨h_44, H⟩ | ⟨h_44, H⟩
          · refine z_zeq_f (M := M_X12_isOdd) (tgt := 91) dX12_isOdd_79 (by decide) h_44 ?_
            refine z_aload_n (M := M_X12_isOdd) dX12_isOdd_82 rfl ?_
            refine z_getR (M := M_X12_isOdd) (ci := 15) (C := RX12) (T := TX12) (Nf := 135) (ty := tyX12) cl15 dX12_isOdd_83 ly_277 44 (by decide) t_2435 rfl ?_
            refine z_iload_n (M := M_X12_isOdd) dX12_isOdd_86 rfl ?_
            obtain ⟨x_45, x_45_e, hi_46, H⟩ := rd_e H
            refine z_lald (M := M_X12_isOdd) dX12_isOdd_87 ly_302 rfl rfl rfl hi_46 x_45_e ?_
            refine z_goto (M := M_X12_isOdd) (tgt := 97) dX12_isOdd_88 (by decide) ?_
            exact J_101 _ (Option.some.inj H).symm
          · refine z_zeq_t (M := M_X12_isOdd) (tgt := 91) dX12_isOdd_79 (by decide) h_44 ?_
            refine z_aload_n (M := M_X12_isOdd) dX12_isOdd_91 rfl ?_
            refine z_getR (M := M_X12_isOdd) (ci := 15) (C := RX12) (T := TX12) (Nf := 135) (ty := tyX12) cl15 dX12_isOdd_92 ly_277 42 (by decide) t_2433 rfl ?_
            refine z_iload_n (M := M_X12_isOdd) dX12_isOdd_95 rfl ?_
            obtain ⟨x_48, x_48_e, hi_49, H⟩ := rd_e H
            refine z_lald (M := M_X12_isOdd) dX12_isOdd_96 ly_300 rfl rfl rfl hi_49 x_48_e ?_
            exact J_101 _ (Option.some.inj H).symm
        have H := he_103
        refine z_zload (M := M_X12_isOdd) dX12_isOdd_55 rfl ?_
        rcases if_e H with ⟨h_32, H⟩ | ⟨h_32, H⟩
        · refine z_zeq_f (M := M_X12_isOdd) (tgt := 69) dX12_isOdd_57 (by decide) h_32 ?_
          refine z_aload_n (M := M_X12_isOdd) dX12_isOdd_60 rfl ?_
          refine z_getR (M := M_X12_isOdd) (ci := 15) (C := RX12) (T := TX12) (Nf := 135) (ty := tyX12) cl15 dX12_isOdd_61 ly_277 43 (by decide) t_2434 rfl ?_
          refine z_iload_n (M := M_X12_isOdd) dX12_isOdd_64 rfl ?_
          obtain ⟨x_33, x_33_e, hi_34, H⟩ := rd_e H
          refine z_lald (M := M_X12_isOdd) dX12_isOdd_65 ly_301 rfl rfl rfl hi_34 x_33_e ?_
          refine z_goto (M := M_X12_isOdd) (tgt := 75) dX12_isOdd_66 (by decide) ?_
          exact J_105 _ (Option.some.inj H).symm
        · refine z_zeq_t (M := M_X12_isOdd) (tgt := 69) dX12_isOdd_57 (by decide) h_32 ?_
          refine z_aload_n (M := M_X12_isOdd) dX12_isOdd_69 rfl ?_
          refine z_getR (M := M_X12_isOdd) (ci := 15) (C := RX12) (T := TX12) (Nf := 135) (ty := tyX12) cl15 dX12_isOdd_70 ly_277 41 (by decide) t_2432 rfl ?_
          refine z_iload_n (M := M_X12_isOdd) dX12_isOdd_73 rfl ?_
          obtain ⟨x_36, x_36_e, hi_37, H⟩ := rd_e H
          refine z_lald (M := M_X12_isOdd) dX12_isOdd_74 ly_299 rfl rfl rfl hi_37 x_36_e ?_
          exact J_105 _ (Option.some.inj H).symm
  · refine z_icmp_ge_t (M := M_X12_isOdd) (tgt := 218) dX12_isOdd_9 (by decide) rfl rfl (Int.not_lt.mp h_11) ?_
    exact J_110 _ _ _ (K_10 _ (Option.some.inj H).symm).symm
theorem c_X12_where (hl : l.stackTraces = false) {σ : SG} {shape_0 : Int} {onEdge_0 : Bool} {r : Int} {σ' : SG}  (H : fR_where σ shape_0 onEdge_0 = some (r, σ')) : en_S l E M_X12_where 8 0 0 [vr 277, vi shape_0, zv onEdge_0] σ (pS (some (vi r)) σ') := by
  unfold fR_where at H
  refine z_mk (lv := [some (vr 277), some (vi shape_0), some (zv onEdge_0), none, none, none]) m_X12_where rfl hl (Nat.le_of_ble_eq_true rfl) rfl ?_
  refine z_aload_n (M := M_X12_where) dX12_where_0 rfl ?_
  refine z_lconst (M := M_X12_where) (m := 0) dX12_where_1 (by decide +kernel) ?_
  obtain ⟨σ_1, σ_1_e, H⟩ := wf_e H
  refine z_putL (M := M_X12_where) (ci := 15) (C := RX12) (T := TX12) (Nf := 135) (ty := tyX12) cl15 dX12_where_2 ly_277 112 (by decide) t_2503 rfl rfl rfl rfl σ_1_e ?_
  refine z_aload_n (M := M_X12_where) dX12_where_5 rfl ?_
  refine z_lconst (M := M_X12_where) (m := 0) dX12_where_6 (by decide +kernel) ?_
  obtain ⟨σ_2, σ_2_e, H⟩ := wf_e H
  refine z_putL (M := M_X12_where) (ci := 15) (C := RX12) (T := TX12) (Nf := 135) (ty := tyX12) cl15 dX12_where_7 ly_277 113 (by decide) t_2504 rfl rfl rfl rfl σ_2_e ?_
  refine z_aload_n (M := M_X12_where) dX12_where_10 rfl ?_
  refine z_getR (M := M_X12_where) (ci := 15) (C := RX12) (T := TX12) (Nf := 135) (ty := tyX12) cl15 dX12_where_11 ly_277 100 (by decide) t_2491 rfl ?_
  refine z_iload_n (M := M_X12_where) dX12_where_14 rfl ?_
  obtain ⟨x_3, x_3_e, hi_4, H⟩ := rd_e H
  refine z_iald (M := M_X12_where) dX12_where_15 ly_336 rfl rfl rfl hi_4 x_3_e ?_
  refine z_istore_n (M := M_X12_where) (lv' := [some (vr 277), some (vi shape_0), some (zv onEdge_0), some (vi x_3), none, none]) dX12_where_16 (Nat.le_of_ble_eq_true rfl) rfl rfl ?_
  refine z_zconst (M := M_X12_where) (b := false) dX12_where_17 rfl ?_
  refine z_zstore (M := M_X12_where) (lv' := [some (vr 277), some (vi shape_0), some (zv onEdge_0), some (vi x_3), some (zv false), none]) dX12_where_18 (Nat.le_of_ble_eq_true rfl) rfl rfl ?_
  refine z_aload_n (M := M_X12_where) dX12_where_20 rfl ?_
  refine z_getR (M := M_X12_where) (ci := 15) (C := RX12) (T := TX12) (Nf := 135) (ty := tyX12) cl15 dX12_where_21 ly_277 101 (by decide) t_2492 rfl ?_
  refine z_iload_n (M := M_X12_where) dX12_where_24 rfl ?_
  obtain ⟨x_5, x_5_e, hi_6, H⟩ := rd_e H
  refine z_iald (M := M_X12_where) dX12_where_25 ly_337 rfl rfl rfl hi_6 x_5_e ?_
  rcases if_e H with ⟨h_7, H⟩ | ⟨h_7, H⟩
  · refine z_if_ne_f (M := M_X12_where) (tgt := 87) dX12_where_26 (by decide) rfl h_7 ?_
    refine z_sipush (M := M_X12_where) dX12_where_29 (by decide +kernel) ?_
    refine z_iload_n (M := M_X12_where) dX12_where_32 rfl ?_
    refine z_imul (M := M_X12_where) dX12_where_33 ?_
    refine z_istore (M := M_X12_where) (lv' := [some (vr 277), some (vi shape_0), some (zv onEdge_0), some (vi x_3), some (zv false), some (vi (2048 * x_3))]) dX12_where_34 (Nat.le_of_ble_eq_true rfl) rfl rfl ?_
    obtain ⟨rl_14, hw_11, hk_12⟩ := bd_e H
    have J_45 : ∀ is_40 k_41 σ_42, rl_14 = (is_40, k_41, σ_42) → YY l E M_X12_where 8 0 0 (pS (some (vi r)) σ') 76 [some (vr 277), some (vi shape_0), some (zv onEdge_0), some (vi x_3), some (zv is_40), some (vi k_41)] [] σ_42 0 0 := by
      intro is_40 k_41 σ_42 e
      have H := hk_12
      rw [e] at H
      have J_43 : YY l E M_X12_where 8 0 0 (pS (some (vi r)) σ') 86 [some (vr 277), some (vi shape_0), some (zv onEdge_0), some (vi x_3), some (zv is_40), some (vi k_41)] [vi (if is_40 = true then 0 else 2)] σ_42 0 0 := by
        cases H
        exact z_iret (M := M_X12_where) dX12_where_86 rfl (Nat.le_of_ble_eq_true rfl) (Nat.le_of_ble_eq_true rfl) ⟨rfl, rfl⟩
      refine z_zload (M := M_X12_where) dX12_where_76 rfl ?_
      by_cases h_44 : is_40 = true
      · refine z_zeq_f (M := M_X12_where) (tgt := 85) dX12_where_78 (by decide) h_44 ?_
        refine z_iconst (M := M_X12_where) dX12_where_81 ?_
        refine z_goto (M := M_X12_where) (tgt := 86) dX12_where_82 (by decide) ?_
        exact z_st (by rw [if_pos (c := is_40 = true) h_44]) J_43
      · refine z_zeq_t (M := M_X12_where) (tgt := 85) dX12_where_78 (by decide) h_44 ?_
        refine z_iconst (M := M_X12_where) dX12_where_85 ?_
        exact z_st (by rw [if_neg (c := is_40 = true) h_44]) J_43
    refine whl_go hw_11 (fun (is_8, k_9, σ_10) => YY l E M_X12_where 8 0 0 (pS (some (vi r)) σ') 36 [some (vr 277), some (vi shape_0), some (zv onEdge_0), some (vi x_3), some (zv is_8), some (vi k_9)] [] σ_10 0 0) ?_
    rintro ⟨is_8, k_9, σ_10⟩ o_15 H K_16 K_17
    refine z_zload_n (M := M_X12_where) dX12_where_36 rfl ?_
    rcases if_e H with ⟨h_28, H⟩ | ⟨h_28, H⟩
    · refine z_zne_t (M := M_X12_where) (tgt := 76) dX12_where_37 (by decide) h_28 ?_
      exact J_45 _ _ _ (K_17 _ (Option.some.inj H).symm).symm
    · refine z_zne_f (M := M_X12_where) (tgt := 76) dX12_where_37 (by decide) h_28 ?_
      refine z_zload (M := M_X12_where) dX12_where_40 rfl ?_
      rcases if_e H with ⟨h_30, H⟩ | ⟨h_30, H⟩
      · refine z_zne_t (M := M_X12_where) (tgt := 76) dX12_where_42 (by decide) h_30 ?_
        exact J_45 _ _ _ (K_17 _ (Option.some.inj H).symm).symm
      · refine z_zne_f (M := M_X12_where) (tgt := 76) dX12_where_42 (by decide) h_30 ?_
        refine z_iload (M := M_X12_where) dX12_where_45 rfl ?_
        refine z_sipush (M := M_X12_where) dX12_where_47 (by decide +kernel) ?_
        refine z_iload_n (M := M_X12_where) dX12_where_50 rfl ?_
        refine z_imul (M := M_X12_where) dX12_where_51 ?_
        refine z_aload_n (M := M_X12_where) dX12_where_52 rfl ?_
        refine z_getR (M := M_X12_where) (ci := 15) (C := RX12) (T := TX12) (Nf := 135) (ty := tyX12) cl15 dX12_where_53 ly_277 11 (by decide) t_2402 rfl ?_
        refine z_iload_n (M := M_X12_where) dX12_where_56 rfl ?_
        obtain ⟨x_32, x_32_e, hi_33, H⟩ := rd_e H
        refine z_iald (M := M_X12_where) dX12_where_57 ly_282 rfl rfl rfl hi_33 x_32_e ?_
        refine z_iadd (M := M_X12_where) dX12_where_58 ?_
        rcases if_e H with ⟨h_34, H⟩ | ⟨h_34, H⟩
        · refine z_icmp_ge_f (M := M_X12_where) (tgt := 76) dX12_where_59 (by decide) rfl rfl h_34 ?_
          refine z_aload_n (M := M_X12_where) dX12_where_62 rfl ?_
          refine z_iload (M := M_X12_where) dX12_where_63 rfl ?_
          obtain ⟨⟨x_37, σ_36⟩, hc_35, H⟩ := bd_e H
          refine z_callV (M := M_X12_where) (M' := M_X12_isHere) (as := [vi k_9]) (rest := []) rfl rfl dX12_where_65 m_X12_isHere t_3544 t_3546 s_292 (c_X12_isHere hl  hc_35) rfl rfl ly_277 rfl (Nat.le_of_ble_eq_true rfl) (Nat.le_of_ble_eq_true rfl) (Nat.le_of_ble_eq_true rfl) (Nat.le_of_ble_eq_true rfl) ?_
          refine z_st (st' := [zv x_37]) rfl ?_
          refine z_zstore (M := M_X12_where) (lv' := [some (vr 277), some (vi shape_0), some (zv onEdge_0), some (vi x_3), some (zv x_37), some (vi k_9)]) dX12_where_68 (Nat.le_of_ble_eq_true rfl) rfl rfl ?_
          refine z_iinc (M := M_X12_where) (lv' := [some (vr 277), some (vi shape_0), some (zv onEdge_0), some (vi x_3), some (zv x_37), some (vi (k_9 + 1))]) dX12_where_70 rfl (Nat.le_of_ble_eq_true rfl) rfl rfl ?_
          refine z_goto (M := M_X12_where) (tgt := 36) dX12_where_73 (by decide) ?_
          exact K_16 _ (Option.some.inj H).symm
        · refine z_icmp_ge_t (M := M_X12_where) (tgt := 76) dX12_where_59 (by decide) rfl rfl (Int.not_lt.mp h_34) ?_
          exact J_45 _ _ _ (K_17 _ (Option.some.inj H).symm).symm
  · refine z_if_ne_t (M := M_X12_where) (tgt := 87) dX12_where_26 (by decide) rfl h_7 ?_
    refine z_aload_n (M := M_X12_where) dX12_where_87 rfl ?_
    refine z_getR (M := M_X12_where) (ci := 15) (C := RX12) (T := TX12) (Nf := 135) (ty := tyX12) cl15 dX12_where_88 ly_277 101 (by decide) t_2492 rfl ?_
    refine z_iload_n (M := M_X12_where) dX12_where_91 rfl ?_
    obtain ⟨x_46, x_46_e, hi_47, H⟩ := rd_e H
    refine z_iald (M := M_X12_where) dX12_where_92 ly_337 rfl rfl rfl hi_47 x_46_e ?_
    refine z_iconst (M := M_X12_where) dX12_where_93 ?_
    rcases if_e H with ⟨h_48, H⟩ | ⟨h_48, H⟩
    · refine z_icmp_ne_f (M := M_X12_where) (tgt := 175) dX12_where_94 (by decide) rfl (by decide +kernel) h_48 ?_
      refine z_iconst (M := M_X12_where) dX12_where_97 ?_
      refine z_istore (M := M_X12_where) (lv' := [some (vr 277), some (vi shape_0), some (zv onEdge_0), some (vi x_3), some (zv false), some (vi 0)]) dX12_where_98 (Nat.le_of_ble_eq_true rfl) rfl rfl ?_
      obtain ⟨rl_55, hw_52, hk_53⟩ := bd_e H
      have J_96 : ∀ is_80 k_81 σ_82, rl_55 = (is_80, k_81, σ_82) → YY l E M_X12_where 8 0 0 (pS (some (vi r)) σ') 154 [some (vr 277), some (vi shape_0), some (zv onEdge_0), some (vi x_3), some (zv is_80), some (vi k_81)] [] σ_82 0 0 := by
        intro is_80 k_81 σ_82 e
        have H := hk_53
        rw [e] at H
        refine z_zload (M := M_X12_where) dX12_where_154 rfl ?_
        rcases if_e H with ⟨h_83, H⟩ | ⟨h_83, H⟩
        · refine z_zeq_f (M := M_X12_where) (tgt := 161) dX12_where_156 (by decide) h_83 ?_
          refine z_iconst (M := M_X12_where) dX12_where_159 ?_
          cases H
          exact z_iret (M := M_X12_where) dX12_where_160 rfl (Nat.le_of_ble_eq_true rfl) (Nat.le_of_ble_eq_true rfl) ⟨rfl, rfl⟩
        · refine z_zeq_t (M := M_X12_where) (tgt := 161) dX12_where_156 (by decide) h_83 ?_
          obtain ⟨v_92, he_93, hk_94⟩ := bd_e H
          have J_95 : ∀ x_90 σ_91, v_92 = (x_90, σ_91) → YY l E M_X12_where 8 0 0 (pS (some (vi r)) σ') 174 [some (vr 277), some (vi shape_0), some (zv onEdge_0), some (vi x_3), some (zv is_80), some (vi k_81)] [vi x_90] σ_91 0 0 := by
            intro x_90 σ_91 e
            have H := hk_94
            rw [e] at H
            cases H
            exact z_iret (M := M_X12_where) dX12_where_174 rfl (Nat.le_of_ble_eq_true rfl) (Nat.le_of_ble_eq_true rfl) ⟨rfl, rfl⟩
          have H := he_93
          refine z_aload_n (M := M_X12_where) dX12_where_161 rfl ?_
          refine z_iload_n (M := M_X12_where) dX12_where_162 rfl ?_
          obtain ⟨⟨x_86, σ_85⟩, hc_84, H⟩ := bd_e H
          refine z_callV (M := M_X12_where) (M' := M_X12_isOnSegments) (as := [vi shape_0]) (rest := []) rfl rfl dX12_where_163 m_X12_isOnSegments t_3560 t_3562 s_296 (c_X12_isOnSegments hl  hc_84) rfl rfl ly_277 rfl (Nat.le_of_ble_eq_true rfl) (Nat.le_of_ble_eq_true rfl) (Nat.le_of_ble_eq_true rfl) (Nat.le_of_ble_eq_true rfl) ?_
          refine z_st (st' := [zv x_86]) rfl ?_
          rcases if_e H with ⟨h_87, H⟩ | ⟨h_87, H⟩
          · refine z_zeq_f (M := M_X12_where) (tgt := 173) dX12_where_166 (by decide) h_87 ?_
            refine z_iconst (M := M_X12_where) dX12_where_169 ?_
            refine z_goto (M := M_X12_where) (tgt := 174) dX12_where_170 (by decide) ?_
            exact J_95 _ _ (Option.some.inj H).symm
          · refine z_zeq_t (M := M_X12_where) (tgt := 173) dX12_where_166 (by decide) h_87 ?_
            refine z_iconst (M := M_X12_where) dX12_where_173 ?_
            exact J_95 _ _ (Option.some.inj H).symm
      refine whl_go hw_52 (fun (is_49, k_50, σ_51) => YY l E M_X12_where 8 0 0 (pS (some (vi r)) σ') 100 [some (vr 277), some (vi shape_0), some (zv onEdge_0), some (vi x_3), some (zv is_49), some (vi k_50)] [] σ_51 0 0) ?_
      rintro ⟨is_49, k_50, σ_51⟩ o_56 H K_57 K_58
      refine z_iload (M := M_X12_where) dX12_where_100 rfl ?_
      refine z_aload_n (M := M_X12_where) dX12_where_102 rfl ?_
      refine z_getR (M := M_X12_where) (ci := 15) (C := RX12) (T := TX12) (Nf := 135) (ty := tyX12) cl15 dX12_where_103 ly_277 106 (by decide) t_2497 rfl ?_
      refine z_iload_n (M := M_X12_where) dX12_where_106 rfl ?_
      obtain ⟨x_59, x_59_e, hi_60, H⟩ := rd_e H
      refine z_iald (M := M_X12_where) dX12_where_107 ly_342 rfl rfl rfl hi_60 x_59_e ?_
      rcases if_e H with ⟨h_61, H⟩ | ⟨h_61, H⟩
      · refine z_icmp_ge_f (M := M_X12_where) (tgt := 154) dX12_where_108 (by decide) rfl rfl h_61 ?_
        obtain ⟨v_75, he_76, hk_77⟩ := bd_e H
        have J_78 : ∀ x_72 σ_73, v_75 = (x_72, σ_73) → YY l E M_X12_where 8 0 0 (pS (some (vi r)) σ') 146 [some (vr 277), some (vi shape_0), some (zv onEdge_0), some (vi x_3), some (zv is_49), some (vi k_50)] [zv x_72] σ_73 0 0 := by
          intro x_72 σ_73 e
          have H := hk_77
          rw [e] at H
          refine z_zstore (M := M_X12_where) (lv' := [some (vr 277), some (vi shape_0), some (zv onEdge_0), some (vi x_3), some (zv x_72), some (vi k_50)]) dX12_where_146 (Nat.le_of_ble_eq_true rfl) rfl rfl ?_
          refine z_iinc (M := M_X12_where) (lv' := [some (vr 277), some (vi shape_0), some (zv onEdge_0), some (vi x_3), some (zv x_72), some (vi (k_50 + 1))]) dX12_where_148 rfl (Nat.le_of_ble_eq_true rfl) rfl rfl ?_
          refine z_goto (M := M_X12_where) (tgt := 100) dX12_where_151 (by decide) ?_
          exact K_57 _ (Option.some.inj H).symm
        have H := he_76
        refine z_aload_n (M := M_X12_where) dX12_where_111 rfl ?_
        refine z_aload_n (M := M_X12_where) dX12_where_112 rfl ?_
        refine z_getR (M := M_X12_where) (ci := 15) (C := RX12) (T := TX12) (Nf := 135) (ty := tyX12) cl15 dX12_where_113 ly_277 105 (by decide) t_2496 rfl ?_
        refine z_sipush (M := M_X12_where) dX12_where_116 (by decide +kernel) ?_
        refine z_iload_n (M := M_X12_where) dX12_where_119 rfl ?_
        refine z_imul (M := M_X12_where) dX12_where_120 ?_
        refine z_iload (M := M_X12_where) dX12_where_121 rfl ?_
        refine z_iadd (M := M_X12_where) dX12_where_123 ?_
        obtain ⟨x_62, x_62_e, hi_63, H⟩ := rd_e H
        refine z_iald (M := M_X12_where) dX12_where_124 ly_341 rfl rfl rfl hi_63 x_62_e ?_
        obtain ⟨⟨x_66, σ_65⟩, hc_64, H⟩ := bd_e H
        refine z_callV (M := M_X12_where) (M' := M_X12_isHere) (as := [vi x_62]) (rest := []) rfl rfl dX12_where_125 m_X12_isHere t_3544 t_3546 s_292 (c_X12_isHere hl  hc_64) rfl rfl ly_277 rfl (Nat.le_of_ble_eq_true rfl) (Nat.le_of_ble_eq_true rfl) (Nat.le_of_ble_eq_true rfl) (Nat.le_of_ble_eq_true rfl) ?_
        refine z_st (st' := [zv x_66]) rfl ?_
        rcases if_e H with ⟨h_67, H⟩ | ⟨h_67, H⟩
        · refine z_zeq_f (M := M_X12_where) (tgt := 144) dX12_where_128 (by decide) h_67 ?_
          have J_68 : YY l E M_X12_where 8 0 0 (pS (some (vi r)) σ') 146 [some (vr 277), some (vi shape_0), some (zv onEdge_0), some (vi x_3), some (zv is_49), some (vi k_50)] [zv (decide (¬ (is_49 = true)))] σ_65 0 0 := by
            exact J_78 _ _ (Option.some.inj H).symm
          refine z_zload (M := M_X12_where) dX12_where_131 rfl ?_
          by_cases h_70 : is_49 = true
          · refine z_zne_t (M := M_X12_where) (tgt := 140) dX12_where_133 (by decide) h_70 ?_
            refine z_iconst (M := M_X12_where) dX12_where_140 ?_
            refine z_goto (M := M_X12_where) (tgt := 146) dX12_where_141 (by decide) ?_
            exact z_st (by rw [zv_f (p := ¬ (is_49 = true)) (not_not_intro h_70)]) J_68
          · refine z_zne_f (M := M_X12_where) (tgt := 140) dX12_where_133 (by decide) h_70 ?_
            refine z_iconst (M := M_X12_where) dX12_where_136 ?_
            refine z_goto (M := M_X12_where) (tgt := 146) dX12_where_137 (by decide) ?_
            exact z_st (by rw [zv_t (p := ¬ (is_49 = true)) h_70]) J_68
        · refine z_zeq_t (M := M_X12_where) (tgt := 144) dX12_where_128 (by decide) h_67 ?_
          refine z_zload (M := M_X12_where) dX12_where_144 rfl ?_
          exact J_78 _ _ (Option.some.inj H).symm
      · refine z_icmp_ge_t (M := M_X12_where) (tgt := 154) dX12_where_108 (by decide) rfl rfl (Int.not_lt.mp h_61) ?_
        exact J_96 _ _ _ (K_58 _ (Option.some.inj H).symm).symm
    · refine z_icmp_ne_t (M := M_X12_where) (tgt := 175) dX12_where_94 (by decide) rfl (by decide +kernel) h_48 ?_
      refine z_aload_n (M := M_X12_where) dX12_where_175 rfl ?_
      refine z_iload_n (M := M_X12_where) dX12_where_176 rfl ?_
      obtain ⟨⟨x_99, σ_98⟩, hc_97, H⟩ := bd_e H
      refine z_callV (M := M_X12_where) (M' := M_X12_isOnSegments) (as := [vi shape_0]) (rest := []) rfl rfl dX12_where_177 m_X12_isOnSegments t_3560 t_3562 s_296 (c_X12_isOnSegments hl  hc_97) rfl rfl ly_277 rfl (Nat.le_of_ble_eq_true rfl) (Nat.le_of_ble_eq_true rfl) (Nat.le_of_ble_eq_true rfl) (Nat.le_of_ble_eq_true rfl) ?_
      refine z_st (st' := [zv x_99]) rfl ?_
      rcases if_e H with ⟨h_100, H⟩ | ⟨h_100, H⟩
      · refine z_zeq_f (M := M_X12_where) (tgt := 185) dX12_where_180 (by decide) h_100 ?_
        refine z_iconst (M := M_X12_where) dX12_where_183 ?_
        cases H
        exact z_iret (M := M_X12_where) dX12_where_184 rfl (Nat.le_of_ble_eq_true rfl) (Nat.le_of_ble_eq_true rfl) ⟨rfl, rfl⟩
      · refine z_zeq_t (M := M_X12_where) (tgt := 185) dX12_where_180 (by decide) h_100 ?_
        obtain ⟨v_109, he_110, hk_111⟩ := bd_e H
        have J_112 : ∀ x_107 σ_108, v_109 = (x_107, σ_108) → YY l E M_X12_where 8 0 0 (pS (some (vi r)) σ') 198 [some (vr 277), some (vi shape_0), some (zv onEdge_0), some (vi x_3), some (zv false), none] [vi x_107] σ_108 0 0 := by
          intro x_107 σ_108 e
          have H := hk_111
          rw [e] at H
          cases H
          exact z_iret (M := M_X12_where) dX12_where_198 rfl (Nat.le_of_ble_eq_true rfl) (Nat.le_of_ble_eq_true rfl) ⟨rfl, rfl⟩
        have H := he_110
        refine z_aload_n (M := M_X12_where) dX12_where_185 rfl ?_
        refine z_iload_n (M := M_X12_where) dX12_where_186 rfl ?_
        obtain ⟨⟨x_103, σ_102⟩, hc_101, H⟩ := bd_e H
        refine z_callV (M := M_X12_where) (M' := M_X12_isOdd) (as := [vi shape_0]) (rest := []) rfl rfl dX12_where_187 m_X12_isOdd t_3572 t_3574 s_299 (c_X12_isOdd hl  hc_101) rfl rfl ly_277 rfl (Nat.le_of_ble_eq_true rfl) (Nat.le_of_ble_eq_true rfl) (Nat.le_of_ble_eq_true rfl) (Nat.le_of_ble_eq_true rfl) ?_
        refine z_st (st' := [zv x_103]) rfl ?_
        rcases if_e H with ⟨h_104, H⟩ | ⟨h_104, H⟩
        · refine z_zeq_f (M := M_X12_where) (tgt := 197) dX12_where_190 (by decide) h_104 ?_
          refine z_iconst (M := M_X12_where) dX12_where_193 ?_
          refine z_goto (M := M_X12_where) (tgt := 198) dX12_where_194 (by decide) ?_
          exact J_112 _ _ (Option.some.inj H).symm
        · refine z_zeq_t (M := M_X12_where) (tgt := 197) dX12_where_190 (by decide) h_104 ?_
          refine z_iconst (M := M_X12_where) dX12_where_197 ?_
          exact J_112 _ _ (Option.some.inj H).symm
theorem c_X12_beside (hl : l.stackTraces = false) {σ : SG} {shape_0 : Int} {itself_0 : Int} {r : Int} {σ' : SG}  (H : fR_beside σ shape_0 itself_0 = some (r, σ')) : en_S l E M_X12_beside 8 0 0 [vr 277, vi shape_0, vi itself_0] σ (pS (some (vi r)) σ') := by
  unfold fR_beside at H
  refine z_mk (lv := [some (vr 277), some (vi shape_0), some (vi itself_0), none]) m_X12_beside rfl hl (Nat.le_of_ble_eq_true rfl) rfl ?_
  refine z_aload_n (M := M_X12_beside) dX12_beside_0 rfl ?_
  refine z_getR (M := M_X12_beside) (ci := 15) (C := RX12) (T := TX12) (Nf := 135) (ty := tyX12) cl15 dX12_beside_1 ly_277 101 (by decide) t_2492 rfl ?_
  refine z_iload_n (M := M_X12_beside) dX12_beside_4 rfl ?_
  obtain ⟨x_1, x_1_e, hi_2, H⟩ := rd_e H
  refine z_iald (M := M_X12_beside) dX12_beside_5 ly_337 rfl rfl rfl hi_2 x_1_e ?_
  refine z_iconst (M := M_X12_beside) dX12_beside_6 ?_
  rcases if_e H with ⟨h_3, H⟩ | ⟨h_3, H⟩
  · refine z_icmp_ge_f (M := M_X12_beside) (tgt := 12) dX12_beside_7 (by decide) rfl (by decide +kernel) h_3 ?_
    refine z_iconst (M := M_X12_beside) dX12_beside_10 ?_
    cases H
    exact z_iret (M := M_X12_beside) dX12_beside_11 rfl (Nat.le_of_ble_eq_true rfl) (Nat.le_of_ble_eq_true rfl) ⟨rfl, rfl⟩
  · refine z_icmp_ge_t (M := M_X12_beside) (tgt := 12) dX12_beside_7 (by decide) rfl (by decide +kernel) (Int.not_lt.mp h_3) ?_
    obtain ⟨v_47, he_48, hk_49⟩ := bd_e H
    have J_50 : ∀ x_31 σ_32, v_47 = (x_31, σ_32) → YY l E M_X12_beside 8 0 0 (pS (some (vi r)) σ') 34 [some (vr 277), some (vi shape_0), some (vi itself_0), none] [vi x_31] σ_32 0 0 := by
      intro x_31 σ_32 e
      have H := hk_49
      rw [e] at H
      refine z_istore_n (M := M_X12_beside) (lv' := [some (vr 277), some (vi shape_0), some (vi itself_0), some (vi x_31)]) dX12_beside_34 (Nat.le_of_ble_eq_true rfl) rfl rfl ?_
      refine z_aload_n (M := M_X12_beside) dX12_beside_35 rfl ?_
      refine z_getR (M := M_X12_beside) (ci := 15) (C := RX12) (T := TX12) (Nf := 135) (ty := tyX12) cl15 dX12_beside_36 ly_277 104 (by decide) t_2495 rfl ?_
      refine z_iload_n (M := M_X12_beside) dX12_beside_39 rfl ?_
      obtain ⟨v_43, he_44, hk_45⟩ := bd_e H
      have J_46 : ∀ x_40, v_43 = x_40 → YY l E M_X12_beside 8 0 0 (pS (some (vi r)) σ') 58 [some (vr 277), some (vi shape_0), some (vi itself_0), some (vi x_31)] [zv x_40, vi shape_0, vr 340] σ_32 0 0 := by
        intro x_40 e
        have H := hk_45
        rw [e] at H
        obtain ⟨σ_41, σ_41_e, hi_42, H⟩ := wa_e H
        refine z_zast (M := M_X12_beside) dX12_beside_58 ly_340 rfl rfl rfl hi_42 σ_41_e ?_
        refine z_iload_n (M := M_X12_beside) dX12_beside_59 rfl ?_
        cases H
        exact z_iret (M := M_X12_beside) dX12_beside_60 rfl (Nat.le_of_ble_eq_true rfl) (Nat.le_of_ble_eq_true rfl) ⟨rfl, rfl⟩
      have H := he_44
      refine z_aload_n (M := M_X12_beside) dX12_beside_40 rfl ?_
      refine z_getR (M := M_X12_beside) (ci := 15) (C := RX12) (T := TX12) (Nf := 135) (ty := tyX12) cl15 dX12_beside_41 ly_277 104 (by decide) t_2495 rfl ?_
      refine z_iload_n (M := M_X12_beside) dX12_beside_44 rfl ?_
      obtain ⟨x_33, x_33_e, hi_34, H⟩ := rd_e H
      refine z_zald (M := M_X12_beside) dX12_beside_45 ly_340 rfl rfl rfl hi_34 x_33_e ?_
      rcases if_e H with ⟨h_35, H⟩ | ⟨h_35, H⟩
      · refine z_zne_t (M := M_X12_beside) (tgt := 53) dX12_beside_46 (by decide) h_35 ?_
        refine z_zconst (M := M_X12_beside) (b := true) dX12_beside_53 rfl ?_
        refine z_goto (M := M_X12_beside) (tgt := 58) dX12_beside_54 (by decide) ?_
        exact J_46 _ (Option.some.inj H).symm
      · refine z_zne_f (M := M_X12_beside) (tgt := 53) dX12_beside_46 (by decide) h_35 ?_
        refine z_iload_n (M := M_X12_beside) dX12_beside_49 rfl ?_
        rcases if_e H with ⟨h_37, H⟩ | ⟨h_37, H⟩
        · refine z_if_ne_f (M := M_X12_beside) (tgt := 57) dX12_beside_50 (by decide) rfl h_37 ?_
          refine z_zconst (M := M_X12_beside) (b := true) dX12_beside_53 rfl ?_
          refine z_goto (M := M_X12_beside) (tgt := 58) dX12_beside_54 (by decide) ?_
          exact J_46 _ (Option.some.inj H).symm
        · refine z_if_ne_t (M := M_X12_beside) (tgt := 57) dX12_beside_50 (by decide) rfl h_37 ?_
          refine z_zconst (M := M_X12_beside) (b := false) dX12_beside_57 rfl ?_
          exact J_46 _ (Option.some.inj H).symm
    have H := he_48
    refine z_iload_n (M := M_X12_beside) dX12_beside_12 rfl ?_
    refine z_iconst (M := M_X12_beside) dX12_beside_13 ?_
    rcases if_e H with ⟨h_16, H⟩ | ⟨h_16, H⟩
    · refine z_icmp_ne_f (M := M_X12_beside) (tgt := 33) dX12_beside_14 (by decide) rfl (by decide +kernel) h_16 ?_
      obtain ⟨v_26, he_27, hk_28⟩ := bd_e H
      have J_29 : ∀ x_23 σ_24, v_26 = (x_23, σ_24) → YY l E M_X12_beside 8 0 0 (pS (some (vi r)) σ') 34 [some (vr 277), some (vi shape_0), some (vi itself_0), none] [vi x_23] σ_24 0 0 := by
        intro x_23 σ_24 e
        have H := hk_28
        rw [e] at H
        exact J_50 _ _ (Option.some.inj H).symm
      have H := he_27
      refine z_aload_n (M := M_X12_beside) dX12_beside_17 rfl ?_
      refine z_iload_n (M := M_X12_beside) dX12_beside_18 rfl ?_
      obtain ⟨⟨x_19, σ_18⟩, hc_17, H⟩ := bd_e H
      refine z_callV (M := M_X12_beside) (M' := M_X12_isOdd) (as := [vi shape_0]) (rest := []) rfl rfl dX12_beside_19 m_X12_isOdd t_3572 t_3574 s_299 (c_X12_isOdd hl  hc_17) rfl rfl ly_277 rfl (Nat.le_of_ble_eq_true rfl) (Nat.le_of_ble_eq_true rfl) (Nat.le_of_ble_eq_true rfl) (Nat.le_of_ble_eq_true rfl) ?_
      refine z_st (st' := [zv x_19]) rfl ?_
      rcases if_e H with ⟨h_20, H⟩ | ⟨h_20, H⟩
      · refine z_zeq_f (M := M_X12_beside) (tgt := 29) dX12_beside_22 (by decide) h_20 ?_
        refine z_iconst (M := M_X12_beside) dX12_beside_25 ?_
        refine z_goto (M := M_X12_beside) (tgt := 34) dX12_beside_26 (by decide) ?_
        exact J_29 _ _ (Option.some.inj H).symm
      · refine z_zeq_t (M := M_X12_beside) (tgt := 29) dX12_beside_22 (by decide) h_20 ?_
        refine z_iconst (M := M_X12_beside) dX12_beside_29 ?_
        refine z_goto (M := M_X12_beside) (tgt := 34) dX12_beside_30 (by decide) ?_
        exact J_29 _ _ (Option.some.inj H).symm
    · refine z_icmp_ne_t (M := M_X12_beside) (tgt := 33) dX12_beside_14 (by decide) rfl (by decide +kernel) h_16 ?_
      refine z_iload_n (M := M_X12_beside) dX12_beside_33 rfl ?_
      exact J_50 _ _ (Option.some.inj H).symm
theorem c_X12_mark (hl : l.stackTraces = false) {σ : SG} {a_0 : Int} {b_0 : Int} {dimension_0 : Int} {σ' : SG}  (H : fR_mark σ a_0 b_0 dimension_0 = some σ') : en_S l E M_X12_mark 1 0 0 [vr 277, vi a_0, vi b_0, vi dimension_0] σ (pS (none) σ') := by
  unfold fR_mark at H
  refine z_mk (lv := [some (vr 277), some (vi a_0), some (vi b_0), some (vi dimension_0), none]) m_X12_mark rfl hl (Nat.le_of_ble_eq_true rfl) rfl ?_
  refine z_iconst (M := M_X12_mark) dX12_mark_0 ?_
  refine z_iload_n (M := M_X12_mark) dX12_mark_1 rfl ?_
  refine z_imul (M := M_X12_mark) dX12_mark_2 ?_
  refine z_iload_n (M := M_X12_mark) dX12_mark_3 rfl ?_
  refine z_iadd (M := M_X12_mark) dX12_mark_4 ?_
  refine z_istore (M := M_X12_mark) (lv' := [some (vr 277), some (vi a_0), some (vi b_0), some (vi dimension_0), some (vi ((3 * a_0) + b_0))]) dX12_mark_5 (Nat.le_of_ble_eq_true rfl) rfl rfl ?_
  refine z_aload_n (M := M_X12_mark) dX12_mark_7 rfl ?_
  refine z_getR (M := M_X12_mark) (ci := 15) (C := RX12) (T := TX12) (Nf := 135) (ty := tyX12) cl15 dX12_mark_8 ly_277 107 (by decide) t_2498 rfl ?_
  refine z_iload (M := M_X12_mark) dX12_mark_11 rfl ?_
  obtain ⟨v_11, he_12, hk_13⟩ := bd_e H
  have J_14 : ∀ x_8, v_11 = x_8 → YY l E M_X12_mark 1 0 0 (pS (none) σ') 35 [some (vr 277), some (vi a_0), some (vi b_0), some (vi dimension_0), some (vi ((3 * a_0) + b_0))] [vi x_8, vi ((3 * a_0) + b_0), vr 343] σ 0 0 := by
    intro x_8 e
    have H := hk_13
    rw [e] at H
    obtain ⟨σ_9, σ_9_e, hi_10, H⟩ := wa_e H
    refine z_iast (M := M_X12_mark) dX12_mark_35 ly_343 rfl rfl rfl hi_10 σ_9_e ?_
    cases H
    exact z_vret (M := M_X12_mark) dX12_mark_36 rfl (Nat.le_of_ble_eq_true rfl) (Nat.le_of_ble_eq_true rfl) ⟨rfl, rfl⟩
  have H := he_12
  refine z_aload_n (M := M_X12_mark) dX12_mark_13 rfl ?_
  refine z_getR (M := M_X12_mark) (ci := 15) (C := RX12) (T := TX12) (Nf := 135) (ty := tyX12) cl15 dX12_mark_14 ly_277 107 (by decide) t_2498 rfl ?_
  refine z_iload (M := M_X12_mark) dX12_mark_17 rfl ?_
  obtain ⟨x_1, x_1_e, hi_2, H⟩ := rd_e H
  refine z_iald (M := M_X12_mark) dX12_mark_19 ly_343 rfl rfl rfl hi_2 x_1_e ?_
  refine z_iload_n (M := M_X12_mark) dX12_mark_20 rfl ?_
  rcases if_e H with ⟨h_3, H⟩ | ⟨h_3, H⟩
  · refine z_icmp_ge_f (M := M_X12_mark) (tgt := 28) dX12_mark_21 (by decide) rfl rfl h_3 ?_
    refine z_iload_n (M := M_X12_mark) dX12_mark_24 rfl ?_
    refine z_goto (M := M_X12_mark) (tgt := 35) dX12_mark_25 (by decide) ?_
    exact J_14 _ (Option.some.inj H).symm
  · refine z_icmp_ge_t (M := M_X12_mark) (tgt := 28) dX12_mark_21 (by decide) rfl rfl (Int.not_lt.mp h_3) ?_
    refine z_aload_n (M := M_X12_mark) dX12_mark_28 rfl ?_
    refine z_getR (M := M_X12_mark) (ci := 15) (C := RX12) (T := TX12) (Nf := 135) (ty := tyX12) cl15 dX12_mark_29 ly_277 107 (by decide) t_2498 rfl ?_
    refine z_iload (M := M_X12_mark) dX12_mark_32 rfl ?_
    obtain ⟨x_5, x_5_e, hi_6, H⟩ := rd_e H
    refine z_iald (M := M_X12_mark) dX12_mark_34 ly_343 rfl rfl rfl hi_6 x_5_e ?_
    exact J_14 _ (Option.some.inj H).symm
theorem c_X12_wholePlace (hl : l.stackTraces = false) {σ : SG} {x_0 : Int} {y_0 : Int} {σ' : SG}  (H : fR_wholePlace σ x_0 y_0 = some σ') : en_S l E M_X12_wholePlace 3 0 0 [vr 277, vl x_0, vl y_0] σ (pS (none) σ') := by
  unfold fR_wholePlace at H
  refine z_mk (lv := [some (vr 277), some (vl x_0), none, some (vl y_0), none]) m_X12_wholePlace rfl hl (Nat.le_of_ble_eq_true rfl) rfl ?_
  refine z_aload_n (M := M_X12_wholePlace) dX12_wholePlace_0 rfl ?_
  refine z_lload_n (M := M_X12_wholePlace) dX12_wholePlace_1 rfl ?_
  obtain ⟨σ_1, σ_1_e, H⟩ := wf_e H
  refine z_putL (M := M_X12_wholePlace) (ci := 15) (C := RX12) (T := TX12) (Nf := 135) (ty := tyX12) cl15 dX12_wholePlace_2 ly_277 108 (by decide) t_2499 rfl rfl rfl rfl σ_1_e ?_
  refine z_aload_n (M := M_X12_wholePlace) dX12_wholePlace_5 rfl ?_
  refine z_lload_n (M := M_X12_wholePlace) dX12_wholePlace_6 rfl ?_
  obtain ⟨σ_2, σ_2_e, H⟩ := wf_e H
  refine z_putL (M := M_X12_wholePlace) (ci := 15) (C := RX12) (T := TX12) (Nf := 135) (ty := tyX12) cl15 dX12_wholePlace_7 ly_277 109 (by decide) t_2500 rfl rfl rfl rfl σ_2_e ?_
  refine z_aload_n (M := M_X12_wholePlace) dX12_wholePlace_10 rfl ?_
  refine z_lconst (M := M_X12_wholePlace) (m := 0) dX12_wholePlace_11 (by decide +kernel) ?_
  obtain ⟨σ_3, σ_3_e, H⟩ := wf_e H
  refine z_putL (M := M_X12_wholePlace) (ci := 15) (C := RX12) (T := TX12) (Nf := 135) (ty := tyX12) cl15 dX12_wholePlace_12 ly_277 110 (by decide) t_2501 rfl rfl rfl rfl σ_3_e ?_
  refine z_aload_n (M := M_X12_wholePlace) dX12_wholePlace_15 rfl ?_
  refine z_lconst (M := M_X12_wholePlace) (m := 0) dX12_wholePlace_16 (by decide +kernel) ?_
  obtain ⟨σ_4, σ_4_e, H⟩ := wf_e H
  refine z_putL (M := M_X12_wholePlace) (ci := 15) (C := RX12) (T := TX12) (Nf := 135) (ty := tyX12) cl15 dX12_wholePlace_17 ly_277 111 (by decide) t_2502 rfl rfl rfl rfl σ_4_e ?_
  refine z_aload_n (M := M_X12_wholePlace) dX12_wholePlace_20 rfl ?_
  refine z_iconst (M := M_X12_wholePlace) dX12_wholePlace_21 ?_
  refine z_lconst (M := M_X12_wholePlace) (m := 0) dX12_wholePlace_22 (by decide +kernel) ?_
  obtain ⟨σ_6, hc_5, H⟩ := bd_e H
  refine z_callV (M := M_X12_wholePlace) (M' := M_X12_set) (as := [vi 0, vl 0]) (rest := []) rfl rfl dX12_wholePlace_23 m_X12_set t_3210 t_3212 s_222 (c_X12_set hl  hc_5) rfl rfl ly_277 rfl (Nat.le_of_ble_eq_true rfl) (Nat.le_of_ble_eq_true rfl) (Nat.le_of_ble_eq_true rfl) (Nat.le_of_ble_eq_true rfl) ?_
  refine z_st (st' := []) rfl ?_
  refine z_aload_n (M := M_X12_wholePlace) dX12_wholePlace_26 rfl ?_
  refine z_iconst (M := M_X12_wholePlace) dX12_wholePlace_27 ?_
  refine z_lconst (M := M_X12_wholePlace) (m := 1) dX12_wholePlace_28 (by decide +kernel) ?_
  obtain ⟨σ_8, hc_7, H⟩ := bd_e H
  refine z_callV (M := M_X12_wholePlace) (M' := M_X12_set) (as := [vi 1, vl 1]) (rest := []) rfl rfl dX12_wholePlace_29 m_X12_set t_3210 t_3212 s_222 (c_X12_set hl  hc_7) rfl rfl ly_277 rfl (Nat.le_of_ble_eq_true rfl) (Nat.le_of_ble_eq_true rfl) (Nat.le_of_ble_eq_true rfl) (Nat.le_of_ble_eq_true rfl) ?_
  refine z_st (st' := []) rfl ?_
  cases H
  exact z_vret (M := M_X12_wholePlace) dX12_wholePlace_32 rfl (Nat.le_of_ble_eq_true rfl) (Nat.le_of_ble_eq_true rfl) ⟨rfl, rfl⟩
end LFAZ
