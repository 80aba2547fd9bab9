section LFAW
variable {l : Launch} {E : EE}
theorem c_X12_judge (hl : l.stackTraces = false) {σ : SG} {slot_0 : Int} {r : Int} {σ' : SG}  (H : fR_judge σ slot_0 = some (r, σ')) : en_S l E M_X12_judge 8 0 0 [vr 277, vi slot_0] σ (pS (some (vi r)) σ') := by
  unfold fR_judge at H
  refine z_mk (lv := [some (vr 277), some (vi slot_0), none, none, none, none, none, none, none, none, none]) m_X12_judge rfl hl (Nat.le_of_ble_eq_true rfl) rfl ?_
  refine z_aload_n (M := M_X12_judge) dX12_judge_0 rfl ?_
  refine z_iconst (M := M_X12_judge) dX12_judge_1 ?_
  obtain ⟨σ_1, σ_1_e, H⟩ := wf_e H
  refine z_putI (M := M_X12_judge) (ci := 15) (C := RX12) (T := TX12) (Nf := 135) (ty := tyX12) cl15 dX12_judge_2 ly_277 0 (by decide) t_2391 rfl rfl rfl rfl σ_1_e ?_
  refine z_aload_n (M := M_X12_judge) dX12_judge_5 rfl ?_
  have J_25 : YY l E M_X12_judge 8 0 0 (pS (some (vi r)) σ') 18 [some (vr 277), some (vi slot_0), none, none, none, none, none, none, none, none, none] [zv (decide (¬ ((fR_isSlot slot_0) = true))), vr 277] σ_1 0 0 := by
    refine z_iconst (M := M_X12_judge) dX12_judge_18 ?_
    obtain ⟨⟨x_28, σ_27⟩, hc_26, H⟩ := bd_e H
    refine z_callV (M := M_X12_judge) (M' := M_X12_fails) (as := [zv (decide (¬ ((fR_isSlot slot_0) = true))), vi 1]) (rest := []) rfl rfl dX12_judge_19 m_X12_fails t_2805 t_2807 s_157 (c_X12_fails hl  hc_26) rfl rfl ly_277 rfl (Nat.le_of_ble_eq_true rfl) (Nat.le_of_ble_eq_true rfl) (Nat.le_of_ble_eq_true rfl) (Nat.le_of_ble_eq_true rfl) ?_
    refine z_st (st' := [zv x_28]) rfl ?_
    rcases if_e H with ⟨h_29, H⟩ | ⟨h_29, H⟩
    · refine z_zne_t (M := M_X12_judge) (tgt := 46) dX12_judge_22 (by decide) h_29 ?_
      refine z_iconst (M := M_X12_judge) dX12_judge_46 ?_
      cases H
      exact z_iret (M := M_X12_judge) dX12_judge_47 rfl (Nat.le_of_ble_eq_true rfl) (Nat.le_of_ble_eq_true rfl) ⟨rfl, rfl⟩
    · refine z_zne_f (M := M_X12_judge) (tgt := 46) dX12_judge_22 (by decide) h_29 ?_
      refine z_aload_n (M := M_X12_judge) dX12_judge_25 rfl ?_
      obtain ⟨v_176, he_177, hk_178⟩ := bd_e H
      have J_179 : ∀ x_35, v_176 = x_35 → YY l E M_X12_judge 8 0 0 (pS (some (vi r)) σ') 39 [some (vr 277), some (vi slot_0), none, none, none, none, none, none, none, none, none] [zv x_35, vr 277] σ_27 0 0 := by
        intro x_35 e
        have H := hk_178
        rw [e] at H
        refine z_iconst (M := M_X12_judge) dX12_judge_39 ?_
        obtain ⟨⟨x_38, σ_37⟩, hc_36, H⟩ := bd_e H
        refine z_callV (M := M_X12_judge) (M' := M_X12_fails) (as := [zv x_35, vi 2]) (rest := []) rfl rfl dX12_judge_40 m_X12_fails t_2805 t_2807 s_157 (c_X12_fails hl  hc_36) rfl rfl ly_277 rfl (Nat.le_of_ble_eq_true rfl) (Nat.le_of_ble_eq_true rfl) (Nat.le_of_ble_eq_true rfl) (Nat.le_of_ble_eq_true rfl) ?_
        refine z_st (st' := [zv x_38]) rfl ?_
        rcases if_e H with ⟨h_39, H⟩ | ⟨h_39, H⟩
        · refine z_zeq_f (M := M_X12_judge) (tgt := 48) dX12_judge_43 (by decide) h_39 ?_
          refine z_iconst (M := M_X12_judge) dX12_judge_46 ?_
          cases H
          exact z_iret (M := M_X12_judge) dX12_judge_47 rfl (Nat.le_of_ble_eq_true rfl) (Nat.le_of_ble_eq_true rfl) ⟨rfl, rfl⟩
        · refine z_zeq_t (M := M_X12_judge) (tgt := 48) dX12_judge_43 (by decide) h_39 ?_
          refine z_aload_n (M := M_X12_judge) dX12_judge_48 rfl ?_
          obtain ⟨σ_41, hc_40, H⟩ := bd_e H
          refine z_callV (M := M_X12_judge) (M' := M_X12_forgetPlace) (as := []) (rest := []) rfl rfl dX12_judge_49 m_X12_forgetPlace t_3218 t_3220 s_223 (c_X12_forgetPlace hl  hc_40) rfl rfl ly_277 rfl (Nat.le_of_ble_eq_true rfl) (Nat.le_of_ble_eq_true rfl) (Nat.le_of_ble_eq_true rfl) (Nat.le_of_ble_eq_true rfl) ?_
          refine z_st (st' := []) rfl ?_
          refine z_sipush (M := M_X12_judge) dX12_judge_52 (by decide +kernel) ?_
          refine z_iload_n (M := M_X12_judge) dX12_judge_55 rfl ?_
          refine z_imul (M := M_X12_judge) dX12_judge_56 ?_
          refine z_istore_n (M := M_X12_judge) (lv' := [some (vr 277), some (vi slot_0), some (vi (2048 * slot_0)), none, none, none, none, none, none, none, none]) dX12_judge_57 (Nat.le_of_ble_eq_true rfl) rfl rfl ?_
          refine z_iload_n (M := M_X12_judge) dX12_judge_58 rfl ?_
          refine z_aload_n (M := M_X12_judge) dX12_judge_59 rfl ?_
          refine z_getR (M := M_X12_judge) (ci := 15) (C := RX12) (T := TX12) (Nf := 135) (ty := tyX12) cl15 dX12_judge_60 ly_277 9 (by decide) t_2400 rfl ?_
          refine z_iload_n (M := M_X12_judge) dX12_judge_63 rfl ?_
          obtain ⟨x_42, x_42_e, hi_43, H⟩ := rd_e H
          refine z_iald (M := M_X12_judge) dX12_judge_64 ly_280 rfl rfl rfl hi_43 x_42_e ?_
          refine z_iadd (M := M_X12_judge) dX12_judge_65 ?_
          refine z_istore_n (M := M_X12_judge) (lv' := [some (vr 277), some (vi slot_0), some (vi (2048 * slot_0)), some (vi ((2048 * slot_0) + x_42)), none, none, none, none, none, none, none]) dX12_judge_66 (Nat.le_of_ble_eq_true rfl) rfl rfl ?_
          refine z_sipush (M := M_X12_judge) dX12_judge_67 (by decide +kernel) ?_
          refine z_iload_n (M := M_X12_judge) dX12_judge_70 rfl ?_
          refine z_imul (M := M_X12_judge) dX12_judge_71 ?_
          refine z_istore (M := M_X12_judge) (lv' := [some (vr 277), some (vi slot_0), some (vi (2048 * slot_0)), some (vi ((2048 * slot_0) + x_42)), some (vi (2048 * slot_0)), none, none, none, none, none, none]) dX12_judge_72 (Nat.le_of_ble_eq_true rfl) rfl rfl ?_
          refine z_iconst (M := M_X12_judge) dX12_judge_74 ?_
          refine z_istore (M := M_X12_judge) (lv' := [some (vr 277), some (vi slot_0), some (vi (2048 * slot_0)), some (vi ((2048 * slot_0) + x_42)), some (vi (2048 * slot_0)), some (vi 0), none, none, none, none, none]) dX12_judge_75 (Nat.le_of_ble_eq_true rfl) rfl rfl ?_
          obtain ⟨rl_51, hw_48, hk_49, hk_50⟩ := bx_e H
          have J_175 : ∀ p_171 point_172 shape_173 σ_174, rl_51 = (.inl (p_171, point_172, shape_173, σ_174)) → YY l E M_X12_judge 8 0 0 (pS (some (vi r)) σ') 298 [some (vr 277), some (vi slot_0), some (vi p_171), some (vi ((2048 * slot_0) + x_42)), some (vi point_172), some (vi shape_173), none, none, none, none, none] [] σ_174 0 0 := by
            intro p_171 point_172 shape_173 σ_174 e
            have H := hk_49 _ e
            refine z_iconst (M := M_X12_judge) dX12_judge_298 ?_
            cases H
            exact z_iret (M := M_X12_judge) dX12_judge_299 rfl (Nat.le_of_ble_eq_true rfl) (Nat.le_of_ble_eq_true rfl) ⟨rfl, rfl⟩
          refine whl_go hw_48 (fun (p_44, point_45, shape_46, σ_47) => YY l E M_X12_judge 8 0 0 (pS (some (vi r)) σ') 77 [some (vr 277), some (vi slot_0), some (vi p_44), some (vi ((2048 * slot_0) + x_42)), some (vi point_45), some (vi shape_46), none, none, none, none, none] [] σ_47 0 0) ?_
          rintro ⟨p_44, point_45, shape_46, σ_47⟩ o_52 H K_53 K_54
          refine z_iload_n (M := M_X12_judge) dX12_judge_77 rfl ?_
          refine z_iload_n (M := M_X12_judge) dX12_judge_78 rfl ?_
          rcases if_e H with ⟨h_55, H⟩ | ⟨h_55, H⟩
          · refine z_icmp_ge_f (M := M_X12_judge) (tgt := 298) dX12_judge_79 (by decide) rfl rfl h_55 ?_
            refine z_aload_n (M := M_X12_judge) dX12_judge_82 rfl ?_
            refine z_getR (M := M_X12_judge) (ci := 15) (C := RX12) (T := TX12) (Nf := 135) (ty := tyX12) cl15 dX12_judge_83 ly_277 10 (by decide) t_2401 rfl ?_
            refine z_iload_n (M := M_X12_judge) dX12_judge_86 rfl ?_
            obtain ⟨x_56, x_56_e, hi_57, H⟩ := rd_e H
            refine z_iald (M := M_X12_judge) dX12_judge_87 ly_281 rfl rfl rfl hi_57 x_56_e ?_
            refine z_istore (M := M_X12_judge) (lv' := [some (vr 277), some (vi slot_0), some (vi p_44), some (vi ((2048 * slot_0) + x_42)), some (vi point_45), some (vi shape_46), some (vi x_56), none, none, none, none]) dX12_judge_88 (Nat.le_of_ble_eq_true rfl) rfl rfl ?_
            refine z_aload_n (M := M_X12_judge) dX12_judge_90 rfl ?_
            refine z_getR (M := M_X12_judge) (ci := 15) (C := RX12) (T := TX12) (Nf := 135) (ty := tyX12) cl15 dX12_judge_91 ly_277 10 (by decide) t_2401 rfl ?_
            refine z_iload_n (M := M_X12_judge) dX12_judge_94 rfl ?_
            refine z_iconst (M := M_X12_judge) dX12_judge_95 ?_
            refine z_iadd (M := M_X12_judge) dX12_judge_96 ?_
            obtain ⟨x_58, x_58_e, hi_59, H⟩ := rd_e H
            refine z_iald (M := M_X12_judge) dX12_judge_97 ly_281 rfl rfl rfl hi_59 x_58_e ?_
            refine z_istore (M := M_X12_judge) (lv' := [some (vr 277), some (vi slot_0), some (vi p_44), some (vi ((2048 * slot_0) + x_42)), some (vi point_45), some (vi shape_46), some (vi x_56), some (vi x_58), none, none, none]) dX12_judge_98 (Nat.le_of_ble_eq_true rfl) rfl rfl ?_
            refine z_iconst (M := M_X12_judge) dX12_judge_100 ?_
            refine z_istore (M := M_X12_judge) (lv' := [some (vr 277), some (vi slot_0), some (vi p_44), some (vi ((2048 * slot_0) + x_42)), some (vi point_45), some (vi shape_46), some (vi x_56), some (vi x_58), some (vi 0), none, none]) dX12_judge_101 (Nat.le_of_ble_eq_true rfl) rfl rfl ?_
            refine z_iload_n (M := M_X12_judge) dX12_judge_103 rfl ?_
            refine z_istore (M := M_X12_judge) (lv' := [some (vr 277), some (vi slot_0), some (vi p_44), some (vi ((2048 * slot_0) + x_42)), some (vi point_45), some (vi shape_46), some (vi x_56), some (vi x_58), some (vi 0), some (vi p_44), none]) dX12_judge_104 (Nat.le_of_ble_eq_true rfl) rfl rfl ?_
            refine z_iinc (M := M_X12_judge) (lv' := [some (vr 277), some (vi slot_0), some (vi (p_44 + 2)), some (vi ((2048 * slot_0) + x_42)), some (vi point_45), some (vi shape_46), some (vi x_56), some (vi x_58), some (vi 0), some (vi p_44), none]) dX12_judge_106 rfl (Nat.le_of_ble_eq_true rfl) rfl rfl ?_
            refine z_aload_n (M := M_X12_judge) dX12_judge_109 rfl ?_
            refine z_iconst (M := M_X12_judge) dX12_judge_110 ?_
            obtain ⟨σ_60, σ_60_e, H⟩ := wf_e H
            refine z_putI (M := M_X12_judge) (ci := 15) (C := RX12) (T := TX12) (Nf := 135) (ty := tyX12) cl15 dX12_judge_111 ly_277 57 (by decide) t_2448 rfl rfl rfl rfl σ_60_e ?_
            refine z_aload_n (M := M_X12_judge) dX12_judge_114 rfl ?_
            refine z_iconst (M := M_X12_judge) dX12_judge_115 ?_
            obtain ⟨σ_61, σ_61_e, H⟩ := wf_e H
            refine z_putI (M := M_X12_judge) (ci := 15) (C := RX12) (T := TX12) (Nf := 135) (ty := tyX12) cl15 dX12_judge_116 ly_277 59 (by decide) t_2450 rfl rfl rfl rfl σ_61_e ?_
            obtain ⟨v_65, he_62, hk_63⟩ := bd_e H
            have J_169 : ∀ p_142 point_143 f_144 σ_145, v_65 = (p_142, point_143, f_144, σ_145) → YY l E M_X12_judge 8 0 0 (pS (some (vi r)) σ') 239 [some (vr 277), some (vi slot_0), some (vi p_142), some (vi ((2048 * slot_0) + x_42)), some (vi point_143), some (vi shape_46), some (vi x_56), some (vi x_58), some (vi f_144), some (vi p_44), none] [] σ_145 0 0 := by
              intro p_142 point_143 f_144 σ_145 e
              have H := hk_63
              rw [e] at H
              refine z_aload_n (M := M_X12_judge) dX12_judge_239 rfl ?_
              obtain ⟨σ_147, hc_146, H⟩ := bd_e H
              refine z_callV (M := M_X12_judge) (M' := M_X12_segmentsOfRings) (as := []) (rest := []) rfl rfl dX12_judge_240 m_X12_segmentsOfRings t_3234 t_3236 s_227 (c_X12_segmentsOfRings hl  hc_146) rfl rfl ly_277 rfl (Nat.le_of_ble_eq_true rfl) (Nat.le_of_ble_eq_true rfl) (Nat.le_of_ble_eq_true rfl) (Nat.le_of_ble_eq_true rfl) ?_
              refine z_st (st' := []) rfl ?_
              obtain ⟨v_165, he_166, hk_167⟩ := bd_e H
              have J_168 : ∀ x_157 σ_158, v_165 = (x_157, σ_158) → YY l E M_X12_judge 8 0 0 (pS (some (vi r)) σ') 257 [some (vr 277), some (vi slot_0), some (vi p_142), some (vi ((2048 * slot_0) + x_42)), some (vi point_143), some (vi shape_46), some (vi x_56), some (vi x_58), some (vi f_144), some (vi p_44), none] [vi x_157] σ_158 0 0 := by
                intro x_157 σ_158 e
                have H := hk_167
                rw [e] at H
                refine z_istore (M := M_X12_judge) (lv' := [some (vr 277), some (vi slot_0), some (vi p_142), some (vi ((2048 * slot_0) + x_42)), some (vi point_143), some (vi shape_46), some (vi x_56), some (vi x_58), some (vi x_157), some (vi p_44), none]) dX12_judge_257 (Nat.le_of_ble_eq_true rfl) rfl rfl ?_
                refine z_iload (M := M_X12_judge) dX12_judge_259 rfl ?_
                rcases if_e H with ⟨h_159, H⟩ | ⟨h_159, H⟩
                · refine z_if_le_f (M := M_X12_judge) (tgt := 275) dX12_judge_261 (by decide) rfl h_159 ?_
                  refine z_aload_n (M := M_X12_judge) dX12_judge_264 rfl ?_
                  refine z_getR (M := M_X12_judge) (ci := 15) (C := RX12) (T := TX12) (Nf := 135) (ty := tyX12) cl15 dX12_judge_265 ly_277 14 (by decide) t_2405 rfl ?_
                  refine z_iconst (M := M_X12_judge) dX12_judge_268 ?_
                  refine z_iload (M := M_X12_judge) dX12_judge_269 rfl ?_
                  obtain ⟨σ_160, σ_160_e, hi_161, H⟩ := wa_e H
                  refine z_iast (M := M_X12_judge) dX12_judge_271 ly_285 rfl (by decide +kernel) rfl hi_161 σ_160_e ?_
                  refine z_iload (M := M_X12_judge) dX12_judge_272 rfl ?_
                  have H := congrArg some (hk_50 _ ((K_54 _ (Option.some.inj H).symm).symm))
                  cases H
                  exact z_iret (M := M_X12_judge) dX12_judge_274 rfl (Nat.le_of_ble_eq_true rfl) (Nat.le_of_ble_eq_true rfl) ⟨rfl, rfl⟩
                · refine z_if_le_t (M := M_X12_judge) (tgt := 275) dX12_judge_261 (by decide) rfl (Int.not_lt.mp h_159) ?_
                  refine z_iload (M := M_X12_judge) dX12_judge_275 rfl ?_
                  have J_162 : YY l E M_X12_judge 8 0 0 (pS (some (vi r)) σ') 292 [some (vr 277), some (vi slot_0), some (vi p_142), some (vi ((2048 * slot_0) + x_42)), some (vi point_143), some (vi shape_46), some (vi x_56), some (vi x_58), some (vi x_157), some (vi p_44), none] [vi (if (w32 x_56) = 6 then (1 + x_58) else 1), vi shape_46] σ_158 0 0 := by
                    refine z_iadd (M := M_X12_judge) dX12_judge_292 ?_
                    refine z_istore (M := M_X12_judge) (lv' := [some (vr 277), some (vi slot_0), some (vi p_142), some (vi ((2048 * slot_0) + x_42)), some (vi point_143), some (vi (shape_46 + (if (w32 x_56) = 6 then (1 + x_58) else 1))), some (vi x_56), some (vi x_58), some (vi x_157), some (vi p_44), none]) dX12_judge_293 (Nat.le_of_ble_eq_true rfl) rfl rfl ?_
                    refine z_goto (M := M_X12_judge) (tgt := 77) dX12_judge_295 (by decide) ?_
                    refine z_le (lv' := [some (vr 277), some (vi slot_0), some (vi p_142), some (vi ((2048 * slot_0) + x_42)), some (vi point_143), some (vi (shape_46 + (if (w32 x_56) = 6 then (1 + x_58) else 1))), none, none, none, none, none]) ⟨Or.inr rfl, Or.inr rfl, Or.inr rfl, Or.inr rfl, Or.inr rfl, Or.inr rfl, Or.inl rfl, Or.inl rfl, Or.inl rfl, Or.inl rfl, Or.inl rfl, trivial⟩ ?_
                    exact K_53 _ (Option.some.inj H).symm
                  refine z_iload (M := M_X12_judge) dX12_judge_277 rfl ?_
                  refine z_bipush (M := M_X12_judge) dX12_judge_279 (by decide +kernel) ?_
                  by_cases h_164 : (w32 x_56) = 6
                  · refine z_icmp_ne_f (M := M_X12_judge) (tgt := 291) dX12_judge_281 (by decide) rfl (by decide +kernel) h_164 ?_
                    refine z_iconst (M := M_X12_judge) dX12_judge_284 ?_
                    refine z_iload (M := M_X12_judge) dX12_judge_285 rfl ?_
                    refine z_iadd (M := M_X12_judge) dX12_judge_287 ?_
                    refine z_goto (M := M_X12_judge) (tgt := 292) dX12_judge_288 (by decide) ?_
                    exact z_st (by rw [if_pos (c := (w32 x_56) = 6) h_164]) J_162
                  · refine z_icmp_ne_t (M := M_X12_judge) (tgt := 291) dX12_judge_281 (by decide) rfl (by decide +kernel) h_164 ?_
                    refine z_iconst (M := M_X12_judge) dX12_judge_291 ?_
                    exact z_st (by rw [if_neg (c := (w32 x_56) = 6) h_164]) J_162
              have H := he_166
              refine z_iload (M := M_X12_judge) dX12_judge_243 rfl ?_
              rcases if_e H with ⟨h_151, H⟩ | ⟨h_151, H⟩
              · refine z_if_ne_f (M := M_X12_judge) (tgt := 255) dX12_judge_245 (by decide) rfl h_151 ?_
                refine z_aload_n (M := M_X12_judge) dX12_judge_248 rfl ?_
                obtain ⟨⟨x_154, σ_153⟩, hc_152, H⟩ := bd_e H
                refine z_callV (M := M_X12_judge) (M' := M_X12_judgeParts) (as := []) (rest := []) rfl rfl dX12_judge_249 m_X12_judgeParts t_3242 t_3244 s_229 (c_X12_judgeParts hl  hc_152) rfl rfl ly_277 rfl (Nat.le_of_ble_eq_true rfl) (Nat.le_of_ble_eq_true rfl) (Nat.le_of_ble_eq_true rfl) (Nat.le_of_ble_eq_true rfl) ?_
                refine z_st (st' := [vi x_154]) rfl ?_
                refine z_goto (M := M_X12_judge) (tgt := 257) dX12_judge_252 (by decide) ?_
                exact J_168 _ _ (Option.some.inj H).symm
              · refine z_if_ne_t (M := M_X12_judge) (tgt := 255) dX12_judge_245 (by decide) rfl h_151 ?_
                refine z_iload (M := M_X12_judge) dX12_judge_255 rfl ?_
                exact J_168 _ _ (Option.some.inj H).symm
            have H := he_62
            refine z_iload (M := M_X12_judge) dX12_judge_119 rfl ?_
            refine z_iconst (M := M_X12_judge) dX12_judge_121 ?_
            rcases if_e H with ⟨h_66, H⟩ | ⟨h_66, H⟩
            · refine z_icmp_ne_f (M := M_X12_judge) (tgt := 145) dX12_judge_122 (by decide) rfl (by decide +kernel) h_66 ?_
              refine z_aload_n (M := M_X12_judge) dX12_judge_125 rfl ?_
              refine z_iload_n (M := M_X12_judge) dX12_judge_126 rfl ?_
              refine z_iload (M := M_X12_judge) dX12_judge_127 rfl ?_
              refine z_iload (M := M_X12_judge) dX12_judge_129 rfl ?_
              refine z_iconst (M := M_X12_judge) dX12_judge_131 ?_
              obtain ⟨⟨x_69, σ_68⟩, hc_67, H⟩ := bd_e H
              refine z_callV (M := M_X12_judge) (M' := M_X12_gather) (as := [vi slot_0, vi p_44, vi point_45, vi 0]) (rest := []) rfl rfl dX12_judge_132 m_X12_gather t_3222 t_3224 s_224 (c_X12_gather hl  hc_67) rfl rfl ly_277 rfl (Nat.le_of_ble_eq_true rfl) (Nat.le_of_ble_eq_true rfl) (Nat.le_of_ble_eq_true rfl) (Nat.le_of_ble_eq_true rfl) ?_
              refine z_st (st' := [vi x_69]) rfl ?_
              refine z_istore (M := M_X12_judge) (lv' := [some (vr 277), some (vi slot_0), some (vi (p_44 + 2)), some (vi ((2048 * slot_0) + x_42)), some (vi x_69), some (vi shape_46), some (vi x_56), some (vi x_58), some (vi 0), some (vi p_44), none]) dX12_judge_135 (Nat.le_of_ble_eq_true rfl) rfl rfl ?_
              refine z_iload_n (M := M_X12_judge) dX12_judge_137 rfl ?_
              refine z_iload (M := M_X12_judge) dX12_judge_138 rfl ?_
              refine z_iadd (M := M_X12_judge) dX12_judge_140 ?_
              refine z_istore_n (M := M_X12_judge) (lv' := [some (vr 277), some (vi slot_0), some (vi ((p_44 + 2) + x_58)), some (vi ((2048 * slot_0) + x_42)), some (vi x_69), some (vi shape_46), some (vi x_56), some (vi x_58), some (vi 0), some (vi p_44), none]) dX12_judge_141 (Nat.le_of_ble_eq_true rfl) rfl rfl ?_
              refine z_goto (M := M_X12_judge) (tgt := 239) dX12_judge_142 (by decide) ?_
              exact J_169 _ _ _ _ (Option.some.inj H).symm
            · refine z_icmp_ne_t (M := M_X12_judge) (tgt := 145) dX12_judge_122 (by decide) rfl (by decide +kernel) h_66 ?_
              obtain ⟨v_74, he_71, hk_72⟩ := bd_e H
              have J_141 : ∀ p_136 point_137 f_138 σ_139, v_74 = (p_136, point_137, f_138, σ_139) → YY l E M_X12_judge 8 0 0 (pS (some (vi r)) σ') 239 [some (vr 277), some (vi slot_0), some (vi p_136), some (vi ((2048 * slot_0) + x_42)), some (vi point_137), some (vi shape_46), some (vi x_56), some (vi x_58), some (vi f_138), some (vi p_44), none] [] σ_139 0 0 := by
                intro p_136 point_137 f_138 σ_139 e
                have H := hk_72
                rw [e] at H
                exact J_169 _ _ _ _ (Option.some.inj H).symm
              have H := he_71
              refine z_iload (M := M_X12_judge) dX12_judge_145 rfl ?_
              refine z_bipush (M := M_X12_judge) dX12_judge_147 (by decide +kernel) ?_
              rcases if_e H with ⟨h_75, H⟩ | ⟨h_75, H⟩
              · refine z_icmp_ne_f (M := M_X12_judge) (tgt := 196) dX12_judge_149 (by decide) rfl (by decide +kernel) h_75 ?_
                refine z_iconst (M := M_X12_judge) dX12_judge_152 ?_
                refine z_istore (M := M_X12_judge) (lv' := [some (vr 277), some (vi slot_0), some (vi (p_44 + 2)), some (vi ((2048 * slot_0) + x_42)), some (vi point_45), some (vi shape_46), some (vi x_56), some (vi x_58), some (vi 0), some (vi p_44), some (vi 0)]) dX12_judge_153 (Nat.le_of_ble_eq_true rfl) rfl rfl ?_
                obtain ⟨rl_83, hw_80, hk_81⟩ := bd_e H
                have J_100 : ∀ p_95 point_96 k_97 σ_98, rl_83 = (p_95, point_96, k_97, σ_98) → YY l E M_X12_judge 8 0 0 (pS (some (vi r)) σ') 193 [some (vr 277), some (vi slot_0), some (vi p_95), some (vi ((2048 * slot_0) + x_42)), some (vi point_96), some (vi shape_46), some (vi x_56), some (vi x_58), some (vi 0), some (vi p_44), some (vi k_97)] [] σ_98 0 0 := by
                  intro p_95 point_96 k_97 σ_98 e
                  have H := hk_81
                  rw [e] at H
                  refine z_goto (M := M_X12_judge) (tgt := 239) dX12_judge_193 (by decide) ?_
                  refine z_le (lv' := [some (vr 277), some (vi slot_0), some (vi p_95), some (vi ((2048 * slot_0) + x_42)), some (vi point_96), some (vi shape_46), some (vi x_56), some (vi x_58), some (vi 0), some (vi p_44), none]) ⟨Or.inr rfl, Or.inr rfl, Or.inr rfl, Or.inr rfl, Or.inr rfl, Or.inr rfl, Or.inr rfl, Or.inr rfl, Or.inr rfl, Or.inr rfl, Or.inl rfl, trivial⟩ ?_
                  exact J_141 _ _ _ _ (Option.some.inj H).symm
                refine whl_go hw_80 (fun (p_76, point_77, k_78, σ_79) => YY l E M_X12_judge 8 0 0 (pS (some (vi r)) σ') 155 [some (vr 277), some (vi slot_0), some (vi p_76), some (vi ((2048 * slot_0) + x_42)), some (vi point_77), some (vi shape_46), some (vi x_56), some (vi x_58), some (vi 0), some (vi p_44), some (vi k_78)] [] σ_79 0 0) ?_
                rintro ⟨p_76, point_77, k_78, σ_79⟩ o_84 H K_85 K_86
                refine z_iload (M := M_X12_judge) dX12_judge_155 rfl ?_
                refine z_iload (M := M_X12_judge) dX12_judge_157 rfl ?_
                rcases if_e H with ⟨h_87, H⟩ | ⟨h_87, H⟩
                · refine z_icmp_ge_f (M := M_X12_judge) (tgt := 193) dX12_judge_159 (by decide) rfl rfl h_87 ?_
                  refine z_aload_n (M := M_X12_judge) dX12_judge_162 rfl ?_
                  refine z_iload_n (M := M_X12_judge) dX12_judge_163 rfl ?_
                  refine z_iload_n (M := M_X12_judge) dX12_judge_164 rfl ?_
                  refine z_iload (M := M_X12_judge) dX12_judge_165 rfl ?_
                  refine z_iload (M := M_X12_judge) dX12_judge_167 rfl ?_
                  obtain ⟨⟨x_90, σ_89⟩, hc_88, H⟩ := bd_e H
                  refine z_callV (M := M_X12_judge) (M' := M_X12_gather) (as := [vi slot_0, vi p_76, vi point_77, vi k_78]) (rest := []) rfl rfl dX12_judge_169 m_X12_gather t_3222 t_3224 s_224 (c_X12_gather hl  hc_88) rfl rfl ly_277 rfl (Nat.le_of_ble_eq_true rfl) (Nat.le_of_ble_eq_true rfl) (Nat.le_of_ble_eq_true rfl) (Nat.le_of_ble_eq_true rfl) ?_
                  refine z_st (st' := [vi x_90]) rfl ?_
                  refine z_istore (M := M_X12_judge) (lv' := [some (vr 277), some (vi slot_0), some (vi p_76), some (vi ((2048 * slot_0) + x_42)), some (vi x_90), some (vi shape_46), some (vi x_56), some (vi x_58), some (vi 0), some (vi p_44), some (vi k_78)]) dX12_judge_172 (Nat.le_of_ble_eq_true rfl) rfl rfl ?_
                  refine z_iload_n (M := M_X12_judge) dX12_judge_174 rfl ?_
                  refine z_iconst (M := M_X12_judge) dX12_judge_175 ?_
                  refine z_aload_n (M := M_X12_judge) dX12_judge_176 rfl ?_
                  refine z_getR (M := M_X12_judge) (ci := 15) (C := RX12) (T := TX12) (Nf := 135) (ty := tyX12) cl15 dX12_judge_177 ly_277 10 (by decide) t_2401 rfl ?_
                  refine z_iload_n (M := M_X12_judge) dX12_judge_180 rfl ?_
                  refine z_iconst (M := M_X12_judge) dX12_judge_181 ?_
                  refine z_iadd (M := M_X12_judge) dX12_judge_182 ?_
                  obtain ⟨x_91, x_91_e, hi_92, H⟩ := rd_e H
                  refine z_iald (M := M_X12_judge) dX12_judge_183 ly_281 rfl rfl rfl hi_92 x_91_e ?_
                  refine z_iadd (M := M_X12_judge) dX12_judge_184 ?_
                  refine z_iadd (M := M_X12_judge) dX12_judge_185 ?_
                  refine z_istore_n (M := M_X12_judge) (lv' := [some (vr 277), some (vi slot_0), some (vi (p_76 + (2 + x_91))), some (vi ((2048 * slot_0) + x_42)), some (vi x_90), some (vi shape_46), some (vi x_56), some (vi x_58), some (vi 0), some (vi p_44), some (vi k_78)]) dX12_judge_186 (Nat.le_of_ble_eq_true rfl) rfl rfl ?_
                  refine z_iinc (M := M_X12_judge) (lv' := [some (vr 277), some (vi slot_0), some (vi (p_76 + (2 + x_91))), some (vi ((2048 * slot_0) + x_42)), some (vi x_90), some (vi shape_46), some (vi x_56), some (vi x_58), some (vi 0), some (vi p_44), some (vi (k_78 + 1))]) dX12_judge_187 rfl (Nat.le_of_ble_eq_true rfl) rfl rfl ?_
                  refine z_goto (M := M_X12_judge) (tgt := 155) dX12_judge_190 (by decide) ?_
                  exact K_85 _ (Option.some.inj H).symm
                · refine z_icmp_ge_t (M := M_X12_judge) (tgt := 193) dX12_judge_159 (by decide) rfl rfl (Int.not_lt.mp h_87) ?_
                  exact J_100 _ _ _ _ (K_86 _ (Option.some.inj H).symm).symm
              · refine z_icmp_ne_t (M := M_X12_judge) (tgt := 196) dX12_judge_149 (by decide) rfl (by decide +kernel) h_75 ?_
                obtain ⟨v_104, he_101, hk_102⟩ := bd_e H
                have J_135 : ∀ point_132 f_133, v_104 = (point_132, f_133) → YY l E M_X12_judge 8 0 0 (pS (some (vi r)) σ') 239 [some (vr 277), some (vi slot_0), some (vi (p_44 + 2)), some (vi ((2048 * slot_0) + x_42)), some (vi point_132), some (vi shape_46), some (vi x_56), some (vi x_58), some (vi f_133), some (vi p_44), none] [] σ_61 0 0 := by
                  intro point_132 f_133 e
                  have H := hk_102
                  rw [e] at H
                  exact J_141 _ _ _ _ (Option.some.inj H).symm
                have H := he_101
                refine z_iload (M := M_X12_judge) dX12_judge_196 rfl ?_
                refine z_iconst (M := M_X12_judge) dX12_judge_198 ?_
                rcases if_e H with ⟨h_105, H⟩ | ⟨h_105, H⟩
                · refine z_icmp_ge_f (M := M_X12_judge) (tgt := 239) dX12_judge_199 (by decide) rfl (by decide +kernel) h_105 ?_
                  obtain ⟨v_127, he_128, hk_129⟩ := bd_e H
                  have J_130 : ∀ x_125, v_127 = x_125 → YY l E M_X12_judge 8 0 0 (pS (some (vi r)) σ') 230 [some (vr 277), some (vi slot_0), some (vi (p_44 + 2)), some (vi ((2048 * slot_0) + x_42)), some (vi point_45), some (vi shape_46), some (vi x_56), some (vi x_58), some (vi 0), some (vi p_44), none] [vi x_125] σ_61 0 0 := by
                    intro x_125 e
                    have H := hk_129
                    rw [e] at H
                    refine z_istore (M := M_X12_judge) (lv' := [some (vr 277), some (vi slot_0), some (vi (p_44 + 2)), some (vi ((2048 * slot_0) + x_42)), some (vi point_45), some (vi shape_46), some (vi x_56), some (vi x_58), some (vi x_125), some (vi p_44), none]) dX12_judge_230 (Nat.le_of_ble_eq_true rfl) rfl rfl ?_
                    refine z_iload (M := M_X12_judge) dX12_judge_232 rfl ?_
                    refine z_iload (M := M_X12_judge) dX12_judge_234 rfl ?_
                    refine z_iadd (M := M_X12_judge) dX12_judge_236 ?_
                    refine z_istore (M := M_X12_judge) (lv' := [some (vr 277), some (vi slot_0), some (vi (p_44 + 2)), some (vi ((2048 * slot_0) + x_42)), some (vi (point_45 + x_58)), some (vi shape_46), some (vi x_56), some (vi x_58), some (vi x_125), some (vi p_44), none]) dX12_judge_237 (Nat.le_of_ble_eq_true rfl) rfl rfl ?_
                    exact J_135 _ _ (Option.some.inj H).symm
                  have H := he_128
                  refine z_iload (M := M_X12_judge) dX12_judge_202 rfl ?_
                  refine z_iconst (M := M_X12_judge) dX12_judge_204 ?_
                  rcases if_e H with ⟨h_116, H⟩ | ⟨h_116, H⟩
                  · refine z_icmp_ne_f (M := M_X12_judge) (tgt := 229) dX12_judge_205 (by decide) rfl (by decide +kernel) h_116 ?_
                    refine z_iload (M := M_X12_judge) dX12_judge_208 rfl ?_
                    rcases if_e H with ⟨h_117, H⟩ | ⟨h_117, H⟩
                    · refine z_if_le_f (M := M_X12_judge) (tgt := 229) dX12_judge_210 (by decide) rfl h_117 ?_
                      refine z_aload_n (M := M_X12_judge) dX12_judge_213 rfl ?_
                      refine z_iload (M := M_X12_judge) dX12_judge_214 rfl ?_
                      refine z_iload (M := M_X12_judge) dX12_judge_216 rfl ?_
                      obtain ⟨x_119, hc_118, H⟩ := bd_e H
                      refine z_callV (M := M_X12_judge) (M' := M_X12_different) (as := [vi point_45, vi x_58]) (rest := []) rfl rfl dX12_judge_218 m_X12_different t_3226 t_3228 s_225 (c_X12_different hl  hc_118) rfl rfl ly_277 rfl (Nat.le_of_ble_eq_true rfl) (Nat.le_of_ble_eq_true rfl) (Nat.le_of_ble_eq_true rfl) (Nat.le_of_ble_eq_true rfl) ?_
                      refine z_st (st' := [vi x_119]) rfl ?_
                      refine z_iconst (M := M_X12_judge) dX12_judge_221 ?_
                      rcases if_e H with ⟨h_120, H⟩ | ⟨h_120, H⟩
                      · refine z_icmp_ge_f (M := M_X12_judge) (tgt := 229) dX12_judge_222 (by decide) rfl (by decide +kernel) h_120 ?_
                        refine z_iconst (M := M_X12_judge) dX12_judge_225 ?_
                        refine z_goto (M := M_X12_judge) (tgt := 230) dX12_judge_226 (by decide) ?_
                        exact J_130 _ (Option.some.inj H).symm
                      · refine z_icmp_ge_t (M := M_X12_judge) (tgt := 229) dX12_judge_222 (by decide) rfl (by decide +kernel) (Int.not_lt.mp h_120) ?_
                        refine z_iconst (M := M_X12_judge) dX12_judge_229 ?_
                        exact J_130 _ (Option.some.inj H).symm
                    · refine z_if_le_t (M := M_X12_judge) (tgt := 229) dX12_judge_210 (by decide) rfl (Int.not_lt.mp h_117) ?_
                      refine z_iconst (M := M_X12_judge) dX12_judge_229 ?_
                      exact J_130 _ (Option.some.inj H).symm
                  · refine z_icmp_ne_t (M := M_X12_judge) (tgt := 229) dX12_judge_205 (by decide) rfl (by decide +kernel) h_116 ?_
                    refine z_iconst (M := M_X12_judge) dX12_judge_229 ?_
                    exact J_130 _ (Option.some.inj H).symm
                · refine z_icmp_ge_t (M := M_X12_judge) (tgt := 239) dX12_judge_199 (by decide) rfl (by decide +kernel) (Int.not_lt.mp h_105) ?_
                  exact J_135 _ _ (Option.some.inj H).symm
          · refine z_icmp_ge_t (M := M_X12_judge) (tgt := 298) dX12_judge_79 (by decide) rfl rfl (Int.not_lt.mp h_55) ?_
            exact J_175 _ _ _ _ (K_54 _ (Option.some.inj H).symm).symm
      have H := he_177
      refine z_aload_n (M := M_X12_judge) dX12_judge_26 rfl ?_
      refine z_iload_n (M := M_X12_judge) dX12_judge_27 rfl ?_
      obtain ⟨x_31, hc_30, H⟩ := bd_e H
      refine z_callV (M := M_X12_judge) (M' := M_X12_has) (as := [vi slot_0]) (rest := [vr 277]) rfl rfl dX12_judge_28 m_X12_has t_3033 t_3035 s_197 (c_X12_has hl  hc_30) rfl rfl ly_277 rfl (Nat.le_of_ble_eq_true rfl) (Nat.le_of_ble_eq_true rfl) (Nat.le_of_ble_eq_true rfl) (Nat.le_of_ble_eq_true rfl) ?_
      refine z_st (st' := [zv x_31, vr 277]) rfl ?_
      rcases if_e H with ⟨h_32, H⟩ | ⟨h_32, H⟩
      · refine z_zne_t (M := M_X12_judge) (tgt := 38) dX12_judge_31 (by decide) h_32 ?_
        refine z_zconst (M := M_X12_judge) (b := false) dX12_judge_38 rfl ?_
        exact J_179 _ (Option.some.inj H).symm
      · refine z_zne_f (M := M_X12_judge) (tgt := 38) dX12_judge_31 (by decide) h_32 ?_
        refine z_zconst (M := M_X12_judge) (b := true) dX12_judge_34 rfl ?_
        refine z_goto (M := M_X12_judge) (tgt := 39) dX12_judge_35 (by decide) ?_
        exact J_179 _ (Option.some.inj H).symm
  refine z_iload_n (M := M_X12_judge) dX12_judge_6 rfl ?_
  refine z_callS (M := M_X12_judge) (M' := M_X12_isSlot) (as := [vi slot_0]) (rest := [vr 277]) rfl rfl dX12_judge_7 m_X12_isSlot t_2841 t_2842 (c_X12_isSlot hl  rfl) rfl rfl (Nat.le_of_ble_eq_true rfl) (Nat.le_of_ble_eq_true rfl) (Nat.le_of_ble_eq_true rfl) (Nat.le_of_ble_eq_true rfl) ?_
  refine z_st (st' := [zv (fR_isSlot slot_0), vr 277]) rfl ?_
  by_cases h_180 : (fR_isSlot slot_0) = true
  · refine z_zne_t (M := M_X12_judge) (tgt := 17) dX12_judge_10 (by decide) h_180 ?_
    refine z_iconst (M := M_X12_judge) dX12_judge_17 ?_
    exact z_st (by rw [zv_f (p := ¬ ((fR_isSlot slot_0) = true)) (not_not_intro h_180)]) J_25
  · refine z_zne_f (M := M_X12_judge) (tgt := 17) dX12_judge_10 (by decide) h_180 ?_
    refine z_iconst (M := M_X12_judge) dX12_judge_13 ?_
    refine z_goto (M := M_X12_judge) (tgt := 18) dX12_judge_14 (by decide) ?_
    exact z_st (by rw [zv_t (p := ¬ ((fR_isSlot slot_0) = true)) h_180]) J_25
theorem c_X12_place (hl : l.stackTraces = false) {σ : SG} {what_0 : Int} {r : Int} {σ' : SG}  (H : fR_place σ what_0 = some (r, σ')) : en_S l E M_X12_place 2 0 0 [vr 277, vi what_0] σ (pS (some (vi r)) σ') := by
  unfold fR_place at H
  refine z_mk (lv := [some (vr 277), some (vi what_0)]) m_X12_place rfl hl (Nat.le_of_ble_eq_true rfl) rfl ?_
  refine z_aload_n (M := M_X12_place) dX12_place_0 rfl ?_
  refine z_iconst (M := M_X12_place) dX12_place_1 ?_
  obtain ⟨σ_1, σ_1_e, H⟩ := wf_e H
  refine z_putI (M := M_X12_place) (ci := 15) (C := RX12) (T := TX12) (Nf := 135) (ty := tyX12) cl15 dX12_place_2 ly_277 0 (by decide) t_2391 rfl rfl rfl rfl σ_1_e ?_
  refine z_aload_n (M := M_X12_place) dX12_place_5 rfl ?_
  have J_2 : YY l E M_X12_place 2 0 0 (pS (some (vi r)) σ') 23 [some (vr 277), some (vi what_0)] [zv (decide (¬ ((fR_in (w32 what_0) 0 6) = true))), vr 277] σ_1 0 0 := by
    refine z_iconst (M := M_X12_place) dX12_place_23 ?_
    obtain ⟨⟨x_5, σ_4⟩, hc_3, H⟩ := bd_e H
    refine z_callV (M := M_X12_place) (M' := M_X12_fails) (as := [zv (decide (¬ ((fR_in (w32 what_0) 0 6) = true))), vi 1]) (rest := []) rfl rfl dX12_place_24 m_X12_fails t_2805 t_2807 s_157 (c_X12_fails hl  hc_3) rfl rfl ly_277 rfl (Nat.le_of_ble_eq_true rfl) (Nat.le_of_ble_eq_true rfl) (Nat.le_of_ble_eq_true rfl) (Nat.le_of_ble_eq_true rfl) ?_
    refine z_st (st' := [zv x_5]) rfl ?_
    rcases if_e H with ⟨h_6, H⟩ | ⟨h_6, H⟩
    · refine z_zeq_f (M := M_X12_place) (tgt := 32) dX12_place_27 (by decide) h_6 ?_
      refine z_iconst (M := M_X12_place) dX12_place_30 ?_
      cases H
      exact z_iret (M := M_X12_place) dX12_place_31 rfl (Nat.le_of_ble_eq_true rfl) (Nat.le_of_ble_eq_true rfl) ⟨rfl, rfl⟩
    · refine z_zeq_t (M := M_X12_place) (tgt := 32) dX12_place_27 (by decide) h_6 ?_
      refine z_aload_n (M := M_X12_place) dX12_place_32 rfl ?_
      refine z_getR (M := M_X12_place) (ci := 15) (C := RX12) (T := TX12) (Nf := 135) (ty := tyX12) cl15 dX12_place_33 ly_277 14 (by decide) t_2405 rfl ?_
      refine z_iload_n (M := M_X12_place) dX12_place_36 rfl ?_
      obtain ⟨x_7, x_7_e, hi_8, H⟩ := rd_e H
      refine z_iald (M := M_X12_place) dX12_place_37 ly_285 rfl rfl rfl hi_8 x_7_e ?_
      cases H
      exact z_iret (M := M_X12_place) dX12_place_38 rfl (Nat.le_of_ble_eq_true rfl) (Nat.le_of_ble_eq_true rfl) ⟨rfl, rfl⟩
  refine z_iload_n (M := M_X12_place) dX12_place_6 rfl ?_
  refine z_i2l (M := M_X12_place) dX12_place_7 ?_
  refine z_lconst (M := M_X12_place) (m := 0) dX12_place_8 (by decide +kernel) ?_
  refine z_ldc2 (M := M_X12_place) (n := 6) dX12_place_9 t_3341 (by decide +kernel) ?_
  refine z_callS (M := M_X12_place) (M' := M_X12_in) (as := [vl (w32 what_0), vl 0, vl 6]) (rest := [vr 277]) rfl rfl dX12_place_12 m_X12_in t_2818 t_2819 (c_X12_in hl  rfl) rfl rfl (Nat.le_of_ble_eq_true rfl) (Nat.le_of_ble_eq_true rfl) (Nat.le_of_ble_eq_true rfl) (Nat.le_of_ble_eq_true rfl) ?_
  refine z_st (st' := [zv (fR_in (w32 what_0) 0 6), vr 277]) rfl ?_
  by_cases h_9 : (fR_in (w32 what_0) 0 6) = true
  · refine z_zne_t (M := M_X12_place) (tgt := 22) dX12_place_15 (by decide) h_9 ?_
    refine z_iconst (M := M_X12_place) dX12_place_22 ?_
    exact z_st (by rw [zv_f (p := ¬ ((fR_in (w32 what_0) 0 6) = true)) (not_not_intro h_9)]) J_2
  · refine z_zne_f (M := M_X12_place) (tgt := 22) dX12_place_15 (by decide) h_9 ?_
    refine z_iconst (M := M_X12_place) dX12_place_18 ?_
    refine z_goto (M := M_X12_place) (tgt := 23) dX12_place_19 (by decide) ?_
    exact z_st (by rw [zv_t (p := ¬ ((fR_in (w32 what_0) 0 6) = true)) h_9]) J_2
theorem c_X12_around (hl : l.stackTraces = false) {σ : SG} {from_0 : Int} {n_0 : Int} {r : Int}  (H : fR_around σ from_0 n_0 = some r) : en_S l E M_X12_around 1 0 0 [vr 277, vi from_0, vi n_0] σ (pS (some (vl r)) σ) := by
  unfold fR_around at H
  refine z_mk (lv := [some (vr 277), some (vi from_0), some (vi n_0), none, none, none, none]) m_X12_around rfl hl (Nat.le_of_ble_eq_true rfl) rfl ?_
  refine z_lconst (M := M_X12_around) (m := 0) dX12_around_0 (by decide +kernel) ?_
  refine z_lstore_n (M := M_X12_around) (lv' := [some (vr 277), some (vi from_0), some (vi n_0), some (vl 0), none, none, none]) dX12_around_1 (Nat.le_of_ble_eq_true rfl) rfl rfl ?_
  refine z_iconst (M := M_X12_around) dX12_around_2 ?_
  refine z_istore (M := M_X12_around) (lv' := [some (vr 277), some (vi from_0), some (vi n_0), some (vl 0), none, some (vi 0), none]) dX12_around_3 (Nat.le_of_ble_eq_true rfl) rfl rfl ?_
  obtain ⟨rl_6, hw_3, hk_4⟩ := bd_e H
  have J_27 : ∀ sum_23 k_24, rl_6 = (sum_23, k_24) → YY l E M_X12_around 1 0 0 (pS (some (vl r)) σ) 69 [some (vr 277), some (vi from_0), some (vi n_0), some (vl sum_23), none, some (vi k_24), none] [] σ 0 0 := by
    intro sum_23 k_24 e
    have H := hk_4
    rw [e] at H
    have J_25 : YY l E M_X12_around 1 0 0 (pS (some (vl r)) σ) 81 [some (vr 277), some (vi from_0), some (vi n_0), some (vl sum_23), none, some (vi k_24), none] [vl (if (w64 sum_23) < 0 then (-sum_23) else sum_23)] σ 0 0 := by
      cases H
      exact z_lret (M := M_X12_around) dX12_around_81 rfl (Nat.le_of_ble_eq_true rfl) (Nat.le_of_ble_eq_true rfl) ⟨rfl, rfl⟩
    refine z_lload_n (M := M_X12_around) dX12_around_69 rfl ?_
    refine z_lconst (M := M_X12_around) (m := 0) dX12_around_70 (by decide +kernel) ?_
    refine z_lcmp (M := M_X12_around) dX12_around_71 ?_
    by_cases h_26 : (w64 sum_23) < 0
    · refine z_lif_ge_f (M := M_X12_around) (tgt := 80) dX12_around_72 (by decide) rfl (by decide +kernel) h_26 ?_
      refine z_lload_n (M := M_X12_around) dX12_around_75 rfl ?_
      refine z_lneg (M := M_X12_around) dX12_around_76 ?_
      refine z_goto (M := M_X12_around) (tgt := 81) dX12_around_77 (by decide) ?_
      exact z_st (by rw [if_pos (c := (w64 sum_23) < 0) h_26]) J_25
    · refine z_lif_ge_t (M := M_X12_around) (tgt := 80) dX12_around_72 (by decide) rfl (by decide +kernel) (Int.not_lt.mp h_26) ?_
      refine z_lload_n (M := M_X12_around) dX12_around_80 rfl ?_
      exact z_st (by rw [if_neg (c := (w64 sum_23) < 0) h_26]) J_25
  refine whl_go hw_3 (fun (sum_1, k_2) => YY l E M_X12_around 1 0 0 (pS (some (vl r)) σ) 5 [some (vr 277), some (vi from_0), some (vi n_0), some (vl sum_1), none, some (vi k_2), none] [] σ 0 0) ?_
  rintro ⟨sum_1, k_2⟩ o_7 H K_8 K_9
  refine z_iload (M := M_X12_around) dX12_around_5 rfl ?_
  refine z_iload_n (M := M_X12_around) dX12_around_7 rfl ?_
  rcases if_e H with ⟨h_10, H⟩ | ⟨h_10, H⟩
  · refine z_icmp_ge_f (M := M_X12_around) (tgt := 69) dX12_around_8 (by decide) rfl rfl h_10 ?_
    refine z_iload_n (M := M_X12_around) dX12_around_11 rfl ?_
    refine z_iload (M := M_X12_around) dX12_around_12 rfl ?_
    refine z_iconst (M := M_X12_around) dX12_around_14 ?_
    refine z_iadd (M := M_X12_around) dX12_around_15 ?_
    refine z_iload_n (M := M_X12_around) dX12_around_16 rfl ?_
    obtain ⟨hd_11, H⟩ := ck_e H
    refine z_irem (M := M_X12_around) dX12_around_17 hd_11 ?_
    refine z_iadd (M := M_X12_around) dX12_around_18 ?_
    refine z_istore (M := M_X12_around) (lv' := [some (vr 277), some (vi from_0), some (vi n_0), some (vl sum_1), none, some (vi k_2), some (vi (from_0 + (q_irm (k_2 + 1) n_0)))]) dX12_around_19 (Nat.le_of_ble_eq_true rfl) rfl rfl ?_
    refine z_lload_n (M := M_X12_around) dX12_around_21 rfl ?_
    refine z_aload_n (M := M_X12_around) dX12_around_22 rfl ?_
    refine z_getR (M := M_X12_around) (ci := 15) (C := RX12) (T := TX12) (Nf := 135) (ty := tyX12) cl15 dX12_around_23 ly_277 12 (by decide) t_2403 rfl ?_
    refine z_iload_n (M := M_X12_around) dX12_around_26 rfl ?_
    refine z_iload (M := M_X12_around) dX12_around_27 rfl ?_
    refine z_iadd (M := M_X12_around) dX12_around_29 ?_
    obtain ⟨x_12, x_12_e, hi_13, H⟩ := rd_e H
    refine z_iald (M := M_X12_around) dX12_around_30 ly_283 rfl rfl rfl hi_13 x_12_e ?_
    refine z_i2l (M := M_X12_around) dX12_around_31 ?_
    refine z_aload_n (M := M_X12_around) dX12_around_32 rfl ?_
    refine z_getR (M := M_X12_around) (ci := 15) (C := RX12) (T := TX12) (Nf := 135) (ty := tyX12) cl15 dX12_around_33 ly_277 13 (by decide) t_2404 rfl ?_
    refine z_iload (M := M_X12_around) dX12_around_36 rfl ?_
    obtain ⟨x_14, x_14_e, hi_15, H⟩ := rd_e H
    refine z_iald (M := M_X12_around) dX12_around_38 ly_284 rfl rfl rfl hi_15 x_14_e ?_
    refine z_i2l (M := M_X12_around) dX12_around_39 ?_
    refine z_lmul (M := M_X12_around) dX12_around_40 ?_
    refine z_aload_n (M := M_X12_around) dX12_around_41 rfl ?_
    refine z_getR (M := M_X12_around) (ci := 15) (C := RX12) (T := TX12) (Nf := 135) (ty := tyX12) cl15 dX12_around_42 ly_277 12 (by decide) t_2403 rfl ?_
    refine z_iload (M := M_X12_around) dX12_around_45 rfl ?_
    obtain ⟨x_16, x_16_e, hi_17, H⟩ := rd_e H
    refine z_iald (M := M_X12_around) dX12_around_47 ly_283 rfl rfl rfl hi_17 x_16_e ?_
    refine z_i2l (M := M_X12_around) dX12_around_48 ?_
    refine z_aload_n (M := M_X12_around) dX12_around_49 rfl ?_
    refine z_getR (M := M_X12_around) (ci := 15) (C := RX12) (T := TX12) (Nf := 135) (ty := tyX12) cl15 dX12_around_50 ly_277 13 (by decide) t_2404 rfl ?_
    refine z_iload_n (M := M_X12_around) dX12_around_53 rfl ?_
    refine z_iload (M := M_X12_around) dX12_around_54 rfl ?_
    refine z_iadd (M := M_X12_around) dX12_around_56 ?_
    obtain ⟨x_18, x_18_e, hi_19, H⟩ := rd_e H
    refine z_iald (M := M_X12_around) dX12_around_57 ly_284 rfl rfl rfl hi_19 x_18_e ?_
    refine z_i2l (M := M_X12_around) dX12_around_58 ?_
    refine z_lmul (M := M_X12_around) dX12_around_59 ?_
    refine z_lsub (M := M_X12_around) dX12_around_60 ?_
    refine z_ladd (M := M_X12_around) dX12_around_61 ?_
    obtain ⟨x_20, x_20_e, H⟩ := lt_e H
    refine z_st (congrArg (fun z => vl z :: []) x_20_e) ?_
    refine z_lstore_n (M := M_X12_around) (lv' := [some (vr 277), some (vi from_0), some (vi n_0), some (vl x_20), none, some (vi k_2), some (vi (from_0 + (q_irm (k_2 + 1) n_0)))]) dX12_around_62 (Nat.le_of_ble_eq_true rfl) rfl rfl ?_
    refine z_iinc (M := M_X12_around) (lv' := [some (vr 277), some (vi from_0), some (vi n_0), some (vl x_20), none, some (vi (k_2 + 1)), some (vi (from_0 + (q_irm (k_2 + 1) n_0)))]) dX12_around_63 rfl (Nat.le_of_ble_eq_true rfl) rfl rfl ?_
    refine z_goto (M := M_X12_around) (tgt := 5) dX12_around_66 (by decide) ?_
    refine z_le (lv' := [some (vr 277), some (vi from_0), some (vi n_0), some (vl x_20), none, some (vi (k_2 + 1)), none]) ⟨Or.inr rfl, Or.inr rfl, Or.inr rfl, Or.inr rfl, Or.inl rfl, Or.inr rfl, Or.inl rfl, trivial⟩ ?_
    exact K_8 _ (Option.some.inj H).symm
  · refine z_icmp_ge_t (M := M_X12_around) (tgt := 69) dX12_around_8 (by decide) rfl rfl (Int.not_lt.mp h_10) ?_
    exact J_27 _ _ (K_9 _ (Option.some.inj H).symm).symm
theorem c_X12_area (hl : l.stackTraces = false) {σ : SG} {slot_0 : Int} {r : Int} {σ' : SG}  (H : fR_area σ slot_0 = some (r, σ')) : en_S l E M_X12_area 2 0 0 [vr 277, vi slot_0] σ (pS (some (vl r)) σ') := by
  unfold fR_area at H
  refine z_mk (lv := [some (vr 277), some (vi slot_0), none, none, none, none, none, none, none, none, none, none]) m_X12_area rfl hl (Nat.le_of_ble_eq_true rfl) rfl ?_
  refine z_aload_n (M := M_X12_area) dX12_area_0 rfl ?_
  refine z_iconst (M := M_X12_area) dX12_area_1 ?_
  obtain ⟨σ_1, σ_1_e, H⟩ := wf_e H
  refine z_putI (M := M_X12_area) (ci := 15) (C := RX12) (T := TX12) (Nf := 135) (ty := tyX12) cl15 dX12_area_2 ly_277 0 (by decide) t_2391 rfl rfl rfl rfl σ_1_e ?_
  refine z_aload_n (M := M_X12_area) dX12_area_5 rfl ?_
  have J_25 : YY l E M_X12_area 2 0 0 (pS (some (vl r)) σ') 18 [some (vr 277), some (vi slot_0), none, none, none, none, none, none, none, none, none, none] [zv (decide (¬ ((fR_isSlot slot_0) = true))), vr 277] σ_1 0 0 := by
    refine z_iconst (M := M_X12_area) dX12_area_18 ?_
    obtain ⟨⟨x_28, σ_27⟩, hc_26, H⟩ := bd_e H
    refine z_callV (M := M_X12_area) (M' := M_X12_fails) (as := [zv (decide (¬ ((fR_isSlot slot_0) = true))), vi 1]) (rest := []) rfl rfl dX12_area_19 m_X12_fails t_2805 t_2807 s_157 (c_X12_fails hl  hc_26) rfl rfl ly_277 rfl (Nat.le_of_ble_eq_true rfl) (Nat.le_of_ble_eq_true rfl) (Nat.le_of_ble_eq_true rfl) (Nat.le_of_ble_eq_true rfl) ?_
    refine z_st (st' := [zv x_28]) rfl ?_
    rcases if_e H with ⟨h_29, H⟩ | ⟨h_29, H⟩
    · refine z_zne_t (M := M_X12_area) (tgt := 46) dX12_area_22 (by decide) h_29 ?_
      refine z_lconst (M := M_X12_area) (m := 0) dX12_area_46 (by decide +kernel) ?_
      cases H
      exact z_lret (M := M_X12_area) dX12_area_47 rfl (Nat.le_of_ble_eq_true rfl) (Nat.le_of_ble_eq_true rfl) ⟨rfl, rfl⟩
    · refine z_zne_f (M := M_X12_area) (tgt := 46) dX12_area_22 (by decide) h_29 ?_
      refine z_aload_n (M := M_X12_area) dX12_area_25 rfl ?_
      obtain ⟨v_98, he_99, hk_100⟩ := bd_e H
      have J_101 : ∀ x_35, v_98 = x_35 → YY l E M_X12_area 2 0 0 (pS (some (vl r)) σ') 39 [some (vr 277), some (vi slot_0), none, none, none, none, none, none, none, none, none, none] [zv x_35, vr 277] σ_27 0 0 := by
        intro x_35 e
        have H := hk_100
        rw [e] at H
        refine z_iconst (M := M_X12_area) dX12_area_39 ?_
        obtain ⟨⟨x_38, σ_37⟩, hc_36, H⟩ := bd_e H
        refine z_callV (M := M_X12_area) (M' := M_X12_fails) (as := [zv x_35, vi 2]) (rest := []) rfl rfl dX12_area_40 m_X12_fails t_2805 t_2807 s_157 (c_X12_fails hl  hc_36) rfl rfl ly_277 rfl (Nat.le_of_ble_eq_true rfl) (Nat.le_of_ble_eq_true rfl) (Nat.le_of_ble_eq_true rfl) (Nat.le_of_ble_eq_true rfl) ?_
        refine z_st (st' := [zv x_38]) rfl ?_
        rcases if_e H with ⟨h_39, H⟩ | ⟨h_39, H⟩
        · refine z_zeq_f (M := M_X12_area) (tgt := 48) dX12_area_43 (by decide) h_39 ?_
          refine z_lconst (M := M_X12_area) (m := 0) dX12_area_46 (by decide +kernel) ?_
          cases H
          exact z_lret (M := M_X12_area) dX12_area_47 rfl (Nat.le_of_ble_eq_true rfl) (Nat.le_of_ble_eq_true rfl) ⟨rfl, rfl⟩
        · refine z_zeq_t (M := M_X12_area) (tgt := 48) dX12_area_43 (by decide) h_39 ?_
          refine z_lconst (M := M_X12_area) (m := 0) dX12_area_48 (by decide +kernel) ?_
          refine z_lstore_n (M := M_X12_area) (lv' := [some (vr 277), some (vi slot_0), some (vl 0), none, none, none, none, none, none, none, none, none]) dX12_area_49 (Nat.le_of_ble_eq_true rfl) rfl rfl ?_
          refine z_sipush (M := M_X12_area) dX12_area_50 (by decide +kernel) ?_
          refine z_iload_n (M := M_X12_area) dX12_area_53 rfl ?_
          refine z_imul (M := M_X12_area) dX12_area_54 ?_
          refine z_istore (M := M_X12_area) (lv' := [some (vr 277), some (vi slot_0), some (vl 0), none, some (vi (2048 * slot_0)), none, none, none, none, none, none, none]) dX12_area_55 (Nat.le_of_ble_eq_true rfl) rfl rfl ?_
          refine z_iload (M := M_X12_area) dX12_area_57 rfl ?_
          refine z_aload_n (M := M_X12_area) dX12_area_59 rfl ?_
          refine z_getR (M := M_X12_area) (ci := 15) (C := RX12) (T := TX12) (Nf := 135) (ty := tyX12) cl15 dX12_area_60 ly_277 9 (by decide) t_2400 rfl ?_
          refine z_iload_n (M := M_X12_area) dX12_area_63 rfl ?_
          obtain ⟨x_40, x_40_e, hi_41, H⟩ := rd_e H
          refine z_iald (M := M_X12_area) dX12_area_64 ly_280 rfl rfl rfl hi_41 x_40_e ?_
          refine z_iadd (M := M_X12_area) dX12_area_65 ?_
          refine z_istore (M := M_X12_area) (lv' := [some (vr 277), some (vi slot_0), some (vl 0), none, some (vi (2048 * slot_0)), some (vi ((2048 * slot_0) + x_40)), none, none, none, none, none, none]) dX12_area_66 (Nat.le_of_ble_eq_true rfl) rfl rfl ?_
          refine z_sipush (M := M_X12_area) dX12_area_68 (by decide +kernel) ?_
          refine z_iload_n (M := M_X12_area) dX12_area_71 rfl ?_
          refine z_imul (M := M_X12_area) dX12_area_72 ?_
          refine z_istore (M := M_X12_area) (lv' := [some (vr 277), some (vi slot_0), some (vl 0), none, some (vi (2048 * slot_0)), some (vi ((2048 * slot_0) + x_40)), some (vi (2048 * slot_0)), none, none, none, none, none]) dX12_area_73 (Nat.le_of_ble_eq_true rfl) rfl rfl ?_
          obtain ⟨rl_48, hw_45, hk_46⟩ := bd_e H
          have J_97 : ∀ sum_94 p_95 point_96, rl_48 = (sum_94, p_95, point_96) → YY l E M_X12_area 2 0 0 (pS (some (vl r)) σ') 193 [some (vr 277), some (vi slot_0), some (vl sum_94), none, some (vi p_95), some (vi ((2048 * slot_0) + x_40)), some (vi point_96), none, none, none, none, none] [] σ_37 0 0 := by
            intro sum_94 p_95 point_96 e
            have H := hk_46
            rw [e] at H
            refine z_lload_n (M := M_X12_area) dX12_area_193 rfl ?_
            cases H
            exact z_lret (M := M_X12_area) dX12_area_194 rfl (Nat.le_of_ble_eq_true rfl) (Nat.le_of_ble_eq_true rfl) ⟨rfl, rfl⟩
          refine whl_go hw_45 (fun (sum_42, p_43, point_44) => YY l E M_X12_area 2 0 0 (pS (some (vl r)) σ') 75 [some (vr 277), some (vi slot_0), some (vl sum_42), none, some (vi p_43), some (vi ((2048 * slot_0) + x_40)), some (vi point_44), none, none, none, none, none] [] σ_37 0 0) ?_
          rintro ⟨sum_42, p_43, point_44⟩ o_49 H K_50 K_51
          refine z_iload (M := M_X12_area) dX12_area_75 rfl ?_
          refine z_iload (M := M_X12_area) dX12_area_77 rfl ?_
          rcases if_e H with ⟨h_52, H⟩ | ⟨h_52, H⟩
          · refine z_icmp_ge_f (M := M_X12_area) (tgt := 193) dX12_area_79 (by decide) rfl rfl h_52 ?_
            refine z_aload_n (M := M_X12_area) dX12_area_82 rfl ?_
            refine z_getR (M := M_X12_area) (ci := 15) (C := RX12) (T := TX12) (Nf := 135) (ty := tyX12) cl15 dX12_area_83 ly_277 10 (by decide) t_2401 rfl ?_
            refine z_iload (M := M_X12_area) dX12_area_86 rfl ?_
            obtain ⟨x_53, x_53_e, hi_54, H⟩ := rd_e H
            refine z_iald (M := M_X12_area) dX12_area_88 ly_281 rfl rfl rfl hi_54 x_53_e ?_
            refine z_istore (M := M_X12_area) (lv' := [some (vr 277), some (vi slot_0), some (vl sum_42), none, some (vi p_43), some (vi ((2048 * slot_0) + x_40)), some (vi point_44), some (vi x_53), none, none, none, none]) dX12_area_89 (Nat.le_of_ble_eq_true rfl) rfl rfl ?_
            refine z_aload_n (M := M_X12_area) dX12_area_91 rfl ?_
            refine z_getR (M := M_X12_area) (ci := 15) (C := RX12) (T := TX12) (Nf := 135) (ty := tyX12) cl15 dX12_area_92 ly_277 10 (by decide) t_2401 rfl ?_
            refine z_iload (M := M_X12_area) dX12_area_95 rfl ?_
            refine z_iconst (M := M_X12_area) dX12_area_97 ?_
            refine z_iadd (M := M_X12_area) dX12_area_98 ?_
            obtain ⟨x_55, x_55_e, hi_56, H⟩ := rd_e H
            refine z_iald (M := M_X12_area) dX12_area_99 ly_281 rfl rfl rfl hi_56 x_55_e ?_
            refine z_istore (M := M_X12_area) (lv' := [some (vr 277), some (vi slot_0), some (vl sum_42), none, some (vi p_43), some (vi ((2048 * slot_0) + x_40)), some (vi point_44), some (vi x_53), some (vi x_55), none, none, none]) dX12_area_100 (Nat.le_of_ble_eq_true rfl) rfl rfl ?_
            refine z_iinc (M := M_X12_area) (lv' := [some (vr 277), some (vi slot_0), some (vl sum_42), none, some (vi (p_43 + 2)), some (vi ((2048 * slot_0) + x_40)), some (vi point_44), some (vi x_53), some (vi x_55), none, none, none]) dX12_area_102 rfl (Nat.le_of_ble_eq_true rfl) rfl rfl ?_
            refine z_iload (M := M_X12_area) dX12_area_105 rfl ?_
            have J_57 : YY l E M_X12_area 2 0 0 (pS (some (vl r)) σ') 119 [some (vr 277), some (vi slot_0), some (vl sum_42), none, some (vi (p_43 + 2)), some (vi ((2048 * slot_0) + x_40)), some (vi point_44), some (vi x_53), some (vi x_55), none, none, none] [vi (if (w32 x_53) < 3 then x_55 else 0), vi point_44] σ_37 0 0 := by
              refine z_iadd (M := M_X12_area) dX12_area_119 ?_
              refine z_istore (M := M_X12_area) (lv' := [some (vr 277), some (vi slot_0), some (vl sum_42), none, some (vi (p_43 + 2)), some (vi ((2048 * slot_0) + x_40)), some (vi (point_44 + (if (w32 x_53) < 3 then x_55 else 0))), some (vi x_53), some (vi x_55), none, none, none]) dX12_area_120 (Nat.le_of_ble_eq_true rfl) rfl rfl ?_
              refine z_iconst (M := M_X12_area) dX12_area_122 ?_
              refine z_istore (M := M_X12_area) (lv' := [some (vr 277), some (vi slot_0), some (vl sum_42), none, some (vi (p_43 + 2)), some (vi ((2048 * slot_0) + x_40)), some (vi (point_44 + (if (w32 x_53) < 3 then x_55 else 0))), some (vi x_53), some (vi x_55), some (vi 0), none, none]) dX12_area_123 (Nat.le_of_ble_eq_true rfl) rfl rfl ?_
              obtain ⟨rl_65, hw_62, hk_63⟩ := bd_e H
              have J_91 : ∀ sum_86 p_87 point_88 k_89, rl_65 = (sum_86, p_87, point_88, k_89) → YY l E M_X12_area 2 0 0 (pS (some (vl r)) σ') 190 [some (vr 277), some (vi slot_0), some (vl sum_86), none, some (vi p_87), some (vi ((2048 * slot_0) + x_40)), some (vi point_88), some (vi x_53), some (vi x_55), some (vi k_89), none, none] [] σ_37 0 0 := by
                intro sum_86 p_87 point_88 k_89 e
                have H := hk_63
                rw [e] at H
                refine z_goto (M := M_X12_area) (tgt := 75) dX12_area_190 (by decide) ?_
                refine z_le (lv' := [some (vr 277), some (vi slot_0), some (vl sum_86), none, some (vi p_87), some (vi ((2048 * slot_0) + x_40)), some (vi point_88), none, none, none, none, none]) ⟨Or.inr rfl, Or.inr rfl, Or.inr rfl, Or.inl rfl, Or.inr rfl, Or.inr rfl, Or.inr rfl, Or.inl rfl, Or.inl rfl, Or.inl rfl, Or.inl rfl, Or.inl rfl, trivial⟩ ?_
                exact K_50 _ (Option.some.inj H).symm
              refine whl_go hw_62 (fun (sum_58, p_59, point_60, k_61) => YY l E M_X12_area 2 0 0 (pS (some (vl r)) σ') 125 [some (vr 277), some (vi slot_0), some (vl sum_58), none, some (vi p_59), some (vi ((2048 * slot_0) + x_40)), some (vi point_60), some (vi x_53), some (vi x_55), some (vi k_61), none, none] [] σ_37 0 0) ?_
              rintro ⟨sum_58, p_59, point_60, k_61⟩ o_66 H K_67 K_68
              rcases if_e H with ⟨h_79, H⟩ | ⟨h_79, H⟩
              · have J_80 : YY l E M_X12_area 2 0 0 (pS (some (vl r)) σ') 138 [some (vr 277), some (vi slot_0), some (vl sum_58), none, some (vi p_59), some (vi ((2048 * slot_0) + x_40)), some (vi point_60), some (vi x_53), some (vi x_55), some (vi k_61), none, none] [] σ_37 0 0 := by
                  refine z_aload_n (M := M_X12_area) dX12_area_138 rfl ?_
                  refine z_iload (M := M_X12_area) dX12_area_139 rfl ?_
                  refine z_aload_n (M := M_X12_area) dX12_area_141 rfl ?_
                  refine z_getR (M := M_X12_area) (ci := 15) (C := RX12) (T := TX12) (Nf := 135) (ty := tyX12) cl15 dX12_area_142 ly_277 10 (by decide) t_2401 rfl ?_
                  refine z_iload (M := M_X12_area) dX12_area_145 rfl ?_
                  obtain ⟨x_69, x_69_e, hi_70, H⟩ := rd_e H
                  refine z_iald (M := M_X12_area) dX12_area_147 ly_281 rfl rfl rfl hi_70 x_69_e ?_
                  obtain ⟨x_72, hc_71, H⟩ := bd_e H
                  refine z_callV (M := M_X12_area) (M' := M_X12_around) (as := [vi point_60, vi x_69]) (rest := []) rfl rfl dX12_area_148 m_X12_around t_3346 t_3348 s_249 (c_X12_around hl  hc_71) rfl rfl ly_277 rfl (Nat.le_of_ble_eq_true rfl) (Nat.le_of_ble_eq_true rfl) (Nat.le_of_ble_eq_true rfl) (Nat.le_of_ble_eq_true rfl) ?_
                  refine z_st (st' := [vl x_72]) rfl ?_
                  refine z_lstore (M := M_X12_area) (lv' := [some (vr 277), some (vi slot_0), some (vl sum_58), none, some (vi p_59), some (vi ((2048 * slot_0) + x_40)), some (vi point_60), some (vi x_53), some (vi x_55), some (vi k_61), some (vl x_72), none]) dX12_area_151 (Nat.le_of_ble_eq_true rfl) rfl rfl ?_
                  refine z_lload_n (M := M_X12_area) dX12_area_153 rfl ?_
                  have J_73 : YY l E M_X12_area 2 0 0 (pS (some (vl r)) σ') 167 [some (vr 277), some (vi slot_0), some (vl sum_58), none, some (vi p_59), some (vi ((2048 * slot_0) + x_40)), some (vi point_60), some (vi x_53), some (vi x_55), some (vi k_61), some (vl x_72), none] [vl (if (w32 k_61) = 0 then x_72 else (-x_72)), vl sum_58] σ_37 0 0 := by
                    refine z_ladd (M := M_X12_area) dX12_area_167 ?_
                    refine z_lstore_n (M := M_X12_area) (lv' := [some (vr 277), some (vi slot_0), some (vl (sum_58 + (if (w32 k_61) = 0 then x_72 else (-x_72)))), none, some (vi p_59), some (vi ((2048 * slot_0) + x_40)), some (vi point_60), some (vi x_53), some (vi x_55), some (vi k_61), some (vl x_72), none]) dX12_area_168 (Nat.le_of_ble_eq_true rfl) rfl rfl ?_
                    refine z_iload (M := M_X12_area) dX12_area_169 rfl ?_
                    refine z_aload_n (M := M_X12_area) dX12_area_171 rfl ?_
                    refine z_getR (M := M_X12_area) (ci := 15) (C := RX12) (T := TX12) (Nf := 135) (ty := tyX12) cl15 dX12_area_172 ly_277 10 (by decide) t_2401 rfl ?_
                    refine z_iload (M := M_X12_area) dX12_area_175 rfl ?_
                    obtain ⟨x_74, x_74_e, hi_75, H⟩ := rd_e H
                    refine z_iald (M := M_X12_area) dX12_area_177 ly_281 rfl rfl rfl hi_75 x_74_e ?_
                    refine z_iadd (M := M_X12_area) dX12_area_178 ?_
                    refine z_istore (M := M_X12_area) (lv' := [some (vr 277), some (vi slot_0), some (vl (sum_58 + (if (w32 k_61) = 0 then x_72 else (-x_72)))), none, some (vi p_59), some (vi ((2048 * slot_0) + x_40)), some (vi (point_60 + x_74)), some (vi x_53), some (vi x_55), some (vi k_61), some (vl x_72), none]) dX12_area_179 (Nat.le_of_ble_eq_true rfl) rfl rfl ?_
                    refine z_iinc (M := M_X12_area) (lv' := [some (vr 277), some (vi slot_0), some (vl (sum_58 + (if (w32 k_61) = 0 then x_72 else (-x_72)))), none, some (vi (p_59 + 1)), some (vi ((2048 * slot_0) + x_40)), some (vi (point_60 + x_74)), some (vi x_53), some (vi x_55), some (vi k_61), some (vl x_72), none]) dX12_area_181 rfl (Nat.le_of_ble_eq_true rfl) rfl rfl ?_
                    refine z_iinc (M := M_X12_area) (lv' := [some (vr 277), some (vi slot_0), some (vl (sum_58 + (if (w32 k_61) = 0 then x_72 else (-x_72)))), none, some (vi (p_59 + 1)), some (vi ((2048 * slot_0) + x_40)), some (vi (point_60 + x_74)), some (vi x_53), some (vi x_55), some (vi (k_61 + 1)), some (vl x_72), none]) dX12_area_184 rfl (Nat.le_of_ble_eq_true rfl) rfl rfl ?_
                    refine z_goto (M := M_X12_area) (tgt := 125) dX12_area_187 (by decide) ?_
                    refine z_le (lv' := [some (vr 277), some (vi slot_0), some (vl (sum_58 + (if (w32 k_61) = 0 then x_72 else (-x_72)))), none, some (vi (p_59 + 1)), some (vi ((2048 * slot_0) + x_40)), some (vi (point_60 + x_74)), some (vi x_53), some (vi x_55), some (vi (k_61 + 1)), none, none]) ⟨Or.inr rfl, Or.inr rfl, Or.inr rfl, Or.inl rfl, Or.inr rfl, Or.inr rfl, Or.inr rfl, Or.inr rfl, Or.inr rfl, Or.inr rfl, Or.inl rfl, Or.inl rfl, trivial⟩ ?_
                    exact K_67 _ (Option.some.inj H).symm
                  refine z_iload (M := M_X12_area) dX12_area_154 rfl ?_
                  by_cases h_77 : (w32 k_61) = 0
                  · refine z_if_ne_f (M := M_X12_area) (tgt := 164) dX12_area_156 (by decide) rfl h_77 ?_
                    refine z_lload (M := M_X12_area) dX12_area_159 rfl ?_
                    refine z_goto (M := M_X12_area) (tgt := 167) dX12_area_161 (by decide) ?_
                    exact z_st (by rw [if_pos (c := (w32 k_61) = 0) h_77]) J_73
                  · refine z_if_ne_t (M := M_X12_area) (tgt := 164) dX12_area_156 (by decide) rfl h_77 ?_
                    refine z_lload (M := M_X12_area) dX12_area_164 rfl ?_
                    refine z_lneg (M := M_X12_area) dX12_area_166 ?_
                    exact z_st (by rw [if_neg (c := (w32 k_61) = 0) h_77]) J_73
                refine z_iload (M := M_X12_area) dX12_area_125 rfl ?_
                refine z_iconst (M := M_X12_area) dX12_area_127 ?_
                by_cases h_82 : (w32 x_53) = 3
                · refine z_icmp_ne_f (M := M_X12_area) (tgt := 190) dX12_area_128 (by decide) rfl (by decide +kernel) h_82 ?_
                  refine z_iload (M := M_X12_area) dX12_area_131 rfl ?_
                  refine z_iload (M := M_X12_area) dX12_area_133 rfl ?_
                  by_cases h_83 : (w32 k_61) < (w32 x_55)
                  · refine z_icmp_ge_f (M := M_X12_area) (tgt := 190) dX12_area_135 (by decide) rfl rfl h_83 ?_
                    exact J_80
                  · refine z_icmp_ge_t (M := M_X12_area) (tgt := 190) dX12_area_135 (by decide) rfl rfl (Int.not_lt.mp h_83) ?_
                    exact absurd h_79 (fun q => h_83 q.2)
                · refine z_icmp_ne_t (M := M_X12_area) (tgt := 190) dX12_area_128 (by decide) rfl (by decide +kernel) h_82 ?_
                  exact absurd h_79 (fun q => h_82 q.1)
              · have J_81 : YY l E M_X12_area 2 0 0 (pS (some (vl r)) σ') 190 [some (vr 277), some (vi slot_0), some (vl sum_58), none, some (vi p_59), some (vi ((2048 * slot_0) + x_40)), some (vi point_60), some (vi x_53), some (vi x_55), some (vi k_61), none, none] [] σ_37 0 0 := by
                  exact J_91 _ _ _ _ (K_68 _ (Option.some.inj H).symm).symm
                refine z_iload (M := M_X12_area) dX12_area_125 rfl ?_
                refine z_iconst (M := M_X12_area) dX12_area_127 ?_
                by_cases h_84 : (w32 x_53) = 3
                · refine z_icmp_ne_f (M := M_X12_area) (tgt := 190) dX12_area_128 (by decide) rfl (by decide +kernel) h_84 ?_
                  refine z_iload (M := M_X12_area) dX12_area_131 rfl ?_
                  refine z_iload (M := M_X12_area) dX12_area_133 rfl ?_
                  by_cases h_85 : (w32 k_61) < (w32 x_55)
                  · refine z_icmp_ge_f (M := M_X12_area) (tgt := 190) dX12_area_135 (by decide) rfl rfl h_85 ?_
                    exact absurd ⟨h_84, h_85⟩ h_79
                  · refine z_icmp_ge_t (M := M_X12_area) (tgt := 190) dX12_area_135 (by decide) rfl rfl (Int.not_lt.mp h_85) ?_
                    exact J_81
                · refine z_icmp_ne_t (M := M_X12_area) (tgt := 190) dX12_area_128 (by decide) rfl (by decide +kernel) h_84 ?_
                  exact J_81
            refine z_iload (M := M_X12_area) dX12_area_107 rfl ?_
            refine z_iconst (M := M_X12_area) dX12_area_109 ?_
            by_cases h_92 : (w32 x_53) < 3
            · refine z_icmp_ge_f (M := M_X12_area) (tgt := 118) dX12_area_110 (by decide) rfl (by decide +kernel) h_92 ?_
              refine z_iload (M := M_X12_area) dX12_area_113 rfl ?_
              refine z_goto (M := M_X12_area) (tgt := 119) dX12_area_115 (by decide) ?_
              exact z_st (by rw [if_pos (c := (w32 x_53) < 3) h_92]) J_57
            · refine z_icmp_ge_t (M := M_X12_area) (tgt := 118) dX12_area_110 (by decide) rfl (by decide +kernel) (Int.not_lt.mp h_92) ?_
              refine z_iconst (M := M_X12_area) dX12_area_118 ?_
              exact z_st (by rw [if_neg (c := (w32 x_53) < 3) h_92]) J_57
          · refine z_icmp_ge_t (M := M_X12_area) (tgt := 193) dX12_area_79 (by decide) rfl rfl (Int.not_lt.mp h_52) ?_
            exact J_97 _ _ _ (K_51 _ (Option.some.inj H).symm).symm
      have H := he_99
      refine z_aload_n (M := M_X12_area) dX12_area_26 rfl ?_
      refine z_iload_n (M := M_X12_area) dX12_area_27 rfl ?_
      obtain ⟨x_31, hc_30, H⟩ := bd_e H
      refine z_callV (M := M_X12_area) (M' := M_X12_has) (as := [vi slot_0]) (rest := [vr 277]) rfl rfl dX12_area_28 m_X12_has t_3033 t_3035 s_197 (c_X12_has hl  hc_30) rfl rfl ly_277 rfl (Nat.le_of_ble_eq_true rfl) (Nat.le_of_ble_eq_true rfl) (Nat.le_of_ble_eq_true rfl) (Nat.le_of_ble_eq_true rfl) ?_
      refine z_st (st' := [zv x_31, vr 277]) rfl ?_
      rcases if_e H with ⟨h_32, H⟩ | ⟨h_32, H⟩
      · refine z_zne_t (M := M_X12_area) (tgt := 38) dX12_area_31 (by decide) h_32 ?_
        refine z_zconst (M := M_X12_area) (b := false) dX12_area_38 rfl ?_
        exact J_101 _ (Option.some.inj H).symm
      · refine z_zne_f (M := M_X12_area) (tgt := 38) dX12_area_31 (by decide) h_32 ?_
        refine z_zconst (M := M_X12_area) (b := true) dX12_area_34 rfl ?_
        refine z_goto (M := M_X12_area) (tgt := 39) dX12_area_35 (by decide) ?_
        exact J_101 _ (Option.some.inj H).symm
  refine z_iload_n (M := M_X12_area) dX12_area_6 rfl ?_
  refine z_callS (M := M_X12_area) (M' := M_X12_isSlot) (as := [vi slot_0]) (rest := [vr 277]) rfl rfl dX12_area_7 m_X12_isSlot t_2841 t_2842 (c_X12_isSlot hl  rfl) rfl rfl (Nat.le_of_ble_eq_true rfl) (Nat.le_of_ble_eq_true rfl) (Nat.le_of_ble_eq_true rfl) (Nat.le_of_ble_eq_true rfl) ?_
  refine z_st (st' := [zv (fR_isSlot slot_0), vr 277]) rfl ?_
  by_cases h_102 : (fR_isSlot slot_0) = true
  · refine z_zne_t (M := M_X12_area) (tgt := 17) dX12_area_10 (by decide) h_102 ?_
    refine z_iconst (M := M_X12_area) dX12_area_17 ?_
    exact z_st (by rw [zv_f (p := ¬ ((fR_isSlot slot_0) = true)) (not_not_intro h_102)]) J_25
  · refine z_zne_f (M := M_X12_area) (tgt := 17) dX12_area_10 (by decide) h_102 ?_
    refine z_iconst (M := M_X12_area) dX12_area_13 ?_
    refine z_goto (M := M_X12_area) (tgt := 18) dX12_area_14 (by decide) ?_
    exact z_st (by rw [zv_t (p := ¬ ((fR_isSlot slot_0) = true)) h_102]) J_25
theorem c_X12_isNear (hl : l.stackTraces = false) {σ : SG} {slot_0 : Int} {r : Bool}  (H : fR_isNear σ slot_0 = some r) : en_S l E M_X12_isNear 2 0 0 [vr 277, vi slot_0] σ (pS (some (zv r)) σ) := by
  unfold fR_isNear at H
  refine z_mk (lv := [some (vr 277), some (vi slot_0), none, none]) m_X12_isNear rfl hl (Nat.le_of_ble_eq_true rfl) rfl ?_
  refine z_zconst (M := M_X12_isNear) (b := true) dX12_isNear_0 rfl ?_
  refine z_zstore_n (M := M_X12_isNear) (lv' := [some (vr 277), some (vi slot_0), some (zv true), none]) dX12_isNear_1 (Nat.le_of_ble_eq_true rfl) rfl rfl ?_
  refine z_sipush (M := M_X12_isNear) dX12_isNear_2 (by decide +kernel) ?_
  refine z_iload_n (M := M_X12_isNear) dX12_isNear_5 rfl ?_
  refine z_imul (M := M_X12_isNear) dX12_isNear_6 ?_
  refine z_istore_n (M := M_X12_isNear) (lv' := [some (vr 277), some (vi slot_0), some (zv true), some (vi (2048 * slot_0))]) dX12_isNear_7 (Nat.le_of_ble_eq_true rfl) rfl rfl ?_
  obtain ⟨rl_6, hw_3, hk_4⟩ := bd_e H
  have J_33 : ∀ near_31 k_32, rl_6 = (near_31, k_32) → YY l E M_X12_isNear 2 0 0 (pS (some (zv r)) σ) 78 [some (vr 277), some (vi slot_0), some (zv near_31), some (vi k_32)] [] σ 0 0 := by
    intro near_31 k_32 e
    have H := hk_4
    rw [e] at H
    refine z_zload_n (M := M_X12_isNear) dX12_isNear_78 rfl ?_
    cases H
    exact z_zret (M := M_X12_isNear) dX12_isNear_79 rfl (Nat.le_of_ble_eq_true rfl) (Nat.le_of_ble_eq_true rfl) ⟨rfl, rfl⟩
  refine whl_go hw_3 (fun (near_1, k_2) => YY l E M_X12_isNear 2 0 0 (pS (some (zv r)) σ) 8 [some (vr 277), some (vi slot_0), some (zv near_1), some (vi k_2)] [] σ 0 0) ?_
  rintro ⟨near_1, k_2⟩ o_7 H K_8 K_9
  refine z_iload_n (M := M_X12_isNear) dX12_isNear_8 rfl ?_
  refine z_sipush (M := M_X12_isNear) dX12_isNear_9 (by decide +kernel) ?_
  refine z_iload_n (M := M_X12_isNear) dX12_isNear_12 rfl ?_
  refine z_imul (M := M_X12_isNear) dX12_isNear_13 ?_
  refine z_aload_n (M := M_X12_isNear) dX12_isNear_14 rfl ?_
  refine z_getR (M := M_X12_isNear) (ci := 15) (C := RX12) (T := TX12) (Nf := 135) (ty := tyX12) cl15 dX12_isNear_15 ly_277 11 (by decide) t_2402 rfl ?_
  refine z_iload_n (M := M_X12_isNear) dX12_isNear_18 rfl ?_
  obtain ⟨x_10, x_10_e, hi_11, H⟩ := rd_e H
  refine z_iald (M := M_X12_isNear) dX12_isNear_19 ly_282 rfl rfl rfl hi_11 x_10_e ?_
  refine z_iadd (M := M_X12_isNear) dX12_isNear_20 ?_
  rcases if_e H with ⟨h_12, H⟩ | ⟨h_12, H⟩
  · refine z_icmp_ge_f (M := M_X12_isNear) (tgt := 78) dX12_isNear_21 (by decide) rfl rfl h_12 ?_
    obtain ⟨v_26, he_27, hk_28⟩ := bd_e H
    have J_29 : ∀ x_24, v_26 = x_24 → YY l E M_X12_isNear 2 0 0 (pS (some (zv r)) σ) 71 [some (vr 277), some (vi slot_0), some (zv near_1), some (vi k_2)] [zv x_24] σ 0 0 := by
      intro x_24 e
      have H := hk_28
      rw [e] at H
      refine z_zstore_n (M := M_X12_isNear) (lv' := [some (vr 277), some (vi slot_0), some (zv x_24), some (vi k_2)]) dX12_isNear_71 (Nat.le_of_ble_eq_true rfl) rfl rfl ?_
      refine z_iinc (M := M_X12_isNear) (lv' := [some (vr 277), some (vi slot_0), some (zv x_24), some (vi (k_2 + 1))]) dX12_isNear_72 rfl (Nat.le_of_ble_eq_true rfl) rfl rfl ?_
      refine z_goto (M := M_X12_isNear) (tgt := 8) dX12_isNear_75 (by decide) ?_
      exact K_8 _ (Option.some.inj H).symm
    have H := he_27
    refine z_zload_n (M := M_X12_isNear) dX12_isNear_24 rfl ?_
    rcases if_e H with ⟨h_13, H⟩ | ⟨h_13, H⟩
    · refine z_zeq_f (M := M_X12_isNear) (tgt := 70) dX12_isNear_25 (by decide) h_13 ?_
      refine z_aload_n (M := M_X12_isNear) dX12_isNear_28 rfl ?_
      refine z_getR (M := M_X12_isNear) (ci := 15) (C := RX12) (T := TX12) (Nf := 135) (ty := tyX12) cl15 dX12_isNear_29 ly_277 12 (by decide) t_2403 rfl ?_
      refine z_iload_n (M := M_X12_isNear) dX12_isNear_32 rfl ?_
      obtain ⟨x_14, x_14_e, hi_15, H⟩ := rd_e H
      refine z_iald (M := M_X12_isNear) dX12_isNear_33 ly_283 rfl rfl rfl hi_15 x_14_e ?_
      refine z_i2l (M := M_X12_isNear) dX12_isNear_34 ?_
      refine z_ldc2 (M := M_X12_isNear) (n := (-500000000)) dX12_isNear_35 t_3363 (by decide +kernel) ?_
      refine z_ldc2 (M := M_X12_isNear) (n := 500000000) dX12_isNear_38 t_3364 (by decide +kernel) ?_
      refine z_callS (M := M_X12_isNear) (M' := M_X12_in) (as := [vl (w32 x_14), vl (-500000000), vl 500000000]) (rest := []) rfl rfl dX12_isNear_41 m_X12_in t_2818 t_2819 (c_X12_in hl  rfl) rfl rfl (Nat.le_of_ble_eq_true rfl) (Nat.le_of_ble_eq_true rfl) (Nat.le_of_ble_eq_true rfl) (Nat.le_of_ble_eq_true rfl) ?_
      refine z_st (st' := [zv (fR_in (w32 x_14) (-500000000) 500000000)]) rfl ?_
      rcases if_e H with ⟨h_16, H⟩ | ⟨h_16, H⟩
      · refine z_zeq_f (M := M_X12_isNear) (tgt := 70) dX12_isNear_44 (by decide) h_16 ?_
        refine z_aload_n (M := M_X12_isNear) dX12_isNear_47 rfl ?_
        refine z_getR (M := M_X12_isNear) (ci := 15) (C := RX12) (T := TX12) (Nf := 135) (ty := tyX12) cl15 dX12_isNear_48 ly_277 13 (by decide) t_2404 rfl ?_
        refine z_iload_n (M := M_X12_isNear) dX12_isNear_51 rfl ?_
        obtain ⟨x_17, x_17_e, hi_18, H⟩ := rd_e H
        refine z_iald (M := M_X12_isNear) dX12_isNear_52 ly_284 rfl rfl rfl hi_18 x_17_e ?_
        refine z_i2l (M := M_X12_isNear) dX12_isNear_53 ?_
        refine z_ldc2 (M := M_X12_isNear) (n := (-500000000)) dX12_isNear_54 t_3363 (by decide +kernel) ?_
        refine z_ldc2 (M := M_X12_isNear) (n := 500000000) dX12_isNear_57 t_3364 (by decide +kernel) ?_
        refine z_callS (M := M_X12_isNear) (M' := M_X12_in) (as := [vl (w32 x_17), vl (-500000000), vl 500000000]) (rest := []) rfl rfl dX12_isNear_60 m_X12_in t_2818 t_2819 (c_X12_in hl  rfl) rfl rfl (Nat.le_of_ble_eq_true rfl) (Nat.le_of_ble_eq_true rfl) (Nat.le_of_ble_eq_true rfl) (Nat.le_of_ble_eq_true rfl) ?_
        refine z_st (st' := [zv (fR_in (w32 x_17) (-500000000) 500000000)]) rfl ?_
        rcases if_e H with ⟨h_19, H⟩ | ⟨h_19, H⟩
        · refine z_zeq_f (M := M_X12_isNear) (tgt := 70) dX12_isNear_63 (by decide) h_19 ?_
          refine z_zconst (M := M_X12_isNear) (b := true) dX12_isNear_66 rfl ?_
          refine z_goto (M := M_X12_isNear) (tgt := 71) dX12_isNear_67 (by decide) ?_
          exact J_29 _ (Option.some.inj H).symm
        · refine z_zeq_t (M := M_X12_isNear) (tgt := 70) dX12_isNear_63 (by decide) h_19 ?_
          refine z_zconst (M := M_X12_isNear) (b := false) dX12_isNear_70 rfl ?_
          exact J_29 _ (Option.some.inj H).symm
      · refine z_zeq_t (M := M_X12_isNear) (tgt := 70) dX12_isNear_44 (by decide) h_16 ?_
        refine z_zconst (M := M_X12_isNear) (b := false) dX12_isNear_70 rfl ?_
        exact J_29 _ (Option.some.inj H).symm
    · refine z_zeq_t (M := M_X12_isNear) (tgt := 70) dX12_isNear_25 (by decide) h_13 ?_
      refine z_zconst (M := M_X12_isNear) (b := false) dX12_isNear_70 rfl ?_
      exact J_29 _ (Option.some.inj H).symm
  · refine z_icmp_ge_t (M := M_X12_isNear) (tgt := 78) dX12_isNear_21 (by decide) rfl rfl (Int.not_lt.mp h_12) ?_
    exact J_33 _ _ (K_9 _ (Option.some.inj H).symm).symm
theorem c_X12_isLaid (hl : l.stackTraces = false) {σ : SG} {slot_0 : Int} {r : Bool}  (H : fR_isLaid σ slot_0 = some r) : en_S l E M_X12_isLaid 3 0 0 [vr 277, vi slot_0] σ (pS (some (zv r)) σ) := by
  unfold fR_isLaid at H
  refine z_mk (lv := [some (vr 277), some (vi slot_0), none]) m_X12_isLaid rfl hl (Nat.le_of_ble_eq_true rfl) rfl ?_
  refine z_aload_n (M := M_X12_isLaid) dX12_isLaid_0 rfl ?_
  refine z_getR (M := M_X12_isLaid) (ci := 15) (C := RX12) (T := TX12) (Nf := 135) (ty := tyX12) cl15 dX12_isLaid_1 ly_277 10 (by decide) t_2401 rfl ?_
  refine z_sipush (M := M_X12_isLaid) dX12_isLaid_4 (by decide +kernel) ?_
  refine z_iload_n (M := M_X12_isLaid) dX12_isLaid_7 rfl ?_
  refine z_imul (M := M_X12_isLaid) dX12_isLaid_8 ?_
  obtain ⟨x_1, x_1_e, hi_2, H⟩ := rd_e H
  refine z_iald (M := M_X12_isLaid) dX12_isLaid_9 ly_281 rfl rfl rfl hi_2 x_1_e ?_
  refine z_istore_n (M := M_X12_isLaid) (lv' := [some (vr 277), some (vi slot_0), some (vi x_1)]) dX12_isLaid_10 (Nat.le_of_ble_eq_true rfl) rfl rfl ?_
  obtain ⟨v_17, he_18, hk_19⟩ := bd_e H
  have J_20 : ∀ x_16, v_17 = x_16 → YY l E M_X12_isLaid 3 0 0 (pS (some (zv r)) σ) 35 [some (vr 277), some (vi slot_0), some (vi x_1)] [zv x_16] σ 0 0 := by
    intro x_16 e
    have H := hk_19
    rw [e] at H
    cases H
    exact z_zret (M := M_X12_isLaid) dX12_isLaid_35 rfl (Nat.le_of_ble_eq_true rfl) (Nat.le_of_ble_eq_true rfl) ⟨rfl, rfl⟩
  have H := he_18
  refine z_iload_n (M := M_X12_isLaid) dX12_isLaid_11 rfl ?_
  refine z_iconst (M := M_X12_isLaid) dX12_isLaid_12 ?_
  rcases if_e H with ⟨h_3, H⟩ | ⟨h_3, H⟩
  · refine z_icmp_eq_t (M := M_X12_isLaid) (tgt := 22) dX12_isLaid_13 (by decide) rfl (by decide +kernel) h_3 ?_
    refine z_aload_n (M := M_X12_isLaid) dX12_isLaid_22 rfl ?_
    refine z_iload_n (M := M_X12_isLaid) dX12_isLaid_23 rfl ?_
    obtain ⟨x_5, hc_4, H⟩ := bd_e H
    refine z_callV (M := M_X12_isLaid) (M' := M_X12_isNear) (as := [vi slot_0]) (rest := []) rfl rfl dX12_isLaid_24 m_X12_isNear t_3359 t_3361 s_251 (c_X12_isNear hl  hc_4) rfl rfl ly_277 rfl (Nat.le_of_ble_eq_true rfl) (Nat.le_of_ble_eq_true rfl) (Nat.le_of_ble_eq_true rfl) (Nat.le_of_ble_eq_true rfl) ?_
    refine z_st (st' := [zv x_5]) rfl ?_
    rcases if_e H with ⟨h_6, H⟩ | ⟨h_6, H⟩
    · refine z_zeq_f (M := M_X12_isLaid) (tgt := 34) dX12_isLaid_27 (by decide) h_6 ?_
      refine z_zconst (M := M_X12_isLaid) (b := true) dX12_isLaid_30 rfl ?_
      refine z_goto (M := M_X12_isLaid) (tgt := 35) dX12_isLaid_31 (by decide) ?_
      exact J_20 _ (Option.some.inj H).symm
    · refine z_zeq_t (M := M_X12_isLaid) (tgt := 34) dX12_isLaid_27 (by decide) h_6 ?_
      refine z_zconst (M := M_X12_isLaid) (b := false) dX12_isLaid_34 rfl ?_
      exact J_20 _ (Option.some.inj H).symm
  · refine z_icmp_eq_f (M := M_X12_isLaid) (tgt := 22) dX12_isLaid_13 (by decide) rfl (by decide +kernel) h_3 ?_
    refine z_iload_n (M := M_X12_isLaid) dX12_isLaid_16 rfl ?_
    refine z_bipush (M := M_X12_isLaid) dX12_isLaid_17 (by decide +kernel) ?_
    rcases if_e H with ⟨h_9, H⟩ | ⟨h_9, H⟩
    · refine z_icmp_ne_f (M := M_X12_isLaid) (tgt := 34) dX12_isLaid_19 (by decide) rfl (by decide +kernel) h_9 ?_
      refine z_aload_n (M := M_X12_isLaid) dX12_isLaid_22 rfl ?_
      refine z_iload_n (M := M_X12_isLaid) dX12_isLaid_23 rfl ?_
      obtain ⟨x_11, hc_10, H⟩ := bd_e H
      refine z_callV (M := M_X12_isLaid) (M' := M_X12_isNear) (as := [vi slot_0]) (rest := []) rfl rfl dX12_isLaid_24 m_X12_isNear t_3359 t_3361 s_251 (c_X12_isNear hl  hc_10) rfl rfl ly_277 rfl (Nat.le_of_ble_eq_true rfl) (Nat.le_of_ble_eq_true rfl) (Nat.le_of_ble_eq_true rfl) (Nat.le_of_ble_eq_true rfl) ?_
      refine z_st (st' := [zv x_11]) rfl ?_
      rcases if_e H with ⟨h_12, H⟩ | ⟨h_12, H⟩
      · refine z_zeq_f (M := M_X12_isLaid) (tgt := 34) dX12_isLaid_27 (by decide) h_12 ?_
        refine z_zconst (M := M_X12_isLaid) (b := true) dX12_isLaid_30 rfl ?_
        refine z_goto (M := M_X12_isLaid) (tgt := 35) dX12_isLaid_31 (by decide) ?_
        exact J_20 _ (Option.some.inj H).symm
      · refine z_zeq_t (M := M_X12_isLaid) (tgt := 34) dX12_isLaid_27 (by decide) h_12 ?_
        refine z_zconst (M := M_X12_isLaid) (b := false) dX12_isLaid_34 rfl ?_
        exact J_20 _ (Option.some.inj H).symm
    · refine z_icmp_ne_t (M := M_X12_isLaid) (tgt := 34) dX12_isLaid_19 (by decide) rfl (by decide +kernel) h_9 ?_
      refine z_zconst (M := M_X12_isLaid) (b := false) dX12_isLaid_34 rfl ?_
      exact J_20 _ (Option.some.inj H).symm
theorem c_X12_layRings (hl : l.stackTraces = false) {σ : SG} {slot_0 : Int} {shape_0 : Int} {r : Bool} {σ' : SG}  (H : fR_layRings σ slot_0 shape_0 = some (r, σ')) : en_S l E M_X12_layRings 2 0 0 [vr 277, vi slot_0, vi shape_0] σ (pS (some (zv r)) σ') := by
  unfold fR_layRings at H
  refine z_mk (lv := [some (vr 277), some (vi slot_0), some (vi shape_0), none, none, none, none, none, none, none, none, none]) m_X12_layRings rfl hl (Nat.le_of_ble_eq_true rfl) rfl ?_
  refine z_sipush (M := M_X12_layRings) dX12_layRings_0 (by decide +kernel) ?_
  refine z_iload_n (M := M_X12_layRings) dX12_layRings_3 rfl ?_
  refine z_imul (M := M_X12_layRings) dX12_layRings_4 ?_
  refine z_istore_n (M := M_X12_layRings) (lv' := [some (vr 277), some (vi slot_0), some (vi shape_0), some (vi (2048 * slot_0)), none, none, none, none, none, none, none, none]) dX12_layRings_5 (Nat.le_of_ble_eq_true rfl) rfl rfl ?_
  refine z_iload_n (M := M_X12_layRings) dX12_layRings_6 rfl ?_
  refine z_aload_n (M := M_X12_layRings) dX12_layRings_7 rfl ?_
  refine z_getR (M := M_X12_layRings) (ci := 15) (C := RX12) (T := TX12) (Nf := 135) (ty := tyX12) cl15 dX12_layRings_8 ly_277 9 (by decide) t_2400 rfl ?_
  refine z_iload_n (M := M_X12_layRings) dX12_layRings_11 rfl ?_
  obtain ⟨x_1, x_1_e, hi_2, H⟩ := rd_e H
  refine z_iald (M := M_X12_layRings) dX12_layRings_12 ly_280 rfl rfl rfl hi_2 x_1_e ?_
  refine z_iadd (M := M_X12_layRings) dX12_layRings_13 ?_
  refine z_istore (M := M_X12_layRings) (lv' := [some (vr 277), some (vi slot_0), some (vi shape_0), some (vi (2048 * slot_0)), some (vi ((2048 * slot_0) + x_1)), none, none, none, none, none, none, none]) dX12_layRings_14 (Nat.le_of_ble_eq_true rfl) rfl rfl ?_
  refine z_sipush (M := M_X12_layRings) dX12_layRings_16 (by decide +kernel) ?_
  refine z_iload_n (M := M_X12_layRings) dX12_layRings_19 rfl ?_
  refine z_imul (M := M_X12_layRings) dX12_layRings_20 ?_
  refine z_istore (M := M_X12_layRings) (lv' := [some (vr 277), some (vi slot_0), some (vi shape_0), some (vi (2048 * slot_0)), some (vi ((2048 * slot_0) + x_1)), some (vi (2048 * slot_0)), none, none, none, none, none, none]) dX12_layRings_21 (Nat.le_of_ble_eq_true rfl) rfl rfl ?_
  refine z_zconst (M := M_X12_layRings) (b := true) dX12_layRings_23 rfl ?_
  refine z_zstore (M := M_X12_layRings) (lv' := [some (vr 277), some (vi slot_0), some (vi shape_0), some (vi (2048 * slot_0)), some (vi ((2048 * slot_0) + x_1)), some (vi (2048 * slot_0)), some (zv true), none, none, none, none, none]) dX12_layRings_24 (Nat.le_of_ble_eq_true rfl) rfl rfl ?_
  obtain ⟨rl_10, hw_7, hk_8⟩ := bd_e H
  have J_85 : ∀ p_81 point_82 closed_83 σ_84, rl_10 = (p_81, point_82, closed_83, σ_84) → YY l E M_X12_layRings 2 0 0 (pS (some (zv r)) σ') 168 [some (vr 277), some (vi slot_0), some (vi shape_0), some (vi p_81), some (vi ((2048 * slot_0) + x_1)), some (vi point_82), some (zv closed_83), none, none, none, none, none] [] σ_84 0 0 := by
    intro p_81 point_82 closed_83 σ_84 e
    have H := hk_8
    rw [e] at H
    refine z_zload (M := M_X12_layRings) dX12_layRings_168 rfl ?_
    cases H
    exact z_zret (M := M_X12_layRings) dX12_layRings_170 rfl (Nat.le_of_ble_eq_true rfl) (Nat.le_of_ble_eq_true rfl) ⟨rfl, rfl⟩
  refine whl_go hw_7 (fun (p_3, point_4, closed_5, σ_6) => YY l E M_X12_layRings 2 0 0 (pS (some (zv r)) σ') 26 [some (vr 277), some (vi slot_0), some (vi shape_0), some (vi p_3), some (vi ((2048 * slot_0) + x_1)), some (vi point_4), some (zv closed_5), none, none, none, none, none] [] σ_6 0 0) ?_
  rintro ⟨p_3, point_4, closed_5, σ_6⟩ o_11 H K_12 K_13
  refine z_iload_n (M := M_X12_layRings) dX12_layRings_26 rfl ?_
  refine z_iload (M := M_X12_layRings) dX12_layRings_27 rfl ?_
  rcases if_e H with ⟨h_14, H⟩ | ⟨h_14, H⟩
  · refine z_icmp_ge_f (M := M_X12_layRings) (tgt := 168) dX12_layRings_29 (by decide) rfl rfl h_14 ?_
    refine z_aload_n (M := M_X12_layRings) dX12_layRings_32 rfl ?_
    refine z_getR (M := M_X12_layRings) (ci := 15) (C := RX12) (T := TX12) (Nf := 135) (ty := tyX12) cl15 dX12_layRings_33 ly_277 10 (by decide) t_2401 rfl ?_
    refine z_iload_n (M := M_X12_layRings) dX12_layRings_36 rfl ?_
    obtain ⟨x_15, x_15_e, hi_16, H⟩ := rd_e H
    refine z_iald (M := M_X12_layRings) dX12_layRings_37 ly_281 rfl rfl rfl hi_16 x_15_e ?_
    refine z_istore (M := M_X12_layRings) (lv' := [some (vr 277), some (vi slot_0), some (vi shape_0), some (vi p_3), some (vi ((2048 * slot_0) + x_1)), some (vi point_4), some (zv closed_5), some (vi x_15), none, none, none, none]) dX12_layRings_38 (Nat.le_of_ble_eq_true rfl) rfl rfl ?_
    refine z_aload_n (M := M_X12_layRings) dX12_layRings_40 rfl ?_
    refine z_getR (M := M_X12_layRings) (ci := 15) (C := RX12) (T := TX12) (Nf := 135) (ty := tyX12) cl15 dX12_layRings_41 ly_277 10 (by decide) t_2401 rfl ?_
    refine z_iload_n (M := M_X12_layRings) dX12_layRings_44 rfl ?_
    refine z_iconst (M := M_X12_layRings) dX12_layRings_45 ?_
    refine z_iadd (M := M_X12_layRings) dX12_layRings_46 ?_
    obtain ⟨x_17, x_17_e, hi_18, H⟩ := rd_e H
    refine z_iald (M := M_X12_layRings) dX12_layRings_47 ly_281 rfl rfl rfl hi_18 x_17_e ?_
    refine z_istore (M := M_X12_layRings) (lv' := [some (vr 277), some (vi slot_0), some (vi shape_0), some (vi p_3), some (vi ((2048 * slot_0) + x_1)), some (vi point_4), some (zv closed_5), some (vi x_15), some (vi x_17), none, none, none]) dX12_layRings_48 (Nat.le_of_ble_eq_true rfl) rfl rfl ?_
    refine z_iinc (M := M_X12_layRings) (lv' := [some (vr 277), some (vi slot_0), some (vi shape_0), some (vi (p_3 + 2)), some (vi ((2048 * slot_0) + x_1)), some (vi point_4), some (zv closed_5), some (vi x_15), some (vi x_17), none, none, none]) dX12_layRings_50 rfl (Nat.le_of_ble_eq_true rfl) rfl rfl ?_
    refine z_iconst (M := M_X12_layRings) dX12_layRings_53 ?_
    refine z_istore (M := M_X12_layRings) (lv' := [some (vr 277), some (vi slot_0), some (vi shape_0), some (vi (p_3 + 2)), some (vi ((2048 * slot_0) + x_1)), some (vi point_4), some (zv closed_5), some (vi x_15), some (vi x_17), some (vi 0), none, none]) dX12_layRings_54 (Nat.le_of_ble_eq_true rfl) rfl rfl ?_
    obtain ⟨rl_27, hw_24, hk_25⟩ := bd_e H
    have J_79 : ∀ p_73 point_74 closed_75 r_76 σ_77, rl_27 = (p_73, point_74, closed_75, r_76, σ_77) → YY l E M_X12_layRings 2 0 0 (pS (some (zv r)) σ') 165 [some (vr 277), some (vi slot_0), some (vi shape_0), some (vi p_73), some (vi ((2048 * slot_0) + x_1)), some (vi point_74), some (zv closed_75), some (vi x_15), some (vi x_17), some (vi r_76), none, none] [] σ_77 0 0 := by
      intro p_73 point_74 closed_75 r_76 σ_77 e
      have H := hk_25
      rw [e] at H
      refine z_goto (M := M_X12_layRings) (tgt := 26) dX12_layRings_165 (by decide) ?_
      refine z_le (lv' := [some (vr 277), some (vi slot_0), some (vi shape_0), some (vi p_73), some (vi ((2048 * slot_0) + x_1)), some (vi point_74), some (zv closed_75), none, none, none, none, none]) ⟨Or.inr rfl, Or.inr rfl, Or.inr rfl, Or.inr rfl, Or.inr rfl, Or.inr rfl, Or.inr rfl, Or.inl rfl, Or.inl rfl, Or.inl rfl, Or.inl rfl, Or.inl rfl, trivial⟩ ?_
      exact K_12 _ (Option.some.inj H).symm
    refine whl_go hw_24 (fun (p_19, point_20, closed_21, r_22, σ_23) => YY l E M_X12_layRings 2 0 0 (pS (some (zv r)) σ') 56 [some (vr 277), some (vi slot_0), some (vi shape_0), some (vi p_19), some (vi ((2048 * slot_0) + x_1)), some (vi point_20), some (zv closed_21), some (vi x_15), some (vi x_17), some (vi r_22), none, none] [] σ_23 0 0) ?_
    rintro ⟨p_19, point_20, closed_21, r_22, σ_23⟩ o_28 H K_29 K_30
    rcases if_e H with ⟨h_66, H⟩ | ⟨h_66, H⟩
    · have J_67 : YY l E M_X12_layRings 2 0 0 (pS (some (zv r)) σ') 69 [some (vr 277), some (vi slot_0), some (vi shape_0), some (vi p_19), some (vi ((2048 * slot_0) + x_1)), some (vi point_20), some (zv closed_21), some (vi x_15), some (vi x_17), some (vi r_22), none, none] [] σ_23 0 0 := by
        refine z_aload_n (M := M_X12_layRings) dX12_layRings_69 rfl ?_
        refine z_getR (M := M_X12_layRings) (ci := 15) (C := RX12) (T := TX12) (Nf := 135) (ty := tyX12) cl15 dX12_layRings_70 ly_277 10 (by decide) t_2401 rfl ?_
        refine z_iload_n (M := M_X12_layRings) dX12_layRings_73 rfl ?_
        obtain ⟨x_31, x_31_e, hi_32, H⟩ := rd_e H
        refine z_iald (M := M_X12_layRings) dX12_layRings_74 ly_281 rfl rfl rfl hi_32 x_31_e ?_
        refine z_istore (M := M_X12_layRings) (lv' := [some (vr 277), some (vi slot_0), some (vi shape_0), some (vi p_19), some (vi ((2048 * slot_0) + x_1)), some (vi point_20), some (zv closed_21), some (vi x_15), some (vi x_17), some (vi r_22), some (vi x_31), none]) dX12_layRings_75 (Nat.le_of_ble_eq_true rfl) rfl rfl ?_
        obtain ⟨v_61, he_62, hk_63⟩ := bd_e H
        have J_64 : ∀ x_42, v_61 = x_42 → YY l E M_X12_layRings 2 0 0 (pS (some (zv r)) σ') 108 [some (vr 277), some (vi slot_0), some (vi shape_0), some (vi p_19), some (vi ((2048 * slot_0) + x_1)), some (vi point_20), some (zv closed_21), some (vi x_15), some (vi x_17), some (vi r_22), some (vi x_31), none] [zv x_42] σ_23 0 0 := by
          intro x_42 e
          have H := hk_63
          rw [e] at H
          refine z_zstore (M := M_X12_layRings) (lv' := [some (vr 277), some (vi slot_0), some (vi shape_0), some (vi p_19), some (vi ((2048 * slot_0) + x_1)), some (vi point_20), some (zv x_42), some (vi x_15), some (vi x_17), some (vi r_22), some (vi x_31), none]) dX12_layRings_108 (Nat.le_of_ble_eq_true rfl) rfl rfl ?_
          refine z_iconst (M := M_X12_layRings) dX12_layRings_110 ?_
          refine z_istore (M := M_X12_layRings) (lv' := [some (vr 277), some (vi slot_0), some (vi shape_0), some (vi p_19), some (vi ((2048 * slot_0) + x_1)), some (vi point_20), some (zv x_42), some (vi x_15), some (vi x_17), some (vi r_22), some (vi x_31), some (vi 0)]) dX12_layRings_111 (Nat.le_of_ble_eq_true rfl) rfl rfl ?_
          obtain ⟨rl_48, hw_45, hk_46⟩ := bd_e H
          have J_60 : ∀ k_57 σ_58, rl_48 = (k_57, σ_58) → YY l E M_X12_layRings 2 0 0 (pS (some (zv r)) σ') 149 [some (vr 277), some (vi slot_0), some (vi shape_0), some (vi p_19), some (vi ((2048 * slot_0) + x_1)), some (vi point_20), some (zv x_42), some (vi x_15), some (vi x_17), some (vi r_22), some (vi x_31), some (vi k_57)] [] σ_58 0 0 := by
            intro k_57 σ_58 e
            have H := hk_46
            rw [e] at H
            refine z_iload (M := M_X12_layRings) dX12_layRings_149 rfl ?_
            refine z_iload (M := M_X12_layRings) dX12_layRings_151 rfl ?_
            refine z_iadd (M := M_X12_layRings) dX12_layRings_153 ?_
            refine z_istore (M := M_X12_layRings) (lv' := [some (vr 277), some (vi slot_0), some (vi shape_0), some (vi p_19), some (vi ((2048 * slot_0) + x_1)), some (vi (point_20 + x_31)), some (zv x_42), some (vi x_15), some (vi x_17), some (vi r_22), some (vi x_31), some (vi k_57)]) dX12_layRings_154 (Nat.le_of_ble_eq_true rfl) rfl rfl ?_
            refine z_iinc (M := M_X12_layRings) (lv' := [some (vr 277), some (vi slot_0), some (vi shape_0), some (vi (p_19 + 1)), some (vi ((2048 * slot_0) + x_1)), some (vi (point_20 + x_31)), some (zv x_42), some (vi x_15), some (vi x_17), some (vi r_22), some (vi x_31), some (vi k_57)]) dX12_layRings_156 rfl (Nat.le_of_ble_eq_true rfl) rfl rfl ?_
            refine z_iinc (M := M_X12_layRings) (lv' := [some (vr 277), some (vi slot_0), some (vi shape_0), some (vi (p_19 + 1)), some (vi ((2048 * slot_0) + x_1)), some (vi (point_20 + x_31)), some (zv x_42), some (vi x_15), some (vi x_17), some (vi (r_22 + 1)), some (vi x_31), some (vi k_57)]) dX12_layRings_159 rfl (Nat.le_of_ble_eq_true rfl) rfl rfl ?_
            refine z_goto (M := M_X12_layRings) (tgt := 56) dX12_layRings_162 (by decide) ?_
            refine z_le (lv' := [some (vr 277), some (vi slot_0), some (vi shape_0), some (vi (p_19 + 1)), some (vi ((2048 * slot_0) + x_1)), some (vi (point_20 + x_31)), some (zv x_42), some (vi x_15), some (vi x_17), some (vi (r_22 + 1)), none, none]) ⟨Or.inr rfl, Or.inr rfl, Or.inr rfl, Or.inr rfl, Or.inr rfl, Or.inr rfl, Or.inr rfl, Or.inr rfl, Or.inr rfl, Or.inr rfl, Or.inl rfl, Or.inl rfl, trivial⟩ ?_
            exact K_29 _ (Option.some.inj H).symm
          refine whl_go hw_45 (fun (k_43, σ_44) => YY l E M_X12_layRings 2 0 0 (pS (some (zv r)) σ') 113 [some (vr 277), some (vi slot_0), some (vi shape_0), some (vi p_19), some (vi ((2048 * slot_0) + x_1)), some (vi point_20), some (zv x_42), some (vi x_15), some (vi x_17), some (vi r_22), some (vi x_31), some (vi k_43)] [] σ_44 0 0) ?_
          rintro ⟨k_43, σ_44⟩ o_49 H K_50 K_51
          refine z_iload (M := M_X12_layRings) dX12_layRings_113 rfl ?_
          refine z_iconst (M := M_X12_layRings) dX12_layRings_115 ?_
          refine z_iadd (M := M_X12_layRings) dX12_layRings_116 ?_
          refine z_iload (M := M_X12_layRings) dX12_layRings_117 rfl ?_
          rcases if_e H with ⟨h_52, H⟩ | ⟨h_52, H⟩
          · refine z_icmp_ge_f (M := M_X12_layRings) (tgt := 149) dX12_layRings_119 (by decide) rfl rfl h_52 ?_
            refine z_aload_n (M := M_X12_layRings) dX12_layRings_122 rfl ?_
            refine z_iload (M := M_X12_layRings) dX12_layRings_123 rfl ?_
            refine z_iload (M := M_X12_layRings) dX12_layRings_125 rfl ?_
            refine z_iadd (M := M_X12_layRings) dX12_layRings_127 ?_
            refine z_iload (M := M_X12_layRings) dX12_layRings_128 rfl ?_
            refine z_iload (M := M_X12_layRings) dX12_layRings_130 rfl ?_
            refine z_iadd (M := M_X12_layRings) dX12_layRings_132 ?_
            refine z_iconst (M := M_X12_layRings) dX12_layRings_133 ?_
            refine z_iadd (M := M_X12_layRings) dX12_layRings_134 ?_
            refine z_iload (M := M_X12_layRings) dX12_layRings_135 rfl ?_
            refine z_iload (M := M_X12_layRings) dX12_layRings_137 rfl ?_
            refine z_iload_n (M := M_X12_layRings) dX12_layRings_139 rfl ?_
            obtain ⟨σ_54, hc_53, H⟩ := bd_e H
            refine z_callV (M := M_X12_layRings) (M' := M_X12_segment) (as := [vi (point_20 + k_43), vi ((point_20 + k_43) + 1), vi r_22, vi k_43, vi shape_0]) (rest := []) rfl rfl dX12_layRings_140 m_X12_segment t_3238 t_3240 s_228 (c_X12_segment hl  hc_53) rfl rfl ly_277 rfl (Nat.le_of_ble_eq_true rfl) (Nat.le_of_ble_eq_true rfl) (Nat.le_of_ble_eq_true rfl) (Nat.le_of_ble_eq_true rfl) ?_
            refine z_st (st' := []) rfl ?_
            refine z_iinc (M := M_X12_layRings) (lv' := [some (vr 277), some (vi slot_0), some (vi shape_0), some (vi p_19), some (vi ((2048 * slot_0) + x_1)), some (vi point_20), some (zv x_42), some (vi x_15), some (vi x_17), some (vi r_22), some (vi x_31), some (vi (k_43 + 1))]) dX12_layRings_143 rfl (Nat.le_of_ble_eq_true rfl) rfl rfl ?_
            refine z_goto (M := M_X12_layRings) (tgt := 113) dX12_layRings_146 (by decide) ?_
            exact K_50 _ (Option.some.inj H).symm
          · refine z_icmp_ge_t (M := M_X12_layRings) (tgt := 149) dX12_layRings_119 (by decide) rfl rfl (Int.not_lt.mp h_52) ?_
            exact J_60 _ _ (K_51 _ (Option.some.inj H).symm).symm
        have H := he_62
        refine z_zload (M := M_X12_layRings) dX12_layRings_77 rfl ?_
        rcases if_e H with ⟨h_33, H⟩ | ⟨h_33, H⟩
        · refine z_zeq_f (M := M_X12_layRings) (tgt := 107) dX12_layRings_79 (by decide) h_33 ?_
          refine z_iload (M := M_X12_layRings) dX12_layRings_82 rfl ?_
          rcases if_e H with ⟨h_34, H⟩ | ⟨h_34, H⟩
          · refine z_if_le_f (M := M_X12_layRings) (tgt := 107) dX12_layRings_84 (by decide) rfl h_34 ?_
            refine z_aload_n (M := M_X12_layRings) dX12_layRings_87 rfl ?_
            refine z_iload (M := M_X12_layRings) dX12_layRings_88 rfl ?_
            refine z_iload (M := M_X12_layRings) dX12_layRings_90 rfl ?_
            refine z_iload (M := M_X12_layRings) dX12_layRings_92 rfl ?_
            refine z_iadd (M := M_X12_layRings) dX12_layRings_94 ?_
            refine z_iconst (M := M_X12_layRings) dX12_layRings_95 ?_
            refine z_isub (M := M_X12_layRings) dX12_layRings_96 ?_
            obtain ⟨x_36, hc_35, H⟩ := bd_e H
            refine z_callV (M := M_X12_layRings) (M' := M_X12_isSame) (as := [vi point_20, vi ((point_20 + x_31) - 1)]) (rest := []) rfl rfl dX12_layRings_97 m_X12_isSame t_3230 t_3232 s_226 (c_X12_isSame hl  hc_35) rfl rfl ly_277 rfl (Nat.le_of_ble_eq_true rfl) (Nat.le_of_ble_eq_true rfl) (Nat.le_of_ble_eq_true rfl) (Nat.le_of_ble_eq_true rfl) ?_
            refine z_st (st' := [zv x_36]) rfl ?_
            rcases if_e H with ⟨h_37, H⟩ | ⟨h_37, H⟩
            · refine z_zeq_f (M := M_X12_layRings) (tgt := 107) dX12_layRings_100 (by decide) h_37 ?_
              refine z_zconst (M := M_X12_layRings) (b := true) dX12_layRings_103 rfl ?_
              refine z_goto (M := M_X12_layRings) (tgt := 108) dX12_layRings_104 (by decide) ?_
              exact J_64 _ (Option.some.inj H).symm
            · refine z_zeq_t (M := M_X12_layRings) (tgt := 107) dX12_layRings_100 (by decide) h_37 ?_
              refine z_zconst (M := M_X12_layRings) (b := false) dX12_layRings_107 rfl ?_
              exact J_64 _ (Option.some.inj H).symm
          · refine z_if_le_t (M := M_X12_layRings) (tgt := 107) dX12_layRings_84 (by decide) rfl (Int.not_lt.mp h_34) ?_
            refine z_zconst (M := M_X12_layRings) (b := false) dX12_layRings_107 rfl ?_
            exact J_64 _ (Option.some.inj H).symm
        · refine z_zeq_t (M := M_X12_layRings) (tgt := 107) dX12_layRings_79 (by decide) h_33 ?_
          refine z_zconst (M := M_X12_layRings) (b := false) dX12_layRings_107 rfl ?_
          exact J_64 _ (Option.some.inj H).symm
      refine z_iload (M := M_X12_layRings) dX12_layRings_56 rfl ?_
      refine z_iconst (M := M_X12_layRings) dX12_layRings_58 ?_
      by_cases h_69 : (w32 x_15) = 3
      · refine z_icmp_ne_f (M := M_X12_layRings) (tgt := 165) dX12_layRings_59 (by decide) rfl (by decide +kernel) h_69 ?_
        refine z_iload (M := M_X12_layRings) dX12_layRings_62 rfl ?_
        refine z_iload (M := M_X12_layRings) dX12_layRings_64 rfl ?_
        by_cases h_70 : (w32 r_22) < (w32 x_17)
        · refine z_icmp_ge_f (M := M_X12_layRings) (tgt := 165) dX12_layRings_66 (by decide) rfl rfl h_70 ?_
          exact J_67
        · refine z_icmp_ge_t (M := M_X12_layRings) (tgt := 165) dX12_layRings_66 (by decide) rfl rfl (Int.not_lt.mp h_70) ?_
          exact absurd h_66 (fun q => h_70 q.2)
      · refine z_icmp_ne_t (M := M_X12_layRings) (tgt := 165) dX12_layRings_59 (by decide) rfl (by decide +kernel) h_69 ?_
        exact absurd h_66 (fun q => h_69 q.1)
    · have J_68 : YY l E M_X12_layRings 2 0 0 (pS (some (zv r)) σ') 165 [some (vr 277), some (vi slot_0), some (vi shape_0), some (vi p_19), some (vi ((2048 * slot_0) + x_1)), some (vi point_20), some (zv closed_21), some (vi x_15), some (vi x_17), some (vi r_22), none, none] [] σ_23 0 0 := by
        exact J_79 _ _ _ _ _ (K_30 _ (Option.some.inj H).symm).symm
      refine z_iload (M := M_X12_layRings) dX12_layRings_56 rfl ?_
      refine z_iconst (M := M_X12_layRings) dX12_layRings_58 ?_
      by_cases h_71 : (w32 x_15) = 3
      · refine z_icmp_ne_f (M := M_X12_layRings) (tgt := 165) dX12_layRings_59 (by decide) rfl (by decide +kernel) h_71 ?_
        refine z_iload (M := M_X12_layRings) dX12_layRings_62 rfl ?_
        refine z_iload (M := M_X12_layRings) dX12_layRings_64 rfl ?_
        by_cases h_72 : (w32 r_22) < (w32 x_17)
        · refine z_icmp_ge_f (M := M_X12_layRings) (tgt := 165) dX12_layRings_66 (by decide) rfl rfl h_72 ?_
          exact absurd ⟨h_71, h_72⟩ h_66
        · refine z_icmp_ge_t (M := M_X12_layRings) (tgt := 165) dX12_layRings_66 (by decide) rfl rfl (Int.not_lt.mp h_72) ?_
          exact J_68
      · refine z_icmp_ne_t (M := M_X12_layRings) (tgt := 165) dX12_layRings_59 (by decide) rfl (by decide +kernel) h_71 ?_
        exact J_68
  · refine z_icmp_ge_t (M := M_X12_layRings) (tgt := 168) dX12_layRings_29 (by decide) rfl rfl (Int.not_lt.mp h_14) ?_
    exact J_85 _ _ _ _ (K_13 _ (Option.some.inj H).symm).symm
theorem c_X12_hotAt (hl : l.stackTraces = false) {σ : SG} {x_0 : Int} {y_0 : Int} {r : Int}  (H : fR_hotAt σ x_0 y_0 = some r) : en_S l E M_X12_hotAt 2 0 0 [vr 277, vl x_0, vl y_0] σ (pS (some (vi r)) σ) := by
  unfold fR_hotAt at H
  refine z_mk (lv := [some (vr 277), some (vl x_0), none, some (vl y_0), none, none, none, none]) m_X12_hotAt rfl hl (Nat.le_of_ble_eq_true rfl) rfl ?_
  refine z_iconst (M := M_X12_hotAt) dX12_hotAt_0 ?_
  refine z_istore (M := M_X12_hotAt) (lv' := [some (vr 277), some (vl x_0), none, some (vl y_0), none, some (vi 0), none, none]) dX12_hotAt_1 (Nat.le_of_ble_eq_true rfl) rfl rfl ?_
  refine z_aload_n (M := M_X12_hotAt) dX12_hotAt_3 rfl ?_
  refine z_getI (M := M_X12_hotAt) (ci := 15) (C := RX12) (T := TX12) (Nf := 135) (ty := tyX12) cl15 dX12_hotAt_4 ly_277 69 (by decide) t_2460 rfl rfl ?_
  refine z_istore (M := M_X12_hotAt) (lv' := [some (vr 277), some (vl x_0), none, some (vl y_0), none, some (vi 0), some (vi (σ kR_hots 0)), none]) dX12_hotAt_7 (Nat.le_of_ble_eq_true rfl) rfl rfl ?_
  obtain ⟨rl_6, hw_3, hk_4⟩ := bd_e H
  have J_29 : ∀ low_27 high_28, rl_6 = (low_27, high_28) → YY l E M_X12_hotAt 2 0 0 (pS (some (vi r)) σ) 63 [some (vr 277), some (vl x_0), none, some (vl y_0), none, some (vi low_27), some (vi high_28), none] [] σ 0 0 := by
    intro low_27 high_28 e
    have H := hk_4
    rw [e] at H
    refine z_iload (M := M_X12_hotAt) dX12_hotAt_63 rfl ?_
    cases H
    exact z_iret (M := M_X12_hotAt) dX12_hotAt_65 rfl (Nat.le_of_ble_eq_true rfl) (Nat.le_of_ble_eq_true rfl) ⟨rfl, rfl⟩
  refine whl_go hw_3 (fun (low_1, high_2) => YY l E M_X12_hotAt 2 0 0 (pS (some (vi r)) σ) 9 [some (vr 277), some (vl x_0), none, some (vl y_0), none, some (vi low_1), some (vi high_2), none] [] σ 0 0) ?_
  rintro ⟨low_1, high_2⟩ o_7 H K_8 K_9
  refine z_iload (M := M_X12_hotAt) dX12_hotAt_9 rfl ?_
  refine z_iload (M := M_X12_hotAt) dX12_hotAt_11 rfl ?_
  rcases if_e H with ⟨h_10, H⟩ | ⟨h_10, H⟩
  · refine z_icmp_ge_f (M := M_X12_hotAt) (tgt := 63) dX12_hotAt_13 (by decide) rfl rfl h_10 ?_
    refine z_iload (M := M_X12_hotAt) dX12_hotAt_16 rfl ?_
    refine z_iload (M := M_X12_hotAt) dX12_hotAt_18 rfl ?_
    refine z_iadd (M := M_X12_hotAt) dX12_hotAt_20 ?_
    refine z_iconst (M := M_X12_hotAt) dX12_hotAt_21 ?_
    refine z_idiv (M := M_X12_hotAt) dX12_hotAt_22 (by decide +kernel) ?_
    refine z_istore (M := M_X12_hotAt) (lv' := [some (vr 277), some (vl x_0), none, some (vl y_0), none, some (vi low_1), some (vi high_2), some (vi (q_idv (low_1 + high_2) 2))]) dX12_hotAt_23 (Nat.le_of_ble_eq_true rfl) rfl rfl ?_
    obtain ⟨v_14, he_11, hk_12⟩ := bd_e H
    have J_25 : ∀ low_22 high_23, v_14 = (low_22, high_23) → YY l E M_X12_hotAt 2 0 0 (pS (some (vi r)) σ) 60 [some (vr 277), some (vl x_0), none, some (vl y_0), none, some (vi low_22), some (vi high_23), some (vi (q_idv (low_1 + high_2) 2))] [] σ 0 0 := by
      intro low_22 high_23 e
      have H := hk_12
      rw [e] at H
      refine z_goto (M := M_X12_hotAt) (tgt := 9) dX12_hotAt_60 (by decide) ?_
      refine z_le (lv' := [some (vr 277), some (vl x_0), none, some (vl y_0), none, some (vi low_22), some (vi high_23), none]) ⟨Or.inr rfl, Or.inr rfl, Or.inl rfl, Or.inr rfl, Or.inl rfl, Or.inr rfl, Or.inr rfl, Or.inl rfl, trivial⟩ ?_
      exact K_8 _ (Option.some.inj H).symm
    have H := he_11
    refine z_aload_n (M := M_X12_hotAt) dX12_hotAt_25 rfl ?_
    refine z_getR (M := M_X12_hotAt) (ci := 15) (C := RX12) (T := TX12) (Nf := 135) (ty := tyX12) cl15 dX12_hotAt_26 ly_277 67 (by decide) t_2458 rfl ?_
    refine z_iload (M := M_X12_hotAt) dX12_hotAt_29 rfl ?_
    obtain ⟨x_15, x_15_e, hi_16, H⟩ := rd_e H
    refine z_lald (M := M_X12_hotAt) dX12_hotAt_31 ly_317 rfl rfl rfl hi_16 x_15_e ?_
    refine z_aload_n (M := M_X12_hotAt) dX12_hotAt_32 rfl ?_
    refine z_getR (M := M_X12_hotAt) (ci := 15) (C := RX12) (T := TX12) (Nf := 135) (ty := tyX12) cl15 dX12_hotAt_33 ly_277 68 (by decide) t_2459 rfl ?_
    refine z_iload (M := M_X12_hotAt) dX12_hotAt_36 rfl ?_
    obtain ⟨x_17, x_17_e, hi_18, H⟩ := rd_e H
    refine z_lald (M := M_X12_hotAt) dX12_hotAt_38 ly_318 rfl rfl rfl hi_18 x_17_e ?_
    refine z_lload_n (M := M_X12_hotAt) dX12_hotAt_39 rfl ?_
    refine z_lload_n (M := M_X12_hotAt) dX12_hotAt_40 rfl ?_
    refine z_callS (M := M_X12_hotAt) (M' := M_X12_isBefore) (as := [vl x_15, vl x_17, vl x_0, vl y_0]) (rest := []) rfl rfl dX12_hotAt_41 m_X12_isBefore t_3275 t_3276 (c_X12_isBefore hl  rfl) rfl rfl (Nat.le_of_ble_eq_true rfl) (Nat.le_of_ble_eq_true rfl) (Nat.le_of_ble_eq_true rfl) (Nat.le_of_ble_eq_true rfl) ?_
    refine z_st (st' := [zv (fR_isBefore x_15 x_17 x_0 y_0)]) rfl ?_
    rcases if_e H with ⟨h_19, H⟩ | ⟨h_19, H⟩
    · refine z_zeq_f (M := M_X12_hotAt) (tgt := 56) dX12_hotAt_44 (by decide) h_19 ?_
      refine z_iload (M := M_X12_hotAt) dX12_hotAt_47 rfl ?_
      refine z_iconst (M := M_X12_hotAt) dX12_hotAt_49 ?_
      refine z_iadd (M := M_X12_hotAt) dX12_hotAt_50 ?_
      refine z_istore (M := M_X12_hotAt) (lv' := [some (vr 277), some (vl x_0), none, some (vl y_0), none, some (vi ((q_idv (low_1 + high_2) 2) + 1)), some (vi high_2), some (vi (q_idv (low_1 + high_2) 2))]) dX12_hotAt_51 (Nat.le_of_ble_eq_true rfl) rfl rfl ?_
      refine z_goto (M := M_X12_hotAt) (tgt := 60) dX12_hotAt_53 (by decide) ?_
      exact J_25 _ _ (Option.some.inj H).symm
    · refine z_zeq_t (M := M_X12_hotAt) (tgt := 56) dX12_hotAt_44 (by decide) h_19 ?_
      refine z_iload (M := M_X12_hotAt) dX12_hotAt_56 rfl ?_
      refine z_istore (M := M_X12_hotAt) (lv' := [some (vr 277), some (vl x_0), none, some (vl y_0), none, some (vi low_1), some (vi (q_idv (low_1 + high_2) 2)), some (vi (q_idv (low_1 + high_2) 2))]) dX12_hotAt_58 (Nat.le_of_ble_eq_true rfl) rfl rfl ?_
      exact J_25 _ _ (Option.some.inj H).symm
  · refine z_icmp_ge_t (M := M_X12_hotAt) (tgt := 63) dX12_hotAt_13 (by decide) rfl rfl (Int.not_lt.mp h_10) ?_
    exact J_29 _ _ (K_9 _ (Option.some.inj H).symm).symm
theorem c_X12_addHot (hl : l.stackTraces = false) {σ : SG} {x_0 : Int} {y_0 : Int} {r : Bool} {σ' : SG}  (H : fR_addHot σ x_0 y_0 = some (r, σ')) : en_S l E M_X12_addHot 3 0 0 [vr 277, vl x_0, vl y_0] σ (pS (some (zv r)) σ') := by
  unfold fR_addHot at H
  refine z_mk (lv := [some (vr 277), some (vl x_0), none, some (vl y_0), none, none, none]) m_X12_addHot rfl hl (Nat.le_of_ble_eq_true rfl) rfl ?_
  refine z_aload_n (M := M_X12_addHot) dX12_addHot_0 rfl ?_
  refine z_lload_n (M := M_X12_addHot) dX12_addHot_1 rfl ?_
  refine z_lload_n (M := M_X12_addHot) dX12_addHot_2 rfl ?_
  obtain ⟨x_2, hc_1, H⟩ := bd_e H
  refine z_callV (M := M_X12_addHot) (M' := M_X12_hotAt) (as := [vl x_0, vl y_0]) (rest := []) rfl rfl dX12_addHot_3 m_X12_hotAt t_3381 t_3383 s_256 (c_X12_hotAt hl  hc_1) rfl rfl ly_277 rfl (Nat.le_of_ble_eq_true rfl) (Nat.le_of_ble_eq_true rfl) (Nat.le_of_ble_eq_true rfl) (Nat.le_of_ble_eq_true rfl) ?_
  refine z_st (st' := [vi x_2]) rfl ?_
  refine z_istore (M := M_X12_addHot) (lv' := [some (vr 277), some (vl x_0), none, some (vl y_0), none, some (vi x_2), none]) dX12_addHot_6 (Nat.le_of_ble_eq_true rfl) rfl rfl ?_
  obtain ⟨v_84, he_85, hk_86⟩ := bd_e H
  have J_87 : v_84 = true → YY l E M_X12_addHot 3 0 0 (pS (some (zv r)) σ') 41 [some (vr 277), some (vl x_0), none, some (vl y_0), none, some (vi x_2), none] [] σ 0 0 := by
    intro e
    have H := hk_86
    rw [e] at H
    rcases if_e H with ⟨_, H⟩ | ⟨q, H⟩
    · refine z_zconst (M := M_X12_addHot) (b := true) dX12_addHot_41 rfl ?_
      cases H
      exact z_zret (M := M_X12_addHot) dX12_addHot_42 rfl (Nat.le_of_ble_eq_true rfl) (Nat.le_of_ble_eq_true rfl) ⟨rfl, rfl⟩
    · exact absurd rfl q
  have J_88 : v_84 = false → YY l E M_X12_addHot 3 0 0 (pS (some (zv r)) σ') 43 [some (vr 277), some (vl x_0), none, some (vl y_0), none, some (vi x_2), none] [] σ 0 0 := by
    intro e
    have H := hk_86
    rw [e] at H
    rcases if_e H with ⟨q, H⟩ | ⟨_, H⟩
    · exact nomatch q
    · refine z_aload_n (M := M_X12_addHot) dX12_addHot_43 rfl ?_
      refine z_getI (M := M_X12_addHot) (ci := 15) (C := RX12) (T := TX12) (Nf := 135) (ty := tyX12) cl15 dX12_addHot_44 ly_277 69 (by decide) t_2460 rfl rfl ?_
      refine z_sipush (M := M_X12_addHot) dX12_addHot_47 (by decide +kernel) ?_
      rcases if_e H with ⟨h_55, H⟩ | ⟨h_55, H⟩
      · refine z_icmp_ne_f (M := M_X12_addHot) (tgt := 55) dX12_addHot_50 (by decide) rfl (by decide +kernel) h_55 ?_
        refine z_zconst (M := M_X12_addHot) (b := false) dX12_addHot_53 rfl ?_
        cases H
        exact z_zret (M := M_X12_addHot) dX12_addHot_54 rfl (Nat.le_of_ble_eq_true rfl) (Nat.le_of_ble_eq_true rfl) ⟨rfl, rfl⟩
      · refine z_icmp_ne_t (M := M_X12_addHot) (tgt := 55) dX12_addHot_50 (by decide) rfl (by decide +kernel) h_55 ?_
        refine z_aload_n (M := M_X12_addHot) dX12_addHot_55 rfl ?_
        refine z_getI (M := M_X12_addHot) (ci := 15) (C := RX12) (T := TX12) (Nf := 135) (ty := tyX12) cl15 dX12_addHot_56 ly_277 69 (by decide) t_2460 rfl rfl ?_
        refine z_istore (M := M_X12_addHot) (lv' := [some (vr 277), some (vl x_0), none, some (vl y_0), none, some (vi x_2), some (vi (σ kR_hots 0))]) dX12_addHot_59 (Nat.le_of_ble_eq_true rfl) rfl rfl ?_
        obtain ⟨rl_61, hw_58, hk_59⟩ := bd_e H
        have J_83 : ∀ i_76 σ_77, rl_61 = (i_76, σ_77) → YY l E M_X12_addHot 3 0 0 (pS (some (zv r)) σ') 106 [some (vr 277), some (vl x_0), none, some (vl y_0), none, some (vi x_2), some (vi i_76)] [] σ_77 0 0 := by
          intro i_76 σ_77 e
          have H := hk_59
          rw [e] at H
          refine z_aload_n (M := M_X12_addHot) dX12_addHot_106 rfl ?_
          refine z_getR (M := M_X12_addHot) (ci := 15) (C := RX12) (T := TX12) (Nf := 135) (ty := tyX12) cl15 dX12_addHot_107 ly_277 67 (by decide) t_2458 rfl ?_
          refine z_iload (M := M_X12_addHot) dX12_addHot_110 rfl ?_
          refine z_lload_n (M := M_X12_addHot) dX12_addHot_112 rfl ?_
          obtain ⟨σ_78, σ_78_e, hi_79, H⟩ := wa_e H
          refine z_last (M := M_X12_addHot) dX12_addHot_113 ly_317 rfl rfl rfl hi_79 σ_78_e ?_
          refine z_aload_n (M := M_X12_addHot) dX12_addHot_114 rfl ?_
          refine z_getR (M := M_X12_addHot) (ci := 15) (C := RX12) (T := TX12) (Nf := 135) (ty := tyX12) cl15 dX12_addHot_115 ly_277 68 (by decide) t_2459 rfl ?_
          refine z_iload (M := M_X12_addHot) dX12_addHot_118 rfl ?_
          refine z_lload_n (M := M_X12_addHot) dX12_addHot_120 rfl ?_
          obtain ⟨σ_80, σ_80_e, hi_81, H⟩ := wa_e H
          refine z_last (M := M_X12_addHot) dX12_addHot_121 ly_318 rfl rfl rfl hi_81 σ_80_e ?_
          refine z_aload_n (M := M_X12_addHot) dX12_addHot_122 rfl ?_
          refine z_dup (M := M_X12_addHot) dX12_addHot_123 rfl ?_
          refine z_getI (M := M_X12_addHot) (ci := 15) (C := RX12) (T := TX12) (Nf := 135) (ty := tyX12) cl15 dX12_addHot_124 ly_277 69 (by decide) t_2460 rfl rfl ?_
          refine z_iconst (M := M_X12_addHot) dX12_addHot_127 ?_
          refine z_iadd (M := M_X12_addHot) dX12_addHot_128 ?_
          obtain ⟨σ_82, σ_82_e, H⟩ := wf_e H
          refine z_putI (M := M_X12_addHot) (ci := 15) (C := RX12) (T := TX12) (Nf := 135) (ty := tyX12) cl15 dX12_addHot_129 ly_277 69 (by decide) t_2460 rfl rfl rfl rfl σ_82_e ?_
          refine z_zconst (M := M_X12_addHot) (b := true) dX12_addHot_132 rfl ?_
          cases H
          exact z_zret (M := M_X12_addHot) dX12_addHot_133 rfl (Nat.le_of_ble_eq_true rfl) (Nat.le_of_ble_eq_true rfl) ⟨rfl, rfl⟩
        refine whl_go hw_58 (fun (i_56, σ_57) => YY l E M_X12_addHot 3 0 0 (pS (some (zv r)) σ') 61 [some (vr 277), some (vl x_0), none, some (vl y_0), none, some (vi x_2), some (vi i_56)] [] σ_57 0 0) ?_
        rintro ⟨i_56, σ_57⟩ o_62 H K_63 K_64
        refine z_iload (M := M_X12_addHot) dX12_addHot_61 rfl ?_
        refine z_iload (M := M_X12_addHot) dX12_addHot_63 rfl ?_
        rcases if_e H with ⟨h_65, H⟩ | ⟨h_65, H⟩
        · refine z_icmp_le_f (M := M_X12_addHot) (tgt := 106) dX12_addHot_65 (by decide) rfl rfl h_65 ?_
          refine z_aload_n (M := M_X12_addHot) dX12_addHot_68 rfl ?_
          refine z_getR (M := M_X12_addHot) (ci := 15) (C := RX12) (T := TX12) (Nf := 135) (ty := tyX12) cl15 dX12_addHot_69 ly_277 67 (by decide) t_2458 rfl ?_
          refine z_iload (M := M_X12_addHot) dX12_addHot_72 rfl ?_
          refine z_aload_n (M := M_X12_addHot) dX12_addHot_74 rfl ?_
          refine z_getR (M := M_X12_addHot) (ci := 15) (C := RX12) (T := TX12) (Nf := 135) (ty := tyX12) cl15 dX12_addHot_75 ly_277 67 (by decide) t_2458 rfl ?_
          refine z_iload (M := M_X12_addHot) dX12_addHot_78 rfl ?_
          refine z_iconst (M := M_X12_addHot) dX12_addHot_80 ?_
          refine z_isub (M := M_X12_addHot) dX12_addHot_81 ?_
          obtain ⟨x_66, x_66_e, hi_67, H⟩ := rd_e H
          refine z_lald (M := M_X12_addHot) dX12_addHot_82 ly_317 rfl rfl rfl hi_67 x_66_e ?_
          obtain ⟨σ_68, σ_68_e, hi_69, H⟩ := wa_e H
          refine z_last (M := M_X12_addHot) dX12_addHot_83 ly_317 rfl rfl rfl hi_69 σ_68_e ?_
          refine z_aload_n (M := M_X12_addHot) dX12_addHot_84 rfl ?_
          refine z_getR (M := M_X12_addHot) (ci := 15) (C := RX12) (T := TX12) (Nf := 135) (ty := tyX12) cl15 dX12_addHot_85 ly_277 68 (by decide) t_2459 rfl ?_
          refine z_iload (M := M_X12_addHot) dX12_addHot_88 rfl ?_
          refine z_aload_n (M := M_X12_addHot) dX12_addHot_90 rfl ?_
          refine z_getR (M := M_X12_addHot) (ci := 15) (C := RX12) (T := TX12) (Nf := 135) (ty := tyX12) cl15 dX12_addHot_91 ly_277 68 (by decide) t_2459 rfl ?_
          refine z_iload (M := M_X12_addHot) dX12_addHot_94 rfl ?_
          refine z_iconst (M := M_X12_addHot) dX12_addHot_96 ?_
          refine z_isub (M := M_X12_addHot) dX12_addHot_97 ?_
          obtain ⟨x_70, x_70_e, hi_71, H⟩ := rd_e H
          refine z_lald (M := M_X12_addHot) dX12_addHot_98 ly_318 rfl rfl rfl hi_71 x_70_e ?_
          obtain ⟨σ_72, σ_72_e, hi_73, H⟩ := wa_e H
          refine z_last (M := M_X12_addHot) dX12_addHot_99 ly_318 rfl rfl rfl hi_73 σ_72_e ?_
          refine z_iinc (M := M_X12_addHot) (lv' := [some (vr 277), some (vl x_0), none, some (vl y_0), none, some (vi x_2), some (vi (i_56 + (-1)))]) dX12_addHot_100 rfl (Nat.le_of_ble_eq_true rfl) rfl rfl ?_
          refine z_goto (M := M_X12_addHot) (tgt := 61) dX12_addHot_103 (by decide) ?_
          exact K_63 _ (Option.some.inj H).symm
        · refine z_icmp_le_t (M := M_X12_addHot) (tgt := 106) dX12_addHot_65 (by decide) rfl rfl (Int.not_lt.mp h_65) ?_
          exact J_83 _ _ (K_64 _ (Option.some.inj H).symm).symm
  have H := he_85
  refine z_iload (M := M_X12_addHot) dX12_addHot_8 rfl ?_
  refine z_aload_n (M := M_X12_addHot) dX12_addHot_10 rfl ?_
  refine z_getI (M := M_X12_addHot) (ci := 15) (C := RX12) (T := TX12) (Nf := 135) (ty := tyX12) cl15 dX12_addHot_11 ly_277 69 (by decide) t_2460 rfl rfl ?_
  rcases if_e H with ⟨h_43, H⟩ | ⟨h_43, H⟩
  · refine z_icmp_ge_f (M := M_X12_addHot) (tgt := 43) dX12_addHot_14 (by decide) rfl rfl h_43 ?_
    refine z_aload_n (M := M_X12_addHot) dX12_addHot_17 rfl ?_
    refine z_getR (M := M_X12_addHot) (ci := 15) (C := RX12) (T := TX12) (Nf := 135) (ty := tyX12) cl15 dX12_addHot_18 ly_277 67 (by decide) t_2458 rfl ?_
    refine z_iload (M := M_X12_addHot) dX12_addHot_21 rfl ?_
    obtain ⟨x_44, x_44_e, hi_45, H⟩ := rd_e H
    refine z_lald (M := M_X12_addHot) dX12_addHot_23 ly_317 rfl rfl rfl hi_45 x_44_e ?_
    refine z_lload_n (M := M_X12_addHot) dX12_addHot_24 rfl ?_
    refine z_lcmp (M := M_X12_addHot) dX12_addHot_25 ?_
    rcases if_e H with ⟨h_46, H⟩ | ⟨h_46, H⟩
    · refine z_lif_ne_f (M := M_X12_addHot) (tgt := 43) dX12_addHot_26 (by decide) rfl rfl h_46 ?_
      refine z_aload_n (M := M_X12_addHot) dX12_addHot_29 rfl ?_
      refine z_getR (M := M_X12_addHot) (ci := 15) (C := RX12) (T := TX12) (Nf := 135) (ty := tyX12) cl15 dX12_addHot_30 ly_277 68 (by decide) t_2459 rfl ?_
      refine z_iload (M := M_X12_addHot) dX12_addHot_33 rfl ?_
      obtain ⟨x_47, x_47_e, hi_48, H⟩ := rd_e H
      refine z_lald (M := M_X12_addHot) dX12_addHot_35 ly_318 rfl rfl rfl hi_48 x_47_e ?_
      refine z_lload_n (M := M_X12_addHot) dX12_addHot_36 rfl ?_
      refine z_lcmp (M := M_X12_addHot) dX12_addHot_37 ?_
      rcases if_e H with ⟨h_49, H⟩ | ⟨h_49, H⟩
      · refine z_lif_ne_f (M := M_X12_addHot) (tgt := 43) dX12_addHot_38 (by decide) rfl rfl h_49 ?_
        exact J_87 (Option.some.inj H).symm
      · refine z_lif_ne_t (M := M_X12_addHot) (tgt := 43) dX12_addHot_38 (by decide) rfl rfl h_49 ?_
        exact J_88 (Option.some.inj H).symm
    · refine z_lif_ne_t (M := M_X12_addHot) (tgt := 43) dX12_addHot_26 (by decide) rfl rfl h_46 ?_
      exact J_88 (Option.some.inj H).symm
  · refine z_icmp_ge_t (M := M_X12_addHot) (tgt := 43) dX12_addHot_14 (by decide) rfl rfl (Int.not_lt.mp h_43) ?_
    exact J_88 (Option.some.inj H).symm
theorem c_X12_rounded (hl : l.stackTraces = false) {σ : SG} {a_0 : Int} {d_0 : Int} {num_0 : Int} {den_0 : Int} {r : Int}  (H : fR_rounded a_0 d_0 num_0 den_0 = some r) : en_S l E M_X12_rounded 1 0 0 [vl a_0, vl d_0, vl num_0, vl den_0] σ (pS (some (vl r)) σ) := by
  unfold fR_rounded at H
  refine z_mk (lv := [some (vl a_0), none, some (vl d_0), none, some (vl num_0), none, some (vl den_0), none, none, none, none, none, none, none, none]) m_X12_rounded rfl hl (Nat.le_of_ble_eq_true rfl) rfl ?_
  have J_1 : YY l E M_X12_rounded 1 0 0 (pS (some (vl r)) σ) 12 [some (vl a_0), none, some (vl d_0), none, some (vl num_0), none, some (vl den_0), none, none, none, none, none, none, none, none] [vl (if (w64 d_0) < 0 then (-d_0) else d_0)] σ 0 0 := by
    refine z_lstore (M := M_X12_rounded) (lv' := [some (vl a_0), none, some (vl d_0), none, some (vl num_0), none, some (vl den_0), none, some (vl (if (w64 d_0) < 0 then (-d_0) else d_0)), none, none, none, none, none, none]) dX12_rounded_12 (Nat.le_of_ble_eq_true rfl) rfl rfl ?_
    refine z_lconst (M := M_X12_rounded) (m := 0) dX12_rounded_14 (by decide +kernel) ?_
    refine z_lstore (M := M_X12_rounded) (lv' := [some (vl a_0), none, some (vl d_0), none, some (vl num_0), none, some (vl den_0), none, some (vl (if (w64 d_0) < 0 then (-d_0) else d_0)), none, some (vl 0), none, none, none, none]) dX12_rounded_15 (Nat.le_of_ble_eq_true rfl) rfl rfl ?_
    refine z_lconst (M := M_X12_rounded) (m := 0) dX12_rounded_17 (by decide +kernel) ?_
    refine z_lstore (M := M_X12_rounded) (lv' := [some (vl a_0), none, some (vl d_0), none, some (vl num_0), none, some (vl den_0), none, some (vl (if (w64 d_0) < 0 then (-d_0) else d_0)), none, some (vl 0), none, some (vl 0), none, none]) dX12_rounded_18 (Nat.le_of_ble_eq_true rfl) rfl rfl ?_
    refine z_bipush (M := M_X12_rounded) dX12_rounded_20 (by decide +kernel) ?_
    refine z_istore (M := M_X12_rounded) (lv' := [some (vl a_0), none, some (vl d_0), none, some (vl num_0), none, some (vl den_0), none, some (vl (if (w64 d_0) < 0 then (-d_0) else d_0)), none, some (vl 0), none, some (vl 0), none, some (vi 30)]) dX12_rounded_22 (Nat.le_of_ble_eq_true rfl) rfl rfl ?_
    obtain ⟨rl_8, hw_5, hk_6⟩ := bd_e H
    have J_45 : ∀ q_37 r_38 k_39, rl_8 = (q_37, r_38, k_39) → YY l E M_X12_rounded 1 0 0 (pS (some (vl r)) σ) 115 [some (vl a_0), none, some (vl d_0), none, some (vl num_0), none, some (vl den_0), none, some (vl (if (w64 d_0) < 0 then (-d_0) else d_0)), none, some (vl q_37), none, some (vl r_38), none, some (vi k_39)] [] σ 0 0 := by
      intro q_37 r_38 k_39 e
      have H := hk_6
      rw [e] at H
      refine z_lload_n (M := M_X12_rounded) dX12_rounded_115 rfl ?_
      refine z_lconst (M := M_X12_rounded) (m := 0) dX12_rounded_116 (by decide +kernel) ?_
      refine z_lcmp (M := M_X12_rounded) dX12_rounded_117 ?_
      rcases if_e H with ⟨h_40, H⟩ | ⟨h_40, H⟩
      · refine z_lif_lt_f (M := M_X12_rounded) (tgt := 147) dX12_rounded_118 (by decide) rfl (by decide +kernel) h_40 ?_
        have J_41 : YY l E M_X12_rounded 1 0 0 (pS (some (vl r)) σ) 146 [some (vl a_0), none, some (vl d_0), none, some (vl num_0), none, some (vl den_0), none, some (vl (if (w64 d_0) < 0 then (-d_0) else d_0)), none, some (vl q_37), none, some (vl r_38), none, some (vi k_39)] [vl (if (w64 den_0) ≤ (w64 (2 * r_38)) then ((a_0 + q_37) + 1) else (a_0 + q_37))] σ 0 0 := by
          cases H
          exact z_lret (M := M_X12_rounded) dX12_rounded_146 rfl (Nat.le_of_ble_eq_true rfl) (Nat.le_of_ble_eq_true rfl) ⟨rfl, rfl⟩
        refine z_ldc2 (M := M_X12_rounded) (n := 2) dX12_rounded_121 t_3091 (by decide +kernel) ?_
        refine z_lload (M := M_X12_rounded) dX12_rounded_124 rfl ?_
        refine z_lmul (M := M_X12_rounded) dX12_rounded_126 ?_
        refine z_lload (M := M_X12_rounded) dX12_rounded_127 rfl ?_
        refine z_lcmp (M := M_X12_rounded) dX12_rounded_129 ?_
        by_cases h_42 : (w64 den_0) ≤ (w64 (2 * r_38))
        · refine z_lif_lt_f (M := M_X12_rounded) (tgt := 142) dX12_rounded_130 (by decide) rfl rfl h_42 ?_
          refine z_lload_n (M := M_X12_rounded) dX12_rounded_133 rfl ?_
          refine z_lload (M := M_X12_rounded) dX12_rounded_134 rfl ?_
          refine z_ladd (M := M_X12_rounded) dX12_rounded_136 ?_
          refine z_lconst (M := M_X12_rounded) (m := 1) dX12_rounded_137 (by decide +kernel) ?_
          refine z_ladd (M := M_X12_rounded) dX12_rounded_138 ?_
          refine z_goto (M := M_X12_rounded) (tgt := 146) dX12_rounded_139 (by decide) ?_
          exact z_st (by rw [if_pos (c := (w64 den_0) ≤ (w64 (2 * r_38))) h_42]) J_41
        · refine z_lif_lt_t (M := M_X12_rounded) (tgt := 142) dX12_rounded_130 (by decide) rfl rfl (Int.not_le.mp h_42) ?_
          refine z_lload_n (M := M_X12_rounded) dX12_rounded_142 rfl ?_
          refine z_lload (M := M_X12_rounded) dX12_rounded_143 rfl ?_
          refine z_ladd (M := M_X12_rounded) dX12_rounded_145 ?_
          exact z_st (by rw [if_neg (c := (w64 den_0) ≤ (w64 (2 * r_38))) h_42]) J_41
      · refine z_lif_lt_t (M := M_X12_rounded) (tgt := 147) dX12_rounded_118 (by decide) rfl (by decide +kernel) (Int.not_le.mp h_40) ?_
        have J_43 : YY l E M_X12_rounded 1 0 0 (pS (some (vl r)) σ) 172 [some (vl a_0), none, some (vl d_0), none, some (vl num_0), none, some (vl den_0), none, some (vl (if (w64 d_0) < 0 then (-d_0) else d_0)), none, some (vl q_37), none, some (vl r_38), none, some (vi k_39)] [vl (if (w64 (2 * r_38)) ≤ (w64 den_0) then (a_0 - q_37) else ((a_0 - q_37) - 1))] σ 0 0 := by
          cases H
          exact z_lret (M := M_X12_rounded) dX12_rounded_172 rfl (Nat.le_of_ble_eq_true rfl) (Nat.le_of_ble_eq_true rfl) ⟨rfl, rfl⟩
        refine z_ldc2 (M := M_X12_rounded) (n := 2) dX12_rounded_147 t_3091 (by decide +kernel) ?_
        refine z_lload (M := M_X12_rounded) dX12_rounded_150 rfl ?_
        refine z_lmul (M := M_X12_rounded) dX12_rounded_152 ?_
        refine z_lload (M := M_X12_rounded) dX12_rounded_153 rfl ?_
        refine z_lcmp (M := M_X12_rounded) dX12_rounded_155 ?_
        by_cases h_44 : (w64 (2 * r_38)) ≤ (w64 den_0)
        · refine z_lif_gt_f (M := M_X12_rounded) (tgt := 166) dX12_rounded_156 (by decide) rfl rfl h_44 ?_
          refine z_lload_n (M := M_X12_rounded) dX12_rounded_159 rfl ?_
          refine z_lload (M := M_X12_rounded) dX12_rounded_160 rfl ?_
          refine z_lsub (M := M_X12_rounded) dX12_rounded_162 ?_
          refine z_goto (M := M_X12_rounded) (tgt := 172) dX12_rounded_163 (by decide) ?_
          exact z_st (by rw [if_pos (c := (w64 (2 * r_38)) ≤ (w64 den_0)) h_44]) J_43
        · refine z_lif_gt_t (M := M_X12_rounded) (tgt := 166) dX12_rounded_156 (by decide) rfl rfl (Int.not_le.mp h_44) ?_
          refine z_lload_n (M := M_X12_rounded) dX12_rounded_166 rfl ?_
          refine z_lload (M := M_X12_rounded) dX12_rounded_167 rfl ?_
          refine z_lsub (M := M_X12_rounded) dX12_rounded_169 ?_
          refine z_lconst (M := M_X12_rounded) (m := 1) dX12_rounded_170 (by decide +kernel) ?_
          refine z_lsub (M := M_X12_rounded) dX12_rounded_171 ?_
          exact z_st (by rw [if_neg (c := (w64 (2 * r_38)) ≤ (w64 den_0)) h_44]) J_43
    refine whl_go hw_5 (fun (q_2, r_3, k_4) => YY l E M_X12_rounded 1 0 0 (pS (some (vl r)) σ) 24 [some (vl a_0), none, some (vl d_0), none, some (vl num_0), none, some (vl den_0), none, some (vl (if (w64 d_0) < 0 then (-d_0) else d_0)), none, some (vl q_2), none, some (vl r_3), none, some (vi k_4)] [] σ 0 0) ?_
    rintro ⟨q_2, r_3, k_4⟩ o_9 H K_10 K_11
    refine z_iload (M := M_X12_rounded) dX12_rounded_24 rfl ?_
    rcases if_e H with ⟨h_12, H⟩ | ⟨h_12, H⟩
    · refine z_if_lt_f (M := M_X12_rounded) (tgt := 115) dX12_rounded_26 (by decide) rfl h_12 ?_
      refine z_ldc2 (M := M_X12_rounded) (n := 2) dX12_rounded_29 t_3091 (by decide +kernel) ?_
      refine z_lload (M := M_X12_rounded) dX12_rounded_32 rfl ?_
      refine z_lmul (M := M_X12_rounded) dX12_rounded_34 ?_
      refine z_lstore (M := M_X12_rounded) (lv' := [some (vl a_0), none, some (vl d_0), none, some (vl num_0), none, some (vl den_0), none, some (vl (if (w64 d_0) < 0 then (-d_0) else d_0)), none, some (vl (2 * q_2)), none, some (vl r_3), none, some (vi k_4)]) dX12_rounded_35 (Nat.le_of_ble_eq_true rfl) rfl rfl ?_
      refine z_ldc2 (M := M_X12_rounded) (n := 2) dX12_rounded_37 t_3091 (by decide +kernel) ?_
      refine z_lload (M := M_X12_rounded) dX12_rounded_40 rfl ?_
      refine z_lmul (M := M_X12_rounded) dX12_rounded_42 ?_
      refine z_lstore (M := M_X12_rounded) (lv' := [some (vl a_0), none, some (vl d_0), none, some (vl num_0), none, some (vl den_0), none, some (vl (if (w64 d_0) < 0 then (-d_0) else d_0)), none, some (vl (2 * q_2)), none, some (vl (2 * r_3)), none, some (vi k_4)]) dX12_rounded_43 (Nat.le_of_ble_eq_true rfl) rfl rfl ?_
      obtain ⟨v_16, he_13, hk_14⟩ := bd_e H
      have J_35 : ∀ q_20 r_21, v_16 = (q_20, r_21) → YY l E M_X12_rounded 1 0 0 (pS (some (vl r)) σ) 66 [some (vl a_0), none, some (vl d_0), none, some (vl num_0), none, some (vl den_0), none, some (vl (if (w64 d_0) < 0 then (-d_0) else d_0)), none, some (vl q_20), none, some (vl r_21), none, some (vi k_4)] [] σ 0 0 := by
        intro q_20 r_21 e
        have H := hk_14
        rw [e] at H
        refine z_lload (M := M_X12_rounded) dX12_rounded_66 rfl ?_
        refine z_iload (M := M_X12_rounded) dX12_rounded_68 rfl ?_
        refine z_lshr (M := M_X12_rounded) dX12_rounded_70 ?_
        refine z_lconst (M := M_X12_rounded) (m := 1) dX12_rounded_71 (by decide +kernel) ?_
        refine z_land (M := M_X12_rounded) dX12_rounded_72 ?_
        refine z_lconst (M := M_X12_rounded) (m := 0) dX12_rounded_73 (by decide +kernel) ?_
        refine z_lcmp (M := M_X12_rounded) dX12_rounded_74 ?_
        rcases if_e H with ⟨h_22, H⟩ | ⟨h_22, H⟩
        · refine z_lif_ne_f (M := M_X12_rounded) (tgt := 81) dX12_rounded_75 (by decide) rfl (by decide +kernel) h_22 ?_
          refine z_goto (M := M_X12_rounded) (tgt := 109) dX12_rounded_78 (by decide) ?_
          refine z_iinc (M := M_X12_rounded) (lv' := [some (vl a_0), none, some (vl d_0), none, some (vl num_0), none, some (vl den_0), none, some (vl (if (w64 d_0) < 0 then (-d_0) else d_0)), none, some (vl q_20), none, some (vl r_21), none, some (vi (k_4 + (-1)))]) dX12_rounded_109 rfl (Nat.le_of_ble_eq_true rfl) rfl rfl ?_
          refine z_goto (M := M_X12_rounded) (tgt := 24) dX12_rounded_112 (by decide) ?_
          exact K_10 _ (Option.some.inj H).symm
        · refine z_lif_ne_t (M := M_X12_rounded) (tgt := 81) dX12_rounded_75 (by decide) rfl (by decide +kernel) h_22 ?_
          refine z_lload (M := M_X12_rounded) dX12_rounded_81 rfl ?_
          refine z_lload (M := M_X12_rounded) dX12_rounded_83 rfl ?_
          refine z_ladd (M := M_X12_rounded) dX12_rounded_85 ?_
          refine z_lstore (M := M_X12_rounded) (lv' := [some (vl a_0), none, some (vl d_0), none, some (vl num_0), none, some (vl den_0), none, some (vl (if (w64 d_0) < 0 then (-d_0) else d_0)), none, some (vl q_20), none, some (vl (r_21 + num_0)), none, some (vi k_4)]) dX12_rounded_86 (Nat.le_of_ble_eq_true rfl) rfl rfl ?_
          obtain ⟨v_27, he_24, hk_25⟩ := bd_e H
          have J_34 : ∀ q_31 r_32, v_27 = (q_31, r_32) → YY l E M_X12_rounded 1 0 0 (pS (some (vl r)) σ) 109 [some (vl a_0), none, some (vl d_0), none, some (vl num_0), none, some (vl den_0), none, some (vl (if (w64 d_0) < 0 then (-d_0) else d_0)), none, some (vl q_31), none, some (vl r_32), none, some (vi k_4)] [] σ 0 0 := by
            intro q_31 r_32 e
            have H := hk_25
            rw [e] at H
            refine z_iinc (M := M_X12_rounded) (lv' := [some (vl a_0), none, some (vl d_0), none, some (vl num_0), none, some (vl den_0), none, some (vl (if (w64 d_0) < 0 then (-d_0) else d_0)), none, some (vl q_31), none, some (vl r_32), none, some (vi (k_4 + (-1)))]) dX12_rounded_109 rfl (Nat.le_of_ble_eq_true rfl) rfl rfl ?_
            refine z_goto (M := M_X12_rounded) (tgt := 24) dX12_rounded_112 (by decide) ?_
            exact K_10 _ (Option.some.inj H).symm
          have H := he_24
          refine z_lload (M := M_X12_rounded) dX12_rounded_88 rfl ?_
          refine z_lload (M := M_X12_rounded) dX12_rounded_90 rfl ?_
          refine z_lcmp (M := M_X12_rounded) dX12_rounded_92 ?_
          rcases if_e H with ⟨h_28, H⟩ | ⟨h_28, H⟩
          · refine z_lif_lt_f (M := M_X12_rounded) (tgt := 109) dX12_rounded_93 (by decide) rfl rfl h_28 ?_
            refine z_lload (M := M_X12_rounded) dX12_rounded_96 rfl ?_
            refine z_lload (M := M_X12_rounded) dX12_rounded_98 rfl ?_
            refine z_lsub (M := M_X12_rounded) dX12_rounded_100 ?_
            refine z_lstore (M := M_X12_rounded) (lv' := [some (vl a_0), none, some (vl d_0), none, some (vl num_0), none, some (vl den_0), none, some (vl (if (w64 d_0) < 0 then (-d_0) else d_0)), none, some (vl q_20), none, some (vl ((r_21 + num_0) - den_0)), none, some (vi k_4)]) dX12_rounded_101 (Nat.le_of_ble_eq_true rfl) rfl rfl ?_
            refine z_lload (M := M_X12_rounded) dX12_rounded_103 rfl ?_
            refine z_lconst (M := M_X12_rounded) (m := 1) dX12_rounded_105 (by decide +kernel) ?_
            refine z_ladd (M := M_X12_rounded) dX12_rounded_106 ?_
            refine z_lstore (M := M_X12_rounded) (lv' := [some (vl a_0), none, some (vl d_0), none, some (vl num_0), none, some (vl den_0), none, some (vl (if (w64 d_0) < 0 then (-d_0) else d_0)), none, some (vl (q_20 + 1)), none, some (vl ((r_21 + num_0) - den_0)), none, some (vi k_4)]) dX12_rounded_107 (Nat.le_of_ble_eq_true rfl) rfl rfl ?_
            exact J_34 _ _ (Option.some.inj H).symm
          · refine z_lif_lt_t (M := M_X12_rounded) (tgt := 109) dX12_rounded_93 (by decide) rfl rfl (Int.not_le.mp h_28) ?_
            exact J_34 _ _ (Option.some.inj H).symm
      have H := he_13
      refine z_lload (M := M_X12_rounded) dX12_rounded_45 rfl ?_
      refine z_lload (M := M_X12_rounded) dX12_rounded_47 rfl ?_
      refine z_lcmp (M := M_X12_rounded) dX12_rounded_49 ?_
      rcases if_e H with ⟨h_17, H⟩ | ⟨h_17, H⟩
      · refine z_lif_lt_f (M := M_X12_rounded) (tgt := 66) dX12_rounded_50 (by decide) rfl rfl h_17 ?_
        refine z_lload (M := M_X12_rounded) dX12_rounded_53 rfl ?_
        refine z_lload (M := M_X12_rounded) dX12_rounded_55 rfl ?_
        refine z_lsub (M := M_X12_rounded) dX12_rounded_57 ?_
        refine z_lstore (M := M_X12_rounded) (lv' := [some (vl a_0), none, some (vl d_0), none, some (vl num_0), none, some (vl den_0), none, some (vl (if (w64 d_0) < 0 then (-d_0) else d_0)), none, some (vl (2 * q_2)), none, some (vl ((2 * r_3) - den_0)), none, some (vi k_4)]) dX12_rounded_58 (Nat.le_of_ble_eq_true rfl) rfl rfl ?_
        refine z_lload (M := M_X12_rounded) dX12_rounded_60 rfl ?_
        refine z_lconst (M := M_X12_rounded) (m := 1) dX12_rounded_62 (by decide +kernel) ?_
        refine z_ladd (M := M_X12_rounded) dX12_rounded_63 ?_
        refine z_lstore (M := M_X12_rounded) (lv' := [some (vl a_0), none, some (vl d_0), none, some (vl num_0), none, some (vl den_0), none, some (vl (if (w64 d_0) < 0 then (-d_0) else d_0)), none, some (vl ((2 * q_2) + 1)), none, some (vl ((2 * r_3) - den_0)), none, some (vi k_4)]) dX12_rounded_64 (Nat.le_of_ble_eq_true rfl) rfl rfl ?_
        exact J_35 _ _ (Option.some.inj H).symm
      · refine z_lif_lt_t (M := M_X12_rounded) (tgt := 66) dX12_rounded_50 (by decide) rfl rfl (Int.not_le.mp h_17) ?_
        exact J_35 _ _ (Option.some.inj H).symm
    · refine z_if_lt_t (M := M_X12_rounded) (tgt := 115) dX12_rounded_26 (by decide) rfl (Int.not_le.mp h_12) ?_
      exact J_45 _ _ _ (K_11 _ (Option.some.inj H).symm).symm
  refine z_lload_n (M := M_X12_rounded) dX12_rounded_0 rfl ?_
  refine z_lconst (M := M_X12_rounded) (m := 0) dX12_rounded_1 (by decide +kernel) ?_
  refine z_lcmp (M := M_X12_rounded) dX12_rounded_2 ?_
  by_cases h_46 : (w64 d_0) < 0
  · refine z_lif_ge_f (M := M_X12_rounded) (tgt := 11) dX12_rounded_3 (by decide) rfl (by decide +kernel) h_46 ?_
    refine z_lload_n (M := M_X12_rounded) dX12_rounded_6 rfl ?_
    refine z_lneg (M := M_X12_rounded) dX12_rounded_7 ?_
    refine z_goto (M := M_X12_rounded) (tgt := 12) dX12_rounded_8 (by decide) ?_
    exact z_st (by rw [if_pos (c := (w64 d_0) < 0) h_46]) J_1
  · refine z_lif_ge_t (M := M_X12_rounded) (tgt := 11) dX12_rounded_3 (by decide) rfl (by decide +kernel) (Int.not_lt.mp h_46) ?_
    refine z_lload_n (M := M_X12_rounded) dX12_rounded_11 rfl ?_
    exact z_st (by rw [if_neg (c := (w64 d_0) < 0) h_46]) J_1
theorem c_X12_addCrossing (hl : l.stackTraces = false) {σ : SG} {i_0 : Int} {j_0 : Int} {r : Bool} {σ' : SG}  (H : fR_addCrossing σ i_0 j_0 = some (r, σ')) : en_S l E M_X12_addCrossing 4 0 0 [vr 277, vi i_0, vi j_0] σ (pS (some (zv r)) σ') := by
  unfold fR_addCrossing at H
  refine z_mk (lv := [some (vr 277), some (vi i_0), some (vi j_0), none, none, none, none, none, none, none, none, none, none, none, none]) m_X12_addCrossing rfl hl (Nat.le_of_ble_eq_true rfl) rfl ?_
  refine z_aload_n (M := M_X12_addCrossing) dX12_addCrossing_0 rfl ?_
  refine z_getR (M := M_X12_addCrossing) (ci := 15) (C := RX12) (T := TX12) (Nf := 135) (ty := tyX12) cl15 dX12_addCrossing_1 ly_277 43 (by decide) t_2434 rfl ?_
  refine z_iload_n (M := M_X12_addCrossing) dX12_addCrossing_4 rfl ?_
  obtain ⟨x_1, x_1_e, hi_2, H⟩ := rd_e H
  refine z_lald (M := M_X12_addCrossing) dX12_addCrossing_5 ly_301 rfl rfl rfl hi_2 x_1_e ?_
  refine z_aload_n (M := M_X12_addCrossing) dX12_addCrossing_6 rfl ?_
  refine z_getR (M := M_X12_addCrossing) (ci := 15) (C := RX12) (T := TX12) (Nf := 135) (ty := tyX12) cl15 dX12_addCrossing_7 ly_277 41 (by decide) t_2432 rfl ?_
  refine z_iload_n (M := M_X12_addCrossing) dX12_addCrossing_10 rfl ?_
  obtain ⟨x_3, x_3_e, hi_4, H⟩ := rd_e H
  refine z_lald (M := M_X12_addCrossing) dX12_addCrossing_11 ly_299 rfl rfl rfl hi_4 x_3_e ?_
  refine z_lsub (M := M_X12_addCrossing) dX12_addCrossing_12 ?_
  refine z_lstore_n (M := M_X12_addCrossing) (lv' := [some (vr 277), some (vi i_0), some (vi j_0), some (vl (x_1 - x_3)), none, none, none, none, none, none, none, none, none, none, none]) dX12_addCrossing_13 (Nat.le_of_ble_eq_true rfl) rfl rfl ?_
  refine z_aload_n (M := M_X12_addCrossing) dX12_addCrossing_14 rfl ?_
  refine z_getR (M := M_X12_addCrossing) (ci := 15) (C := RX12) (T := TX12) (Nf := 135) (ty := tyX12) cl15 dX12_addCrossing_15 ly_277 44 (by decide) t_2435 rfl ?_
  refine z_iload_n (M := M_X12_addCrossing) dX12_addCrossing_18 rfl ?_
  obtain ⟨x_5, x_5_e, hi_6, H⟩ := rd_e H
  refine z_lald (M := M_X12_addCrossing) dX12_addCrossing_19 ly_302 rfl rfl rfl hi_6 x_5_e ?_
  refine z_aload_n (M := M_X12_addCrossing) dX12_addCrossing_20 rfl ?_
  refine z_getR (M := M_X12_addCrossing) (ci := 15) (C := RX12) (T := TX12) (Nf := 135) (ty := tyX12) cl15 dX12_addCrossing_21 ly_277 42 (by decide) t_2433 rfl ?_
  refine z_iload_n (M := M_X12_addCrossing) dX12_addCrossing_24 rfl ?_
  obtain ⟨x_7, x_7_e, hi_8, H⟩ := rd_e H
  refine z_lald (M := M_X12_addCrossing) dX12_addCrossing_25 ly_300 rfl rfl rfl hi_8 x_7_e ?_
  refine z_lsub (M := M_X12_addCrossing) dX12_addCrossing_26 ?_
  refine z_lstore (M := M_X12_addCrossing) (lv' := [some (vr 277), some (vi i_0), some (vi j_0), some (vl (x_1 - x_3)), none, some (vl (x_5 - x_7)), none, none, none, none, none, none, none, none, none]) dX12_addCrossing_27 (Nat.le_of_ble_eq_true rfl) rfl rfl ?_
  refine z_aload_n (M := M_X12_addCrossing) dX12_addCrossing_29 rfl ?_
  refine z_getR (M := M_X12_addCrossing) (ci := 15) (C := RX12) (T := TX12) (Nf := 135) (ty := tyX12) cl15 dX12_addCrossing_30 ly_277 43 (by decide) t_2434 rfl ?_
  refine z_iload_n (M := M_X12_addCrossing) dX12_addCrossing_33 rfl ?_
  obtain ⟨x_9, x_9_e, hi_10, H⟩ := rd_e H
  refine z_lald (M := M_X12_addCrossing) dX12_addCrossing_34 ly_301 rfl rfl rfl hi_10 x_9_e ?_
  refine z_aload_n (M := M_X12_addCrossing) dX12_addCrossing_35 rfl ?_
  refine z_getR (M := M_X12_addCrossing) (ci := 15) (C := RX12) (T := TX12) (Nf := 135) (ty := tyX12) cl15 dX12_addCrossing_36 ly_277 41 (by decide) t_2432 rfl ?_
  refine z_iload_n (M := M_X12_addCrossing) dX12_addCrossing_39 rfl ?_
  obtain ⟨x_11, x_11_e, hi_12, H⟩ := rd_e H
  refine z_lald (M := M_X12_addCrossing) dX12_addCrossing_40 ly_299 rfl rfl rfl hi_12 x_11_e ?_
  refine z_lsub (M := M_X12_addCrossing) dX12_addCrossing_41 ?_
  refine z_lstore (M := M_X12_addCrossing) (lv' := [some (vr 277), some (vi i_0), some (vi j_0), some (vl (x_1 - x_3)), none, some (vl (x_5 - x_7)), none, some (vl (x_9 - x_11)), none, none, none, none, none, none, none]) dX12_addCrossing_42 (Nat.le_of_ble_eq_true rfl) rfl rfl ?_
  refine z_aload_n (M := M_X12_addCrossing) dX12_addCrossing_44 rfl ?_
  refine z_getR (M := M_X12_addCrossing) (ci := 15) (C := RX12) (T := TX12) (Nf := 135) (ty := tyX12) cl15 dX12_addCrossing_45 ly_277 44 (by decide) t_2435 rfl ?_
  refine z_iload_n (M := M_X12_addCrossing) dX12_addCrossing_48 rfl ?_
  obtain ⟨x_13, x_13_e, hi_14, H⟩ := rd_e H
  refine z_lald (M := M_X12_addCrossing) dX12_addCrossing_49 ly_302 rfl rfl rfl hi_14 x_13_e ?_
  refine z_aload_n (M := M_X12_addCrossing) dX12_addCrossing_50 rfl ?_
  refine z_getR (M := M_X12_addCrossing) (ci := 15) (C := RX12) (T := TX12) (Nf := 135) (ty := tyX12) cl15 dX12_addCrossing_51 ly_277 42 (by decide) t_2433 rfl ?_
  refine z_iload_n (M := M_X12_addCrossing) dX12_addCrossing_54 rfl ?_
  obtain ⟨x_15, x_15_e, hi_16, H⟩ := rd_e H
  refine z_lald (M := M_X12_addCrossing) dX12_addCrossing_55 ly_300 rfl rfl rfl hi_16 x_15_e ?_
  refine z_lsub (M := M_X12_addCrossing) dX12_addCrossing_56 ?_
  refine z_lstore (M := M_X12_addCrossing) (lv' := [some (vr 277), some (vi i_0), some (vi j_0), some (vl (x_1 - x_3)), none, some (vl (x_5 - x_7)), none, some (vl (x_9 - x_11)), none, some (vl (x_13 - x_15)), none, none, none, none, none]) dX12_addCrossing_57 (Nat.le_of_ble_eq_true rfl) rfl rfl ?_
  refine z_lload_n (M := M_X12_addCrossing) dX12_addCrossing_59 rfl ?_
  refine z_lload (M := M_X12_addCrossing) dX12_addCrossing_60 rfl ?_
  refine z_lload (M := M_X12_addCrossing) dX12_addCrossing_62 rfl ?_
  refine z_lload (M := M_X12_addCrossing) dX12_addCrossing_64 rfl ?_
  refine z_callS (M := M_X12_addCrossing) (M' := M_X12_cross) (as := [vl (x_1 - x_3), vl (x_5 - x_7), vl (x_9 - x_11), vl (x_13 - x_15)]) (rest := []) rfl rfl dX12_addCrossing_66 m_X12_cross t_3265 t_3266 (c_X12_cross hl  rfl) rfl rfl (Nat.le_of_ble_eq_true rfl) (Nat.le_of_ble_eq_true rfl) (Nat.le_of_ble_eq_true rfl) (Nat.le_of_ble_eq_true rfl) ?_
  refine z_st (st' := [vl (fR_cross (x_1 - x_3) (x_5 - x_7) (x_9 - x_11) (x_13 - x_15))]) rfl ?_
  obtain ⟨x_17, x_17_e, H⟩ := lt_e H
  refine z_st (congrArg (fun z => vl z :: []) x_17_e) ?_
  refine z_lstore (M := M_X12_addCrossing) (lv' := [some (vr 277), some (vi i_0), some (vi j_0), some (vl (x_1 - x_3)), none, some (vl (x_5 - x_7)), none, some (vl (x_9 - x_11)), none, some (vl (x_13 - x_15)), none, some (vl x_17), none, none, none]) dX12_addCrossing_69 (Nat.le_of_ble_eq_true rfl) rfl rfl ?_
  refine z_aload_n (M := M_X12_addCrossing) dX12_addCrossing_71 rfl ?_
  refine z_getR (M := M_X12_addCrossing) (ci := 15) (C := RX12) (T := TX12) (Nf := 135) (ty := tyX12) cl15 dX12_addCrossing_72 ly_277 41 (by decide) t_2432 rfl ?_
  refine z_iload_n (M := M_X12_addCrossing) dX12_addCrossing_75 rfl ?_
  obtain ⟨x_18, x_18_e, hi_19, H⟩ := rd_e H
  refine z_lald (M := M_X12_addCrossing) dX12_addCrossing_76 ly_299 rfl rfl rfl hi_19 x_18_e ?_
  refine z_aload_n (M := M_X12_addCrossing) dX12_addCrossing_77 rfl ?_
  refine z_getR (M := M_X12_addCrossing) (ci := 15) (C := RX12) (T := TX12) (Nf := 135) (ty := tyX12) cl15 dX12_addCrossing_78 ly_277 41 (by decide) t_2432 rfl ?_
  refine z_iload_n (M := M_X12_addCrossing) dX12_addCrossing_81 rfl ?_
  obtain ⟨x_20, x_20_e, hi_21, H⟩ := rd_e H
  refine z_lald (M := M_X12_addCrossing) dX12_addCrossing_82 ly_299 rfl rfl rfl hi_21 x_20_e ?_
  refine z_lsub (M := M_X12_addCrossing) dX12_addCrossing_83 ?_
  refine z_aload_n (M := M_X12_addCrossing) dX12_addCrossing_84 rfl ?_
  refine z_getR (M := M_X12_addCrossing) (ci := 15) (C := RX12) (T := TX12) (Nf := 135) (ty := tyX12) cl15 dX12_addCrossing_85 ly_277 42 (by decide) t_2433 rfl ?_
  refine z_iload_n (M := M_X12_addCrossing) dX12_addCrossing_88 rfl ?_
  obtain ⟨x_22, x_22_e, hi_23, H⟩ := rd_e H
  refine z_lald (M := M_X12_addCrossing) dX12_addCrossing_89 ly_300 rfl rfl rfl hi_23 x_22_e ?_
  refine z_aload_n (M := M_X12_addCrossing) dX12_addCrossing_90 rfl ?_
  refine z_getR (M := M_X12_addCrossing) (ci := 15) (C := RX12) (T := TX12) (Nf := 135) (ty := tyX12) cl15 dX12_addCrossing_91 ly_277 42 (by decide) t_2433 rfl ?_
  refine z_iload_n (M := M_X12_addCrossing) dX12_addCrossing_94 rfl ?_
  obtain ⟨x_24, x_24_e, hi_25, H⟩ := rd_e H
  refine z_lald (M := M_X12_addCrossing) dX12_addCrossing_95 ly_300 rfl rfl rfl hi_25 x_24_e ?_
  refine z_lsub (M := M_X12_addCrossing) dX12_addCrossing_96 ?_
  refine z_lload (M := M_X12_addCrossing) dX12_addCrossing_97 rfl ?_
  refine z_lload (M := M_X12_addCrossing) dX12_addCrossing_99 rfl ?_
  refine z_callS (M := M_X12_addCrossing) (M' := M_X12_cross) (as := [vl (x_18 - x_20), vl (x_22 - x_24), vl (x_9 - x_11), vl (x_13 - x_15)]) (rest := []) rfl rfl dX12_addCrossing_101 m_X12_cross t_3265 t_3266 (c_X12_cross hl  rfl) rfl rfl (Nat.le_of_ble_eq_true rfl) (Nat.le_of_ble_eq_true rfl) (Nat.le_of_ble_eq_true rfl) (Nat.le_of_ble_eq_true rfl) ?_
  refine z_st (st' := [vl (fR_cross (x_18 - x_20) (x_22 - x_24) (x_9 - x_11) (x_13 - x_15))]) rfl ?_
  obtain ⟨x_26, x_26_e, H⟩ := lt_e H
  refine z_st (congrArg (fun z => vl z :: []) x_26_e) ?_
  refine z_lstore (M := M_X12_addCrossing) (lv' := [some (vr 277), some (vi i_0), some (vi j_0), some (vl (x_1 - x_3)), none, some (vl (x_5 - x_7)), none, some (vl (x_9 - x_11)), none, some (vl (x_13 - x_15)), none, some (vl x_17), none, some (vl x_26), none]) dX12_addCrossing_104 (Nat.le_of_ble_eq_true rfl) rfl rfl ?_
  have J_27 : YY l E M_X12_addCrossing 4 0 0 (pS (some (zv r)) σ') 121 [some (vr 277), some (vi i_0), some (vi j_0), some (vl (x_1 - x_3)), none, some (vl (x_5 - x_7)), none, some (vl (x_9 - x_11)), none, some (vl (x_13 - x_15)), none, some (vl x_17), none, some (vl x_26), none] [vl (if (w64 x_17) < 0 then (-x_26) else x_26)] σ 0 0 := by
    refine z_lstore (M := M_X12_addCrossing) (lv' := [some (vr 277), some (vi i_0), some (vi j_0), some (vl (x_1 - x_3)), none, some (vl (x_5 - x_7)), none, some (vl (x_9 - x_11)), none, some (vl (x_13 - x_15)), none, some (vl x_17), none, some (vl (if (w64 x_17) < 0 then (-x_26) else x_26)), none]) dX12_addCrossing_121 (Nat.le_of_ble_eq_true rfl) rfl rfl ?_
    have J_28 : YY l E M_X12_addCrossing 4 0 0 (pS (some (zv r)) σ') 138 [some (vr 277), some (vi i_0), some (vi j_0), some (vl (x_1 - x_3)), none, some (vl (x_5 - x_7)), none, some (vl (x_9 - x_11)), none, some (vl (x_13 - x_15)), none, some (vl x_17), none, some (vl (if (w64 x_17) < 0 then (-x_26) else x_26)), none] [vl (if (w64 x_17) < 0 then (-x_17) else x_17)] σ 0 0 := by
      refine z_lstore (M := M_X12_addCrossing) (lv' := [some (vr 277), some (vi i_0), some (vi j_0), some (vl (x_1 - x_3)), none, some (vl (x_5 - x_7)), none, some (vl (x_9 - x_11)), none, some (vl (x_13 - x_15)), none, some (vl (if (w64 x_17) < 0 then (-x_17) else x_17)), none, some (vl (if (w64 x_17) < 0 then (-x_26) else x_26)), none]) dX12_addCrossing_138 (Nat.le_of_ble_eq_true rfl) rfl rfl ?_
      refine z_aload_n (M := M_X12_addCrossing) dX12_addCrossing_140 rfl ?_
      refine z_aload_n (M := M_X12_addCrossing) dX12_addCrossing_141 rfl ?_
      refine z_getR (M := M_X12_addCrossing) (ci := 15) (C := RX12) (T := TX12) (Nf := 135) (ty := tyX12) cl15 dX12_addCrossing_142 ly_277 41 (by decide) t_2432 rfl ?_
      refine z_iload_n (M := M_X12_addCrossing) dX12_addCrossing_145 rfl ?_
      obtain ⟨x_29, x_29_e, hi_30, H⟩ := rd_e H
      refine z_lald (M := M_X12_addCrossing) dX12_addCrossing_146 ly_299 rfl rfl rfl hi_30 x_29_e ?_
      refine z_lload_n (M := M_X12_addCrossing) dX12_addCrossing_147 rfl ?_
      refine z_lload (M := M_X12_addCrossing) dX12_addCrossing_148 rfl ?_
      refine z_lload (M := M_X12_addCrossing) dX12_addCrossing_150 rfl ?_
      obtain ⟨x_32, hc_31, H⟩ := bd_e H
      refine z_callS (M := M_X12_addCrossing) (M' := M_X12_rounded) (as := [vl x_29, vl (x_1 - x_3), vl (if (w64 x_17) < 0 then (-x_26) else x_26), vl (if (w64 x_17) < 0 then (-x_17) else x_17)]) (rest := [vr 277]) rfl rfl dX12_addCrossing_152 m_X12_rounded t_3393 t_3394 (c_X12_rounded hl  hc_31) rfl rfl (Nat.le_of_ble_eq_true rfl) (Nat.le_of_ble_eq_true rfl) (Nat.le_of_ble_eq_true rfl) (Nat.le_of_ble_eq_true rfl) ?_
      refine z_st (st' := [vl x_32, vr 277]) rfl ?_
      refine z_aload_n (M := M_X12_addCrossing) dX12_addCrossing_155 rfl ?_
      refine z_getR (M := M_X12_addCrossing) (ci := 15) (C := RX12) (T := TX12) (Nf := 135) (ty := tyX12) cl15 dX12_addCrossing_156 ly_277 42 (by decide) t_2433 rfl ?_
      refine z_iload_n (M := M_X12_addCrossing) dX12_addCrossing_159 rfl ?_
      obtain ⟨x_33, x_33_e, hi_34, H⟩ := rd_e H
      refine z_lald (M := M_X12_addCrossing) dX12_addCrossing_160 ly_300 rfl rfl rfl hi_34 x_33_e ?_
      refine z_lload (M := M_X12_addCrossing) dX12_addCrossing_161 rfl ?_
      refine z_lload (M := M_X12_addCrossing) dX12_addCrossing_163 rfl ?_
      refine z_lload (M := M_X12_addCrossing) dX12_addCrossing_165 rfl ?_
      obtain ⟨x_36, hc_35, H⟩ := bd_e H
      refine z_callS (M := M_X12_addCrossing) (M' := M_X12_rounded) (as := [vl x_33, vl (x_5 - x_7), vl (if (w64 x_17) < 0 then (-x_26) else x_26), vl (if (w64 x_17) < 0 then (-x_17) else x_17)]) (rest := [vl x_32, vr 277]) rfl rfl dX12_addCrossing_167 m_X12_rounded t_3393 t_3394 (c_X12_rounded hl  hc_35) rfl rfl (Nat.le_of_ble_eq_true rfl) (Nat.le_of_ble_eq_true rfl) (Nat.le_of_ble_eq_true rfl) (Nat.le_of_ble_eq_true rfl) ?_
      refine z_st (st' := [vl x_36, vl x_32, vr 277]) rfl ?_
      obtain ⟨⟨x_39, σ_38⟩, hc_37, H⟩ := bd_e H
      refine z_callV (M := M_X12_addCrossing) (M' := M_X12_addHot) (as := [vl x_32, vl x_36]) (rest := []) rfl rfl dX12_addCrossing_170 m_X12_addHot t_3377 t_3379 s_255 (c_X12_addHot hl  hc_37) rfl rfl ly_277 rfl (Nat.le_of_ble_eq_true rfl) (Nat.le_of_ble_eq_true rfl) (Nat.le_of_ble_eq_true rfl) (Nat.le_of_ble_eq_true rfl) ?_
      refine z_st (st' := [zv x_39]) rfl ?_
      cases H
      exact z_zret (M := M_X12_addCrossing) dX12_addCrossing_173 rfl (Nat.le_of_ble_eq_true rfl) (Nat.le_of_ble_eq_true rfl) ⟨rfl, rfl⟩
    refine z_lload (M := M_X12_addCrossing) dX12_addCrossing_123 rfl ?_
    refine z_lconst (M := M_X12_addCrossing) (m := 0) dX12_addCrossing_125 (by decide +kernel) ?_
    refine z_lcmp (M := M_X12_addCrossing) dX12_addCrossing_126 ?_
    by_cases h_40 : (w64 x_17) < 0
    · refine z_lif_ge_f (M := M_X12_addCrossing) (tgt := 136) dX12_addCrossing_127 (by decide) rfl (by decide +kernel) h_40 ?_
      refine z_lload (M := M_X12_addCrossing) dX12_addCrossing_130 rfl ?_
      refine z_lneg (M := M_X12_addCrossing) dX12_addCrossing_132 ?_
      refine z_goto (M := M_X12_addCrossing) (tgt := 138) dX12_addCrossing_133 (by decide) ?_
      exact z_st (by rw [if_pos (c := (w64 x_17) < 0) h_40]) J_28
    · refine z_lif_ge_t (M := M_X12_addCrossing) (tgt := 136) dX12_addCrossing_127 (by decide) rfl (by decide +kernel) (Int.not_lt.mp h_40) ?_
      refine z_lload (M := M_X12_addCrossing) dX12_addCrossing_136 rfl ?_
      exact z_st (by rw [if_neg (c := (w64 x_17) < 0) h_40]) J_28
  refine z_lload (M := M_X12_addCrossing) dX12_addCrossing_106 rfl ?_
  refine z_lconst (M := M_X12_addCrossing) (m := 0) dX12_addCrossing_108 (by decide +kernel) ?_
  refine z_lcmp (M := M_X12_addCrossing) dX12_addCrossing_109 ?_
  by_cases h_41 : (w64 x_17) < 0
  · refine z_lif_ge_f (M := M_X12_addCrossing) (tgt := 119) dX12_addCrossing_110 (by decide) rfl (by decide +kernel) h_41 ?_
    refine z_lload (M := M_X12_addCrossing) dX12_addCrossing_113 rfl ?_
    refine z_lneg (M := M_X12_addCrossing) dX12_addCrossing_115 ?_
    refine z_goto (M := M_X12_addCrossing) (tgt := 121) dX12_addCrossing_116 (by decide) ?_
    exact z_st (by rw [if_pos (c := (w64 x_17) < 0) h_41]) J_27
  · refine z_lif_ge_t (M := M_X12_addCrossing) (tgt := 119) dX12_addCrossing_110 (by decide) rfl (by decide +kernel) (Int.not_lt.mp h_41) ?_
    refine z_lload (M := M_X12_addCrossing) dX12_addCrossing_119 rfl ?_
    exact z_st (by rw [if_neg (c := (w64 x_17) < 0) h_41]) J_27
theorem c_X12_heats (hl : l.stackTraces = false) {σ : SG} {r : Bool} {σ' : SG}  (H : fR_heats σ = some (r, σ')) : en_S l E M_X12_heats 5 0 0 [vr 277] σ (pS (some (zv r)) σ') := by
  unfold fR_heats at H
  refine z_mk (lv := [some (vr 277), none, none]) m_X12_heats rfl hl (Nat.le_of_ble_eq_true rfl) rfl ?_
  refine z_aload_n (M := M_X12_heats) dX12_heats_0 rfl ?_
  refine z_iconst (M := M_X12_heats) dX12_heats_1 ?_
  obtain ⟨σ_1, σ_1_e, H⟩ := wf_e H
  refine z_putI (M := M_X12_heats) (ci := 15) (C := RX12) (T := TX12) (Nf := 135) (ty := tyX12) cl15 dX12_heats_2 ly_277 69 (by decide) t_2460 rfl rfl rfl rfl σ_1_e ?_
  refine z_iconst (M := M_X12_heats) dX12_heats_5 ?_
  refine z_istore_n (M := M_X12_heats) (lv' := [some (vr 277), some (vi 0), none]) dX12_heats_6 (Nat.le_of_ble_eq_true rfl) rfl rfl ?_
  obtain ⟨rl_7, hw_4, hk_5, hk_6⟩ := bx_e H
  have J_113 : ∀ i_49 σ_50, rl_7 = (.inl (i_49, σ_50)) → YY l E M_X12_heats 5 0 0 (pS (some (zv r)) σ') 61 [some (vr 277), some (vi i_49), none] [] σ_50 0 0 := by
    intro i_49 σ_50 e
    have H := hk_5 _ e
    refine z_iconst (M := M_X12_heats) dX12_heats_61 ?_
    refine z_istore_n (M := M_X12_heats) (lv' := [some (vr 277), some (vi 0), none]) dX12_heats_62 (Nat.le_of_ble_eq_true rfl) rfl rfl ?_
    obtain ⟨rl_56, hw_53, hk_54, hk_55⟩ := bx_e H
    have J_112 : ∀ i_110 σ_111, rl_56 = (.inl (i_110, σ_111)) → YY l E M_X12_heats 5 0 0 (pS (some (zv r)) σ') 145 [some (vr 277), some (vi i_110), none] [] σ_111 0 0 := by
      intro i_110 σ_111 e
      have H := hk_54 _ e
      refine z_zconst (M := M_X12_heats) (b := true) dX12_heats_145 rfl ?_
      cases H
      exact z_zret (M := M_X12_heats) dX12_heats_146 rfl (Nat.le_of_ble_eq_true rfl) (Nat.le_of_ble_eq_true rfl) ⟨rfl, rfl⟩
    refine whl_go hw_53 (fun (i_51, σ_52) => YY l E M_X12_heats 5 0 0 (pS (some (zv r)) σ') 63 [some (vr 277), some (vi i_51), none] [] σ_52 0 0) ?_
    rintro ⟨i_51, σ_52⟩ o_57 H K_58 K_59
    refine z_iload_n (M := M_X12_heats) dX12_heats_63 rfl ?_
    refine z_aload_n (M := M_X12_heats) dX12_heats_64 rfl ?_
    refine z_getI (M := M_X12_heats) (ci := 15) (C := RX12) (T := TX12) (Nf := 135) (ty := tyX12) cl15 dX12_heats_65 ly_277 48 (by decide) t_2439 rfl rfl ?_
    rcases if_e H with ⟨h_60, H⟩ | ⟨h_60, H⟩
    · refine z_icmp_ge_f (M := M_X12_heats) (tgt := 145) dX12_heats_68 (by decide) rfl rfl h_60 ?_
      refine z_aload_n (M := M_X12_heats) dX12_heats_71 rfl ?_
      refine z_iload_n (M := M_X12_heats) dX12_heats_72 rfl ?_
      obtain ⟨x_62, hc_61, H⟩ := bd_e H
      refine z_callV (M := M_X12_heats) (M' := M_X12_isAlike) (as := [vi i_51]) (rest := []) rfl rfl dX12_heats_73 m_X12_isAlike t_3385 t_3387 s_257 (c_X12_isAlike hl  hc_61) rfl rfl ly_277 rfl (Nat.le_of_ble_eq_true rfl) (Nat.le_of_ble_eq_true rfl) (Nat.le_of_ble_eq_true rfl) (Nat.le_of_ble_eq_true rfl) ?_
      refine z_st (st' := [zv x_62]) rfl ?_
      rcases if_e H with ⟨h_63, H⟩ | ⟨h_63, H⟩
      · refine z_zeq_f (M := M_X12_heats) (tgt := 82) dX12_heats_76 (by decide) h_63 ?_
        refine z_goto (M := M_X12_heats) (tgt := 139) dX12_heats_79 (by decide) ?_
        refine z_iinc (M := M_X12_heats) (lv' := [some (vr 277), some (vi (i_51 + 1)), none]) dX12_heats_139 rfl (Nat.le_of_ble_eq_true rfl) rfl rfl ?_
        refine z_goto (M := M_X12_heats) (tgt := 63) dX12_heats_142 (by decide) ?_
        exact K_58 _ (Option.some.inj H).symm
      · refine z_zeq_t (M := M_X12_heats) (tgt := 82) dX12_heats_76 (by decide) h_63 ?_
        refine z_iload_n (M := M_X12_heats) dX12_heats_82 rfl ?_
        refine z_iconst (M := M_X12_heats) dX12_heats_83 ?_
        refine z_iadd (M := M_X12_heats) dX12_heats_84 ?_
        refine z_istore_n (M := M_X12_heats) (lv' := [some (vr 277), some (vi i_51), some (vi (i_51 + 1))]) dX12_heats_85 (Nat.le_of_ble_eq_true rfl) rfl rfl ?_
        obtain ⟨rl_70, hw_67, hk_68, hk_69⟩ := bx_e H
        have J_108 : ∀ j_105 σ_106, rl_70 = (.inl (j_105, σ_106)) → YY l E M_X12_heats 5 0 0 (pS (some (zv r)) σ') 139 [some (vr 277), some (vi i_51), some (vi j_105)] [] σ_106 0 0 := by
          intro j_105 σ_106 e
          have H := hk_68 _ e
          refine z_iinc (M := M_X12_heats) (lv' := [some (vr 277), some (vi (i_51 + 1)), some (vi j_105)]) dX12_heats_139 rfl (Nat.le_of_ble_eq_true rfl) rfl rfl ?_
          refine z_goto (M := M_X12_heats) (tgt := 63) dX12_heats_142 (by decide) ?_
          refine z_le (lv' := [some (vr 277), some (vi (i_51 + 1)), none]) ⟨Or.inr rfl, Or.inr rfl, Or.inl rfl, trivial⟩ ?_
          exact K_58 _ (Option.some.inj H).symm
        refine whl_go hw_67 (fun (j_65, σ_66) => YY l E M_X12_heats 5 0 0 (pS (some (zv r)) σ') 86 [some (vr 277), some (vi i_51), some (vi j_65)] [] σ_66 0 0) ?_
        rintro ⟨j_65, σ_66⟩ o_71 H K_72 K_73
        refine z_iload_n (M := M_X12_heats) dX12_heats_86 rfl ?_
        refine z_aload_n (M := M_X12_heats) dX12_heats_87 rfl ?_
        refine z_getI (M := M_X12_heats) (ci := 15) (C := RX12) (T := TX12) (Nf := 135) (ty := tyX12) cl15 dX12_heats_88 ly_277 48 (by decide) t_2439 rfl rfl ?_
        rcases if_e H with ⟨h_74, H⟩ | ⟨h_74, H⟩
        · refine z_icmp_ge_f (M := M_X12_heats) (tgt := 139) dX12_heats_91 (by decide) rfl rfl h_74 ?_
          refine z_aload_n (M := M_X12_heats) dX12_heats_94 rfl ?_
          refine z_iload_n (M := M_X12_heats) dX12_heats_95 rfl ?_
          obtain ⟨x_89, hc_88, H⟩ := bd_e H
          refine z_callV (M := M_X12_heats) (M' := M_X12_isAlike) (as := [vi j_65]) (rest := []) rfl rfl dX12_heats_96 m_X12_isAlike t_3385 t_3387 s_257 (c_X12_isAlike hl  hc_88) rfl rfl ly_277 rfl (Nat.le_of_ble_eq_true rfl) (Nat.le_of_ble_eq_true rfl) (Nat.le_of_ble_eq_true rfl) (Nat.le_of_ble_eq_true rfl) ?_
          refine z_st (st' := [zv x_89]) rfl ?_
          rcases if_e H with ⟨h_90, H⟩ | ⟨h_90, H⟩
          · refine z_zne_t (M := M_X12_heats) (tgt := 133) dX12_heats_99 (by decide) h_90 ?_
            refine z_iinc (M := M_X12_heats) (lv' := [some (vr 277), some (vi i_51), some (vi (j_65 + 1))]) dX12_heats_133 rfl (Nat.le_of_ble_eq_true rfl) rfl rfl ?_
            refine z_goto (M := M_X12_heats) (tgt := 86) dX12_heats_136 (by decide) ?_
            exact K_72 _ (Option.some.inj H).symm
          · refine z_zne_f (M := M_X12_heats) (tgt := 133) dX12_heats_99 (by decide) h_90 ?_
            refine z_aload_n (M := M_X12_heats) dX12_heats_102 rfl ?_
            refine z_iload_n (M := M_X12_heats) dX12_heats_103 rfl ?_
            refine z_iload_n (M := M_X12_heats) dX12_heats_104 rfl ?_
            obtain ⟨⟨x_94, σ_93⟩, hc_92, H⟩ := bd_e H
            refine z_callV (M := M_X12_heats) (M' := M_X12_meet) (as := [vi i_51, vi j_65]) (rest := []) rfl rfl dX12_heats_105 m_X12_meet t_3258 t_3260 s_233 (c_X12_meet hl  hc_92) rfl rfl ly_277 rfl (Nat.le_of_ble_eq_true rfl) (Nat.le_of_ble_eq_true rfl) (Nat.le_of_ble_eq_true rfl) (Nat.le_of_ble_eq_true rfl) ?_
            refine z_st (st' := [vi x_94]) rfl ?_
            refine z_iconst (M := M_X12_heats) dX12_heats_108 ?_
            rcases if_e H with ⟨h_95, H⟩ | ⟨h_95, H⟩
            · refine z_icmp_ne_t (M := M_X12_heats) (tgt := 133) dX12_heats_109 (by decide) rfl (by decide +kernel) h_95 ?_
              refine z_iinc (M := M_X12_heats) (lv' := [some (vr 277), some (vi i_51), some (vi (j_65 + 1))]) dX12_heats_133 rfl (Nat.le_of_ble_eq_true rfl) rfl rfl ?_
              refine z_goto (M := M_X12_heats) (tgt := 86) dX12_heats_136 (by decide) ?_
              exact K_72 _ (Option.some.inj H).symm
            · refine z_icmp_ne_f (M := M_X12_heats) (tgt := 133) dX12_heats_109 (by decide) rfl (by decide +kernel) (Decidable.not_not.mp h_95) ?_
              refine z_aload_n (M := M_X12_heats) dX12_heats_112 rfl ?_
              refine z_getZ (M := M_X12_heats) (ci := 15) (C := RX12) (T := TX12) (Nf := 135) (ty := tyX12) cl15 dX12_heats_113 ly_277 49 (by decide) t_2440 rfl rfl ?_
              rcases if_e H with ⟨h_97, H⟩ | ⟨h_97, H⟩
              · refine z_zne_t (M := M_X12_heats) (tgt := 122) dX12_heats_116 (by decide) h_97 ?_
                refine z_aload_n (M := M_X12_heats) dX12_heats_122 rfl ?_
                refine z_iload_n (M := M_X12_heats) dX12_heats_123 rfl ?_
                refine z_iload_n (M := M_X12_heats) dX12_heats_124 rfl ?_
                obtain ⟨⟨x_100, σ_99⟩, hc_98, H⟩ := bd_e H
                refine z_callV (M := M_X12_heats) (M' := M_X12_addCrossing) (as := [vi i_51, vi j_65]) (rest := []) rfl rfl dX12_heats_125 m_X12_addCrossing t_3389 t_3391 s_258 (c_X12_addCrossing hl  hc_98) rfl rfl ly_277 rfl (Nat.le_of_ble_eq_true rfl) (Nat.le_of_ble_eq_true rfl) (Nat.le_of_ble_eq_true rfl) (Nat.le_of_ble_eq_true rfl) ?_
                refine z_st (st' := [zv x_100]) rfl ?_
                rcases if_e H with ⟨h_101, H⟩ | ⟨h_101, H⟩
                · refine z_zne_t (M := M_X12_heats) (tgt := 133) dX12_heats_128 (by decide) h_101 ?_
                  refine z_iinc (M := M_X12_heats) (lv' := [some (vr 277), some (vi i_51), some (vi (j_65 + 1))]) dX12_heats_133 rfl (Nat.le_of_ble_eq_true rfl) rfl rfl ?_
                  refine z_goto (M := M_X12_heats) (tgt := 86) dX12_heats_136 (by decide) ?_
                  exact K_72 _ (Option.some.inj H).symm
                · refine z_zne_f (M := M_X12_heats) (tgt := 133) dX12_heats_128 (by decide) h_101 ?_
                  refine z_zconst (M := M_X12_heats) (b := false) dX12_heats_131 rfl ?_
                  have H := congrArg some (hk_69 _ ((K_73 _ (Option.some.inj H).symm).symm))
                  have H := congrArg some (hk_55 _ ((K_59 _ (Option.some.inj H).symm).symm))
                  cases H
                  exact z_zret (M := M_X12_heats) dX12_heats_132 rfl (Nat.le_of_ble_eq_true rfl) (Nat.le_of_ble_eq_true rfl) ⟨rfl, rfl⟩
              · refine z_zne_f (M := M_X12_heats) (tgt := 122) dX12_heats_116 (by decide) h_97 ?_
                refine z_goto (M := M_X12_heats) (tgt := 133) dX12_heats_119 (by decide) ?_
                refine z_iinc (M := M_X12_heats) (lv' := [some (vr 277), some (vi i_51), some (vi (j_65 + 1))]) dX12_heats_133 rfl (Nat.le_of_ble_eq_true rfl) rfl rfl ?_
                refine z_goto (M := M_X12_heats) (tgt := 86) dX12_heats_136 (by decide) ?_
                exact K_72 _ (Option.some.inj H).symm
        · refine z_icmp_ge_t (M := M_X12_heats) (tgt := 139) dX12_heats_91 (by decide) rfl rfl (Int.not_lt.mp h_74) ?_
          exact J_108 _ _ (K_73 _ (Option.some.inj H).symm).symm
    · refine z_icmp_ge_t (M := M_X12_heats) (tgt := 145) dX12_heats_68 (by decide) rfl rfl (Int.not_lt.mp h_60) ?_
      exact J_112 _ _ (K_59 _ (Option.some.inj H).symm).symm
  refine whl_go hw_4 (fun (i_2, σ_3) => YY l E M_X12_heats 5 0 0 (pS (some (zv r)) σ') 7 [some (vr 277), some (vi i_2), none] [] σ_3 0 0) ?_
  rintro ⟨i_2, σ_3⟩ o_8 H K_9 K_10
  refine z_iload_n (M := M_X12_heats) dX12_heats_7 rfl ?_
  refine z_aload_n (M := M_X12_heats) dX12_heats_8 rfl ?_
  refine z_getI (M := M_X12_heats) (ci := 15) (C := RX12) (T := TX12) (Nf := 135) (ty := tyX12) cl15 dX12_heats_9 ly_277 48 (by decide) t_2439 rfl rfl ?_
  rcases if_e H with ⟨h_11, H⟩ | ⟨h_11, H⟩
  · refine z_icmp_ge_f (M := M_X12_heats) (tgt := 61) dX12_heats_12 (by decide) rfl rfl h_11 ?_
    refine z_aload_n (M := M_X12_heats) dX12_heats_15 rfl ?_
    refine z_aload_n (M := M_X12_heats) dX12_heats_16 rfl ?_
    refine z_getR (M := M_X12_heats) (ci := 15) (C := RX12) (T := TX12) (Nf := 135) (ty := tyX12) cl15 dX12_heats_17 ly_277 41 (by decide) t_2432 rfl ?_
    refine z_iload_n (M := M_X12_heats) dX12_heats_20 rfl ?_
    obtain ⟨x_31, x_31_e, hi_32, H⟩ := rd_e H
    refine z_lald (M := M_X12_heats) dX12_heats_21 ly_299 rfl rfl rfl hi_32 x_31_e ?_
    refine z_aload_n (M := M_X12_heats) dX12_heats_22 rfl ?_
    refine z_getR (M := M_X12_heats) (ci := 15) (C := RX12) (T := TX12) (Nf := 135) (ty := tyX12) cl15 dX12_heats_23 ly_277 42 (by decide) t_2433 rfl ?_
    refine z_iload_n (M := M_X12_heats) dX12_heats_26 rfl ?_
    obtain ⟨x_33, x_33_e, hi_34, H⟩ := rd_e H
    refine z_lald (M := M_X12_heats) dX12_heats_27 ly_300 rfl rfl rfl hi_34 x_33_e ?_
    obtain ⟨⟨x_37, σ_36⟩, hc_35, H⟩ := bd_e H
    refine z_callV (M := M_X12_heats) (M' := M_X12_addHot) (as := [vl x_31, vl x_33]) (rest := []) rfl rfl dX12_heats_28 m_X12_addHot t_3377 t_3379 s_255 (c_X12_addHot hl  hc_35) rfl rfl ly_277 rfl (Nat.le_of_ble_eq_true rfl) (Nat.le_of_ble_eq_true rfl) (Nat.le_of_ble_eq_true rfl) (Nat.le_of_ble_eq_true rfl) ?_
    refine z_st (st' := [zv x_37]) rfl ?_
    rcases if_e H with ⟨h_38, H⟩ | ⟨h_38, H⟩
    · refine z_zeq_f (M := M_X12_heats) (tgt := 53) dX12_heats_31 (by decide) h_38 ?_
      refine z_aload_n (M := M_X12_heats) dX12_heats_34 rfl ?_
      refine z_aload_n (M := M_X12_heats) dX12_heats_35 rfl ?_
      refine z_getR (M := M_X12_heats) (ci := 15) (C := RX12) (T := TX12) (Nf := 135) (ty := tyX12) cl15 dX12_heats_36 ly_277 43 (by decide) t_2434 rfl ?_
      refine z_iload_n (M := M_X12_heats) dX12_heats_39 rfl ?_
      obtain ⟨x_39, x_39_e, hi_40, H⟩ := rd_e H
      refine z_lald (M := M_X12_heats) dX12_heats_40 ly_301 rfl rfl rfl hi_40 x_39_e ?_
      refine z_aload_n (M := M_X12_heats) dX12_heats_41 rfl ?_
      refine z_getR (M := M_X12_heats) (ci := 15) (C := RX12) (T := TX12) (Nf := 135) (ty := tyX12) cl15 dX12_heats_42 ly_277 44 (by decide) t_2435 rfl ?_
      refine z_iload_n (M := M_X12_heats) dX12_heats_45 rfl ?_
      obtain ⟨x_41, x_41_e, hi_42, H⟩ := rd_e H
      refine z_lald (M := M_X12_heats) dX12_heats_46 ly_302 rfl rfl rfl hi_42 x_41_e ?_
      obtain ⟨⟨x_45, σ_44⟩, hc_43, H⟩ := bd_e H
      refine z_callV (M := M_X12_heats) (M' := M_X12_addHot) (as := [vl x_39, vl x_41]) (rest := []) rfl rfl dX12_heats_47 m_X12_addHot t_3377 t_3379 s_255 (c_X12_addHot hl  hc_43) rfl rfl ly_277 rfl (Nat.le_of_ble_eq_true rfl) (Nat.le_of_ble_eq_true rfl) (Nat.le_of_ble_eq_true rfl) (Nat.le_of_ble_eq_true rfl) ?_
      refine z_st (st' := [zv x_45]) rfl ?_
      rcases if_e H with ⟨h_46, H⟩ | ⟨h_46, H⟩
      · refine z_zne_t (M := M_X12_heats) (tgt := 55) dX12_heats_50 (by decide) h_46 ?_
        refine z_iinc (M := M_X12_heats) (lv' := [some (vr 277), some (vi (i_2 + 1)), none]) dX12_heats_55 rfl (Nat.le_of_ble_eq_true rfl) rfl rfl ?_
        refine z_goto (M := M_X12_heats) (tgt := 7) dX12_heats_58 (by decide) ?_
        exact K_9 _ (Option.some.inj H).symm
      · refine z_zne_f (M := M_X12_heats) (tgt := 55) dX12_heats_50 (by decide) h_46 ?_
        refine z_zconst (M := M_X12_heats) (b := false) dX12_heats_53 rfl ?_
        have H := congrArg some (hk_6 _ ((K_10 _ (Option.some.inj H).symm).symm))
        cases H
        exact z_zret (M := M_X12_heats) dX12_heats_54 rfl (Nat.le_of_ble_eq_true rfl) (Nat.le_of_ble_eq_true rfl) ⟨rfl, rfl⟩
    · refine z_zeq_t (M := M_X12_heats) (tgt := 53) dX12_heats_31 (by decide) h_38 ?_
      refine z_zconst (M := M_X12_heats) (b := false) dX12_heats_53 rfl ?_
      have H := congrArg some (hk_6 _ ((K_10 _ (Option.some.inj H).symm).symm))
      cases H
      exact z_zret (M := M_X12_heats) dX12_heats_54 rfl (Nat.le_of_ble_eq_true rfl) (Nat.le_of_ble_eq_true rfl) ⟨rfl, rfl⟩
  · refine z_icmp_ge_t (M := M_X12_heats) (tgt := 61) dX12_heats_12 (by decide) rfl rfl (Int.not_lt.mp h_11) ?_
    exact J_113 _ _ (K_10 _ (Option.some.inj H).symm).symm
end LFAW
